section
/-- VectorShelf$TextReader.fail()V -/
def v_96 (I : WI) : WI := (bx ((if ¬ (I 31 6) = (-1) then I else (up2 I 31 6 (I 31 2))) : WI) (fun p1 => (up2 p1 31 4 257)))
theorem cc_96 {l : LX} {d : Nat} {I : WI} {F : WF} {L : WL} {t : Nat} : Con l 96 (d + 0) 0 0 [.ref 31] SH (I, F, L, RT t) (po_V_I F L t (v_96 I)) := by
  refine cn_96 ?_
  obtain ⟨T1, hT1⟩ : ∃ r : WI, r = (v_96 I) := ⟨_, rfl⟩
  rw [← hT1]
  have he := (hT1.trans (v_96.eq_1 ..)).symm
  obtain ⟨X1, hX1⟩ : ∃ r : WI, r = (if ¬ (I 31 6) = (-1) then I else (up2 I 31 6 (I 31 2))) := ⟨_, rfl⟩
  have J1 : ∀ p1 : WI, p1 = X1 → Wp l 96 (d + 0) 0 0 (po_V_I F L t T1) 0 0 16 [(0, .ref 31)] [] SH (p1, F, L, RT t) := by
    intro p1 hr
    have hr := hr.trans hX1
    have he := bx_eq hr he
    exact bk_96_16 (rl_V_I he)
  have he := hX1.symm
  refine bk_96_0 (fun h1 => ?_) (fun h1 => ?_)
  · have he := ite_p h1 he
    exact J1 I he
  · have he := ite_n h1 he
    refine bk_96_8 ?_
    exact J1 (up2 I 31 6 (I 31 2)) he
/-- VectorShelf.isIn(III)Z -/
def v_107 (x0 : Int32) (x1 : Int32) (x2 : Int32) : Int32 := (if x0 < x1 then 0 else (if x2 < x0 then 0 else 1))
theorem cc_107 {l : LX} {d : Nat} {I : WI} {F : WF} {L : WL} {t : Nat} {x0 : Int32} {x1 : Int32} {x2 : Int32} : Con l 107 (d + 0) 0 0 [.int x0, .int x1, .int x2] SH (I, F, L, RT t) (rI (v_107 x0 x1 x2) (I, F, L, RT t)) := by
  refine cn_107 ?_
  obtain ⟨T1, hT1⟩ : ∃ r : Int32, r = (v_107 x0 x1 x2) := ⟨_, rfl⟩
  rw [← hT1]
  have he := (hT1.trans (v_107.eq_1 ..)).symm
  refine bk_107_0 (fun h1 => ?_) (fun h1 => ?_)
  · have he := ite_p h1 he
    refine bk_107_14 ?_
    exact bk_107_15 (by decide) (rl_p_I he)
  · have he := ite_n h1 he
    refine bk_107_5 (fun h2 => ?_) (fun h2 => ?_)
    · have he := ite_p h2 he
      refine bk_107_14 ?_
      exact bk_107_15 (by decide) (rl_p_I he)
    · have he := ite_n h2 he
      refine bk_107_10 ?_
      exact bk_107_15 (by decide) (rl_p_I he)
theorem sb_107 (x0 : Int32) (x1 : Int32) (x2 : Int32) : (v_107 x0 x1 x2) &&& 1 = (v_107 x0 x1 x2) := by
  unfold v_107
  repeat' split
  all_goals first | rfl
/-- VectorShelf.isVector(I)Z -/
def v_110 (I : WI) (x1 : Int32) : Int32 := (v_107 x1 (0 : Int32) ((I 1 8) - 1))
theorem cc_110 {l : LX} {d : Nat} {I : WI} {F : WF} {L : WL} {t : Nat} {x1 : Int32} : Con l 110 (d + 1) 0 0 [.ref 0, .int x1] SH (I, F, L, RT t) (rI (v_110 I x1) (I, F, L, RT t)) := by
  refine cn_110 ?_
  obtain ⟨T1, hT1⟩ : ∃ r : Int32, r = (v_110 I x1) := ⟨_, rfl⟩
  rw [← hT1]
  have he := (hT1.trans (v_110.eq_1 ..)).symm
  refine bk_110_0 (cc_107 (d := d + 0) ) ?_
  exact bk_110_14 (sb_107 ..) (rl_p_I he)
theorem sb_110 (I : WI) (x1 : Int32) : (v_110 I x1) &&& 1 = (v_110 I x1) := by
  unfold v_110
  repeat' split
  all_goals first | rfl | exact sb_107 ..
/-- VectorShelf.isBit(II)Z -/
def v_111 (x0 : Int32) (x1 : Int32) : Int32 := (if ¬ ((x0 >>> (x1 &&& 31)) &&& 1) = 1 then 0 else 1)
theorem cc_111 {l : LX} {d : Nat} {I : WI} {F : WF} {L : WL} {t : Nat} {x0 : Int32} {x1 : Int32} : Con l 111 (d + 0) 0 0 [.int x0, .int x1] SH (I, F, L, RT t) (rI (v_111 x0 x1) (I, F, L, RT t)) := by
  refine cn_111 ?_
  obtain ⟨T1, hT1⟩ : ∃ r : Int32, r = (v_111 x0 x1) := ⟨_, rfl⟩
  rw [← hT1]
  have he := (hT1.trans (v_111.eq_1 ..)).symm
  refine bk_111_0 (fun h1 => ?_) (fun h1 => ?_)
  · have he := ite_p h1 he
    refine bk_111_13 ?_
    exact bk_111_14 (by decide) (rl_p_I he)
  · have he := ite_n h1 he
    refine bk_111_9 ?_
    exact bk_111_14 (by decide) (rl_p_I he)
theorem sb_111 (x0 : Int32) (x1 : Int32) : (v_111 x0 x1) &&& 1 = (v_111 x0 x1) := by
  unfold v_111
  repeat' split
  all_goals first | rfl
/-- VectorShelf.ruleOf(LVectorShelf$Shelf;)LVectorShelf$Text; -/
def v_115 (I : WI) (r1 : Nat) : Nat := (bx ((if (v_107 (I r1 2) (0 : Int32) ((I 0 9) - 1)) = 0 then 0 else (I r1 2)) : Int32) (fun p1 => (bx ((45 + 2 * p1.toNatClampNeg) : Nat) (fun p2 => p2))))
def g_115 (I : WI) (r1 : Nat) : Prop := (bx ((if (v_107 (I r1 2) (0 : Int32) ((I 0 9) - 1)) = 0 then 0 else (I r1 2)) : Int32) (fun p1 => (vp_in p1 6)))
theorem cc_115 {l : LX} {d : Nat} {I : WI} {F : WF} {L : WL} {t : Nat} {r1 : Nat} (hr1 : isS r1) (hg : g_115 I r1) : Con l 115 (d + 1) 0 0 [.ref 0, .ref r1] SH (I, F, L, RT t) (rR (v_115 I r1) (I, F, L, RT t)) := by
  refine cn_115 ?_
  obtain ⟨T1, hT1⟩ : ∃ r : Nat, r = (v_115 I r1) := ⟨_, rfl⟩
  rw [← hT1]
  have he := (hT1.trans (v_115.eq_1 ..)).symm
  have hg := Eq.mp (g_115.eq_1 ..) hg
  refine bk_115_0 hr1 (cc_107 (d := d + 0) ) ?_
  obtain ⟨X1, hX1⟩ : ∃ r : Int32, r = (if (v_107 (I r1 2) (0 : Int32) ((I 0 9) - 1)) = 0 then 0 else (I r1 2)) := ⟨_, rfl⟩
  have J1 : ∀ p1 : Int32, p1 = X1 → Wp l 115 (d + 1) 0 0 (rR T1 (I, F, L, RT t)) 0 0 29 [] [.int p1, .ref 44] SH (I, F, L, RT t) := by
    intro p1 hr
    have hr := hr.trans hX1
    have he := bx_eq hr he
    have hg := bx_un hr hg
    have k3 := hg
    obtain ⟨p2, hnp2⟩ : ∃ q : Nat, q = (45 + 2 * p1.toNatClampNeg) := ⟨_, rfl⟩
    have hp2 : isT p2 := by rw [hnp2]; exact isT_at k3
    have he := bx_eq hnp2 he
    refine bk_115_29 k3 (show RT t 44 p1.toNatClampNeg = some p2 from by rw [hnp2]; exact RT_at44 k3) ?_
    exact bk_115_30 (rl_p_R he)
  have he := hX1.symm
  refine bk_115_18 (fun h2 => ?_) (fun h2 => ?_)
  · have he := ite_p h2 he
    refine bk_115_28 ?_
    exact J1 0 he
  · have he := ite_n h2 he
    refine bk_115_21 hr1 ?_
    exact J1 (I r1 2) he
/-- VectorShelf.isSetting(II)Z -/
def v_118 (x0 : Int32) (x1 : Int32) : Int32 := (if x0 = 0 then (v_107 x1 (1 : Int32) (64 : Int32)) else (if x0 = 1 then (v_107 x1 (0 : Int32) (99 : Int32)) else (if x0 = 2 then (v_107 x1 (0 : Int32) (999999 : Int32)) else (if x0 = 3 then (v_107 x1 (0 : Int32) (5 : Int32)) else (if x0 = 4 then (v_107 x1 (1 : Int32) (9 : Int32)) else (if x0 = 5 then (v_107 x1 (1 : Int32) (9 : Int32)) else (if x0 = 6 then (v_107 x1 (1 : Int32) (9 : Int32)) else 0)))))))
theorem cc_118 {l : LX} {d : Nat} {I : WI} {F : WF} {L : WL} {t : Nat} {x0 : Int32} {x1 : Int32} : Con l 118 (d + 1) 0 0 [.int x0, .int x1] SH (I, F, L, RT t) (rI (v_118 x0 x1) (I, F, L, RT t)) := by
  refine cn_118 ?_
  obtain ⟨T1, hT1⟩ : ∃ r : Int32, r = (v_118 x0 x1) := ⟨_, rfl⟩
  rw [← hT1]
  have he := (hT1.trans (v_118.eq_1 ..)).symm
  refine bk_118_0 (fun h1 => ?_) (fun h1 => ?_) (fun h1 => ?_) (fun h1 => ?_) (fun h1 => ?_) (fun h1 => ?_) (fun h1 => ?_) (fun h1x0 h1x1 h1x2 h1x3 h1x4 h1x5 h1x6 => ?_)
  · have he := ite_p h1 he
    refine bk_118_44 (cc_107 (d := d + 0) ) ?_
    exact bk_118_51 (sb_107 ..) (rl_p_I he)
  · have he := ite_n (show ¬ x0 = 0 from fun e => absurd (h1.symm.trans e) (by decide)) he
    have he := ite_p h1 he
    refine bk_118_52 (cc_107 (d := d + 0) ) ?_
    exact bk_118_59 (sb_107 ..) (rl_p_I he)
  · have he := ite_n (show ¬ x0 = 0 from fun e => absurd (h1.symm.trans e) (by decide)) he
    have he := ite_n (show ¬ x0 = 1 from fun e => absurd (h1.symm.trans e) (by decide)) he
    have he := ite_p h1 he
    refine bk_118_60 (cc_107 (d := d + 0) ) ?_
    exact bk_118_67 (sb_107 ..) (rl_p_I he)
  · have he := ite_n (show ¬ x0 = 0 from fun e => absurd (h1.symm.trans e) (by decide)) he
    have he := ite_n (show ¬ x0 = 1 from fun e => absurd (h1.symm.trans e) (by decide)) he
    have he := ite_n (show ¬ x0 = 2 from fun e => absurd (h1.symm.trans e) (by decide)) he
    have he := ite_p h1 he
    refine bk_118_68 (cc_107 (d := d + 0) ) ?_
    exact bk_118_74 (sb_107 ..) (rl_p_I he)
  · have he := ite_n (show ¬ x0 = 0 from fun e => absurd (h1.symm.trans e) (by decide)) he
    have he := ite_n (show ¬ x0 = 1 from fun e => absurd (h1.symm.trans e) (by decide)) he
    have he := ite_n (show ¬ x0 = 2 from fun e => absurd (h1.symm.trans e) (by decide)) he
    have he := ite_n (show ¬ x0 = 3 from fun e => absurd (h1.symm.trans e) (by decide)) he
    have he := ite_p h1 he
    refine bk_118_75 (cc_107 (d := d + 0) ) ?_
    exact bk_118_82 (sb_107 ..) (rl_p_I he)
  · have he := ite_n (show ¬ x0 = 0 from fun e => absurd (h1.symm.trans e) (by decide)) he
    have he := ite_n (show ¬ x0 = 1 from fun e => absurd (h1.symm.trans e) (by decide)) he
    have he := ite_n (show ¬ x0 = 2 from fun e => absurd (h1.symm.trans e) (by decide)) he
    have he := ite_n (show ¬ x0 = 3 from fun e => absurd (h1.symm.trans e) (by decide)) he
    have he := ite_n (show ¬ x0 = 4 from fun e => absurd (h1.symm.trans e) (by decide)) he
    have he := ite_p h1 he
    refine bk_118_75 (cc_107 (d := d + 0) ) ?_
    exact bk_118_82 (sb_107 ..) (rl_p_I he)
  · have he := ite_n (show ¬ x0 = 0 from fun e => absurd (h1.symm.trans e) (by decide)) he
    have he := ite_n (show ¬ x0 = 1 from fun e => absurd (h1.symm.trans e) (by decide)) he
    have he := ite_n (show ¬ x0 = 2 from fun e => absurd (h1.symm.trans e) (by decide)) he
    have he := ite_n (show ¬ x0 = 3 from fun e => absurd (h1.symm.trans e) (by decide)) he
    have he := ite_n (show ¬ x0 = 4 from fun e => absurd (h1.symm.trans e) (by decide)) he
    have he := ite_n (show ¬ x0 = 5 from fun e => absurd (h1.symm.trans e) (by decide)) he
    have he := ite_p h1 he
    refine bk_118_75 (cc_107 (d := d + 0) ) ?_
    exact bk_118_82 (sb_107 ..) (rl_p_I he)
  · have he := ite_n h1x0 he
    have he := ite_n h1x1 he
    have he := ite_n h1x2 he
    have he := ite_n h1x3 he
    have he := ite_n h1x4 he
    have he := ite_n h1x5 he
    have he := ite_n h1x6 he
    exact bk_118_83 (rl_p_I he)
theorem sb_118 (x0 : Int32) (x1 : Int32) : (v_118 x0 x1) &&& 1 = (v_118 x0 x1) := by
  unfold v_118
  repeat' split
  all_goals first | rfl | exact sb_107 ..
/-- VectorShelf.high(I)I -/
def v_122 (x1 : Int32) : Int32 := (if (v_107 x1 (0 : Int32) (999999999 : Int32)) = 0 then (-2) else (FP.f2i (v_31 x1)))
def g_122 (x1 : Int32) : Prop := (¬ ((v_107 x1 (0 : Int32) (999999999 : Int32)) = 0) → (g_31 x1))
theorem cc_122 {l : LX} {d : Nat} {I : WI} {F : WF} {L : WL} {t : Nat} {x1 : Int32} (hg : g_122 x1) : Con l 122 (d + 1) 0 0 [.ref 0, .int x1] SH (I, F, L, RT t) (rI (v_122 x1) (I, F, L, RT t)) := by
  refine cn_122 ?_
  obtain ⟨T1, hT1⟩ : ∃ r : Int32, r = (v_122 x1) := ⟨_, rfl⟩
  rw [← hT1]
  have he := (hT1.trans (v_122.eq_1 ..)).symm
  have hg := Eq.mp (g_122.eq_1 ..) hg
  refine bk_122_0 (cc_107 (d := d + 0) ) ?_
  refine bk_122_7 (fun h2 => ?_) (fun h2 => ?_)
  · have he := ite_p h2 he
    refine bk_122_18 ?_
    exact bk_122_20 (rl_p_I he)
  · have he := ite_n h2 he
    have hg := hg h2
    have k3 := hg
    refine bk_122_10 (cc_31 (d := d + 0)  k3) ?_
    refine bk_122_14 ?_
    exact bk_122_20 (rl_p_I he)
/-- VectorShelf.feed(I)I -/
def v_125 (I : WI) (x1 : Int32) : Int32 × WI := (if ¬ (v_107 x1 (0 : Int32) (255 : Int32)) = 0 then (if (I 31 1) < 160 then (bx ((v_83 I x1) : Int32 × WI) (fun p1 => (p1.1, p1.2))) else ((-4), I)) else ((-2), I))
def g_125 (I : WI) (x1 : Int32) : Prop := ((¬ (v_107 x1 (0 : Int32) (255 : Int32)) = 0) → (((I 31 1) < 160) → (g_83 I)))
theorem cc_125 {l : LX} {d : Nat} {I : WI} {F : WF} {L : WL} {t : Nat} {x1 : Int32} (hg : g_125 I x1) : Con l 125 (d + 1) 0 0 [.ref 0, .int x1] SH (I, F, L, RT t) (po_I_I F L t (v_125 I x1)) := by
  refine cn_125 ?_
  obtain ⟨T1, hT1⟩ : ∃ r : Int32 × WI, r = (v_125 I x1) := ⟨_, rfl⟩
  rw [← hT1]
  have he := (hT1.trans (v_125.eq_1 ..)).symm
  have hg := Eq.mp (g_125.eq_1 ..) hg
  refine bk_125_0 (cc_107 (d := d + 0) ) ?_
  refine bk_125_8 (fun h2 => ?_) (fun h2 => ?_)
  · have he := ite_p h2 he
    have hg := hg h2
    refine bk_125_14 (fun h3 => ?_) (fun h3 => ?_)
    · have he := ite_p h3 he
      have hg := hg h3
      have k4 := hg
      refine bk_125_32 (cq_I_I (cc_83 (d := d + 0)  k4)) ?_
      rintro _ _ _ _ _ ⟨p1, hr, rfl, rfl, rfl, rfl, rfl⟩
      have he := bx_eq hr he
      exact bk_125_40 (rl_I_I he)
    · have he := ite_n h3 he
      refine bk_125_27 ?_
      exact bk_125_40 (rl_I_I he)
  · have he := ite_n h2 he
    exact bk_125_11 (rl_I_I he)
/-- VectorShelf.force(I)I -/
def v_127 (I : WI) (x1 : Int32) : Int32 × WI := (if ¬ (v_107 x1 (0 : Int32) ((I 0 9) - 1)) = 0 then ((I 1 2), (up2 I 1 2 x1)) else ((-2), I))
theorem cc_127 {l : LX} {d : Nat} {I : WI} {F : WF} {L : WL} {t : Nat} {x1 : Int32} : Con l 127 (d + 1) 0 0 [.ref 0, .int x1] SH (I, F, L, RT t) (po_I_I F L t (v_127 I x1)) := by
  refine cn_127 ?_
  obtain ⟨T1, hT1⟩ : ∃ r : Int32 × WI, r = (v_127 I x1) := ⟨_, rfl⟩
  rw [← hT1]
  have he := (hT1.trans (v_127.eq_1 ..)).symm
  refine bk_127_0 (cc_107 (d := d + 0) ) ?_
  refine bk_127_11 (fun h2 => ?_) (fun h2 => ?_)
  · have he := ite_p h2 he
    exact bk_127_17 (rl_I_I he)
  · have he := ite_n h2 he
    exact bk_127_14 (rl_I_I he)
/-- VectorShelf.isAhead(IIII)Z -/
def v_129 (x0 : Int32) (x1 : Int32) (x2 : Int32) (x3 : Int32) : Int32 := (if x0 < x2 then 1 else (if ¬ x0 = x2 then 0 else (if x3 ≤ x1 then 0 else 1)))
theorem cc_129 {l : LX} {d : Nat} {I : WI} {F : WF} {L : WL} {t : Nat} {x0 : Int32} {x1 : Int32} {x2 : Int32} {x3 : Int32} : Con l 129 (d + 0) 0 0 [.int x0, .int x1, .int x2, .int x3] SH (I, F, L, RT t) (rI (v_129 x0 x1 x2 x3) (I, F, L, RT t)) := by
  refine cn_129 ?_
  obtain ⟨T1, hT1⟩ : ∃ r : Int32, r = (v_129 x0 x1 x2 x3) := ⟨_, rfl⟩
  rw [← hT1]
  have he := (hT1.trans (v_129.eq_1 ..)).symm
  refine bk_129_0 (fun h1 => ?_) (fun h1 => ?_)
  · have he := ite_p h1 he
    refine bk_129_15 ?_
    exact bk_129_20 (by decide) (rl_p_I he)
  · have he := ite_n h1 he
    refine bk_129_5 (fun h2 => ?_) (fun h2 => ?_)
    · have he := ite_p h2 he
      refine bk_129_19 ?_
      exact bk_129_20 (by decide) (rl_p_I he)
    · have he := ite_n h2 he
      refine bk_129_10 (fun h3 => ?_) (fun h3 => ?_)
      · have he := ite_p h3 he
        refine bk_129_19 ?_
        exact bk_129_20 (by decide) (rl_p_I he)
      · have he := ite_n h3 he
        refine bk_129_15 ?_
        exact bk_129_20 (by decide) (rl_p_I he)
theorem sb_129 (x0 : Int32) (x1 : Int32) (x2 : Int32) (x3 : Int32) : (v_129 x0 x1 x2 x3) &&& 1 = (v_129 x0 x1 x2 x3) := by
  unfold v_129
  repeat' split
  all_goals first | rfl
/-- the loop at 8 of VectorShelf.partOfFraction -/
def lp_141_8 : Nat → Int32 → Int32 → Int32 → Int32
  | 0, x3, x4, x5 => x4
  | k + 1, x3, x4, x5 => (if 64 ≤ x5 then x4 else (if x3 = 0 then x4 else (lp_141_8 k (x4 - x4 / x3 * x3) x3 (x5 + 1))))
def gl_141_8 : Nat → Int32 → Int32 → Int32 → Prop
  | 0, _, _, _ => False
  | k + 1, x3, x4, x5 => (¬ (64 ≤ x5) → (¬ (x3 = 0) → ((¬ (x3 : Int32) = 0) ∧ (gl_141_8 k (x4 - x4 / x3 * x3) x3 (x5 + 1)))))
theorem lw_141_8 {l : LX} {d : Nat} {P : RP} {I : WI} {F : WF} {L : WL} {t : Nat} {x0 : Int32} {x1 : Int32} {x2 : Int32} : ∀ k : Nat, ∀ (x3 : Int32) (x4 : Int32) (x5 : Int32), gl_141_8 k x3 x4 x5 → (∀ r : Int32, r = lp_141_8 k x3 x4 x5 → Wp l 141 (d + 0) 0 0 P 0 0 37 [(0, .int x0), (1, .int x1), (2, .int x2), (4, .int r)] [] SH (I, F, L, RT t)) → Wp l 141 (d + 0) 0 0 P 0 0 8 [(0, .int x0), (1, .int x1), (2, .int x2), (3, .int x3), (4, .int x4), (5, .int x5)] [] SH (I, F, L, RT t) := by
  intro k
  induction k with
  | zero =>
    intro x3 x4 x5 hg hx
    exact hg.elim
  | succ k ih =>
    intro x3 x4 x5 hg hx
    have hg := Eq.mp (gl_141_8.eq_2 ..) hg
    obtain ⟨T1, hT1⟩ : ∃ r : Int32, r = lp_141_8 (k + 1) x3 x4 x5 := ⟨_, rfl⟩
    have hx : ∀ r : Int32, r = T1 → Wp l 141 (d + 0) 0 0 P 0 0 37 [(0, .int x0), (1, .int x1), (2, .int x2), (4, .int r)] [] SH (I, F, L, RT t) := fun r hr => hx r (hr.trans hT1)
    have he := (hT1.trans (lp_141_8.eq_2 ..)).symm
    refine bk_141_8 (fun h1 => ?_) (fun h1 => ?_)
    · have he := ite_p h1 he
      exact hx x4 he
    · have he := ite_n h1 he
      have hg := hg h1
      refine bk_141_15 (fun h2 => ?_) (fun h2 => ?_)
      · have he := ite_p h2 he
        exact hx x4 he
      · have he := ite_n h2 he
        have hg := hg h2
        obtain ⟨k3, hg⟩ := hg
        refine bk_141_19 k3 ?_
        exact ih (x4 - x4 / x3 * x3) x3 (x5 + 1) hg (fun r hr => hx r (hr.trans he))
/-- VectorShelf.partOfFraction(III)J -/
def v_141 (x0 : Int32) (x1 : Int32) (x2 : Int32) : Int64 := (bx ((lp_141_8 400 x0 x1 (0 : Int32)) : Int32) (fun p1 => (bx ((if p1 ≤ 0 then 1 else p1) : Int32) (fun p2 => (if ¬ x2 = 0 then (Int32.toInt64 (x1 / p2)) else (Int32.toInt64 (x0 / p2)))))))
def g_141 (x0 : Int32) (x1 : Int32) (x2 : Int32) : Prop := ((gl_141_8 400 x0 x1 (0 : Int32)) ∧ (bx ((lp_141_8 400 x0 x1 (0 : Int32)) : Int32) (fun p1 => (bx ((if p1 ≤ 0 then 1 else p1) : Int32) (fun p2 => (((¬ x2 = 0) → (¬ (p2 : Int32) = 0)) ∧ (¬ (¬ x2 = 0) → (¬ (p2 : Int32) = 0))))))))
theorem cc_141 {l : LX} {d : Nat} {I : WI} {F : WF} {L : WL} {t : Nat} {x0 : Int32} {x1 : Int32} {x2 : Int32} (hg : g_141 x0 x1 x2) : Con l 141 (d + 0) 0 0 [.int x0, .int x1, .int x2] SH (I, F, L, RT t) (rL (v_141 x0 x1 x2) (I, F, L, RT t)) := by
  refine cn_141 ?_
  obtain ⟨T1, hT1⟩ : ∃ r : Int64, r = (v_141 x0 x1 x2) := ⟨_, rfl⟩
  rw [← hT1]
  have he := (hT1.trans (v_141.eq_1 ..)).symm
  have hg := Eq.mp (g_141.eq_1 ..) hg
  refine bk_141_0 ?_
  obtain ⟨hgX, hg⟩ := hg
  refine lw_141_8 (d := d)  400 x0 x1 (0 : Int32) hgX (fun p1 hr => ?_)
  have he := bx_eq hr he
  have hg := bx_un hr hg
  obtain ⟨X1, hX1⟩ : ∃ r : Int32, r = (if p1 ≤ 0 then 1 else p1) := ⟨_, rfl⟩
  have J1 : ∀ p2 : Int32, p2 = X1 → Wp l 141 (d + 0) 0 0 (rL T1 (I, F, L, RT t)) 0 0 48 [(0, .int x0), (1, .int x1), (2, .int x2)] [.int p2] SH (I, F, L, RT t) := by
    intro p2 hr
    have hr := hr.trans hX1
    have he := bx_eq hr he
    have hg := bx_un hr hg
    refine bk_141_48 (fun h5 => ?_) (fun h5 => ?_)
    · have he := ite_p h5 he
      have hg := hg.1 h5
      have k6 := hg
      refine bk_141_62 k6 ?_
      exact bk_141_67 (rl_p_J he)
    · have he := ite_n h5 he
      have hg := hg.2 h5
      have k7 := hg
      refine bk_141_54 k7 ?_
      exact bk_141_67 (rl_p_J he)
  have he := hX1.symm
  refine bk_141_37 (fun h4 => ?_) (fun h4 => ?_)
  · have he := ite_p h4 he
    refine bk_141_47 ?_
    exact J1 1 he
  · have he := ite_n h4 he
    refine bk_141_42 ?_
    exact J1 p1 he
/-- the loop at 4 of VectorShelf.drawnFrom -/
def lp_143_4 (a2 : Int32) : Nat → Int32
  | 0 => a2
  | k + 1 => bx (lp_143_4 a2 k) (fun p1 => ((p1 * 1103515245) + 12345))
def gl_143_4 (x1 : Int32) (a2 : Int32) (N : Nat) : Prop := (x1.toInt < 2147483647)
theorem lw_143_4 {l : LX} {d : Nat} {P : RP} {I : WI} {F : WF} {L : WL} {t : Nat} {x1 : Int32} {a2 : Int32} (hgl : gl_143_4 x1 a2 ((x1.toInt + 1 - (0 : Int32).toInt).toNat)) (hx : ∀ p1 : Int32, p1 = lp_143_4 a2 ((x1.toInt + 1 - (0 : Int32).toInt).toNat) → Wp l 143 (d + 0) 0 0 P 0 0 25 [(2, .int p1)] [] SH (I, F, L, RT t)) : Wp l 143 (d + 0) 0 0 P 0 0 4 [(1, .int x1), (2, .int a2), (3, .int 0)] [] SH (I, F, L, RT t) := by
  have hbig := hgl
  have loop : ∀ m k, k + m = (x1.toInt + 1 - (0 : Int32).toInt).toNat → ∀ p1 : Int32, p1 = lp_143_4 a2 k → Wp l 143 (d + 0) 0 0 P 0 0 4 [(1, .int x1), (2, .int p1), (3, .int (nI k))] [] SH (I, F, L, RT t) := by
    intro m
    induction m with
    | zero =>
      intro k hk p1 hs
      obtain rfl : k = (x1.toInt + 1 - (0 : Int32).toInt).toNat := by omega
      exact bk_143_4  (fun _ => hx _ hs) (fun h => absurd ((cl_gt0 hbig (Nat.le_refl _)).mpr rfl) h)
    | succ m ih =>
      intro k hk p1 hs
      have hk2 : k < (x1.toInt + 1 - (0 : Int32).toInt).toNat := by omega
      have ih := ih (k + 1) (by omega)
      rw [nI_succ] at ih
      have he := bx_eq hs (lp_143_4.eq_2 ..).symm
      refine bk_143_4  (fun h => absurd ((cl_gt0 (E := x1) (k := k) hbig (by omega)).mp h) (by omega)) (fun _ => ?_)
      refine bk_143_9 ?_
      exact ih ((p1 * 1103515245) + 12345) he
  exact loop _ 0 (Nat.zero_add _) _ rfl
/-- VectorShelf.drawnFrom(II)I -/
def v_143 (x0 : Int32) (x1 : Int32) : Int32 := (bx ((lp_143_4 x0 ((x1.toInt + 1 - (0 : Int32).toInt).toNat)) : Int32) (fun p2 => ((((p2.toUInt32 >>> (Int32.toUInt32 9 &&& Int32.toUInt32 31)).toInt32) - ((p2.toUInt32 >>> (Int32.toUInt32 9 &&& Int32.toUInt32 31)).toInt32) / 1999 * 1999) - 999)))
def g_143 (x0 : Int32) (x1 : Int32) : Prop := (gl_143_4 x1 x0 ((x1.toInt + 1 - (0 : Int32).toInt).toNat))
theorem cc_143 {l : LX} {d : Nat} {I : WI} {F : WF} {L : WL} {t : Nat} {x0 : Int32} {x1 : Int32} (hg : g_143 x0 x1) : Con l 143 (d + 0) 0 0 [.int x0, .int x1] SH (I, F, L, RT t) (rI (v_143 x0 x1) (I, F, L, RT t)) := by
  refine cn_143 ?_
  obtain ⟨T1, hT1⟩ : ∃ r : Int32, r = (v_143 x0 x1) := ⟨_, rfl⟩
  rw [← hT1]
  have he := (hT1.trans (v_143.eq_1 ..)).symm
  have hg := Eq.mp (g_143.eq_1 ..) hg
  refine bk_143_0 ?_
  have hgX := hg
  refine lw_143_4 (d := d)  hgX (fun p2 hr => ?_)
  have he := bx_eq hr he
  exact bk_143_25 (rl_p_I he)
/-- VectorShelf.drawn(II)I -/
def v_144 (x1 : Int32) (x2 : Int32) : Int32 := (if (v_107 x2 (0 : Int32) (2 : Int32)) = 0 then (-99999) else (v_143 x1 x2))
def g_144 (x1 : Int32) (x2 : Int32) : Prop := (¬ ((v_107 x2 (0 : Int32) (2 : Int32)) = 0) → (g_143 x1 x2))
theorem cc_144 {l : LX} {d : Nat} {I : WI} {F : WF} {L : WL} {t : Nat} {x1 : Int32} {x2 : Int32} (hg : g_144 x1 x2) : Con l 144 (d + 1) 0 0 [.ref 0, .int x1, .int x2] SH (I, F, L, RT t) (rI (v_144 x1 x2) (I, F, L, RT t)) := by
  refine cn_144 ?_
  obtain ⟨T1, hT1⟩ : ∃ r : Int32, r = (v_144 x1 x2) := ⟨_, rfl⟩
  rw [← hT1]
  have he := (hT1.trans (v_144.eq_1 ..)).symm
  have hg := Eq.mp (g_144.eq_1 ..) hg
  refine bk_144_0 (cc_107 (d := d + 0) ) ?_
  refine bk_144_6 (fun h2 => ?_) (fun h2 => ?_)
  · have he := ite_p h2 he
    refine bk_144_17 ?_
    exact bk_144_19 (rl_p_I he)
  · have he := ite_n h2 he
    have hg := hg h2
    have k3 := hg
    refine bk_144_9 (cc_143 (d := d + 0)  k3) ?_
    refine bk_144_14 ?_
    exact bk_144_19 (rl_p_I he)
/-- VectorShelf.isSheet(I)Z -/
def v_146 (x0 : Int32) : Int32 := (v_107 x0 (0 : Int32) (3 : Int32))
theorem cc_146 {l : LX} {d : Nat} {I : WI} {F : WF} {L : WL} {t : Nat} {x0 : Int32} : Con l 146 (d + 1) 0 0 [.int x0] SH (I, F, L, RT t) (rI (v_146 x0) (I, F, L, RT t)) := by
  refine cn_146 ?_
  obtain ⟨T1, hT1⟩ : ∃ r : Int32, r = (v_146 x0) := ⟨_, rfl⟩
  rw [← hT1]
  have he := (hT1.trans (v_146.eq_1 ..)).symm
  refine bk_146_0 (cc_107 (d := d + 0) ) ?_
  exact bk_146_6 (sb_107 ..) (rl_p_I he)
theorem sb_146 (x0 : Int32) : (v_146 x0) &&& 1 = (v_146 x0) := by
  unfold v_146
  repeat' split
  all_goals first | rfl | exact sb_107 ..
/-- VectorShelf.image()I -/
def v_153 (I : WI) : Int32 × WI := (bx ((v_76 I 11 1) : WI) (fun p1 => ((p1 1 8), (up2 p1 0 10 1))))
theorem cc_153 {l : LX} {d : Nat} {I : WI} {F : WF} {L : WL} {t : Nat} : Con l 153 (d + 3) 0 0 [.ref 0] SH (I, F, L, RT t) (po_I_I F L t (v_153 I)) := by
  refine cn_153 ?_
  obtain ⟨T1, hT1⟩ : ∃ r : Int32 × WI, r = (v_153 I) := ⟨_, rfl⟩
  rw [← hT1]
  have he := (hT1.trans (v_153.eq_1 ..)).symm
  refine bk_153_0 (cq_V_I (cc_76 (d := d + 0) (by first | decide | (unfold isS; decide) | (unfold isS; omega)) (by first | decide | (unfold isS; decide) | (unfold isS; omega)))) ?_
  rintro _ _ _ _ ⟨p1, hr, rfl, rfl, rfl, rfl⟩
  have he := bx_eq hr he
  exact bk_153_11 (rl_I_I he)
/-- VectorShelf.back()I -/
def v_154 (I : WI) : Int32 × WI := (if ¬ (I 0 10) = 0 then (bx ((v_76 I 1 11) : WI) (fun p1 => ((p1 1 8), p1))) else ((-3), I))
theorem cc_154 {l : LX} {d : Nat} {I : WI} {F : WF} {L : WL} {t : Nat} : Con l 154 (d + 3) 0 0 [.ref 0] SH (I, F, L, RT t) (po_I_I F L t (v_154 I)) := by
  refine cn_154 ?_
  obtain ⟨T1, hT1⟩ : ∃ r : Int32 × WI, r = (v_154 I) := ⟨_, rfl⟩
  rw [← hT1]
  have he := (hT1.trans (v_154.eq_1 ..)).symm
  refine bk_154_0 (fun h1 => ?_) (fun h1 => ?_)
  · have he := ite_p h1 he
    refine bk_154_10 (cq_V_I (cc_76 (d := d + 0) (by first | decide | (unfold isS; decide) | (unfold isS; omega)) (by first | decide | (unfold isS; decide) | (unfold isS; omega)))) ?_
    rintro _ _ _ _ ⟨p1, hr, rfl, rfl, rfl, rfl⟩
    have he := bx_eq hr he
    exact bk_154_21 (rl_I_I he)
  · have he := ite_n h1 he
    exact bk_154_7 (rl_I_I he)
/-- VectorShelf.refusal(IIII)I -/
def v_158 (I : WI) (x1 : Int32) (x2 : Int32) (x3 : Int32) (x4 : Int32) : Int32 := (if ¬ (v_146 x1) = 0 then (bx ((58 + 4 * x1.toNatClampNeg) : Nat) (fun p1 => (if (v_44 I p1) = 0 then (if x2 = 3 then (if (v_48 I p1 x3 x4) = 0 then (-12) else 0) else (if x2 = (I p1 0) then (if (v_48 I p1 x3 x4) = 0 then (-12) else 0) else (-13))) else (-11)))) else (-2))
def g_158 (x1 : Int32) : Prop := ((¬ (v_146 x1) = 0) → (vp_in x1 4))
theorem cc_158 {l : LX} {d : Nat} {I : WI} {F : WF} {L : WL} {t : Nat} {x1 : Int32} {x2 : Int32} {x3 : Int32} {x4 : Int32} (hg : g_158 x1) : Con l 158 (d + 2) 0 0 [.ref 0, .int x1, .int x2, .int x3, .int x4] SH (I, F, L, RT t) (rI (v_158 I x1 x2 x3 x4) (I, F, L, RT t)) := by
  refine cn_158 ?_
  obtain ⟨T1, hT1⟩ : ∃ r : Int32, r = (v_158 I x1 x2 x3 x4) := ⟨_, rfl⟩
  rw [← hT1]
  have he := (hT1.trans (v_158.eq_1 ..)).symm
  have hg := Eq.mp (g_158.eq_1 ..) hg
  refine bk_158_0 (cc_146 (d := d + 0) ) ?_
  refine bk_158_4 (fun h2 => ?_) (fun h2 => ?_)
  · have he := ite_p h2 he
    have hg := hg h2
    have k3 := hg
    obtain ⟨p1, hnp1⟩ : ∃ q : Nat, q = (58 + 4 * x1.toNatClampNeg) := ⟨_, rfl⟩
    have hp1 : isH p1 := by rw [hnp1]; exact isH_at k3
    have he := bx_eq hnp1 he
    refine bk_158_10 k3 (show RT t 57 x1.toNatClampNeg = some p1 from by rw [hnp1]; exact RT_at57 k3) ?_
    refine bk_158_16 hp1 (cc_44 (d := d + 1) hp1) ?_
    refine bk_158_23 (fun h5 => ?_) (fun h5 => ?_)
    · have he := ite_p h5 he
      refine bk_158_29 (fun h6 => ?_) (fun h6 => ?_)
      · have he := ite_p h6 he
        refine bk_158_46 hp1 (cc_48 (d := d + 1) hp1) ?_
        refine bk_158_54 (fun h8 => ?_) (fun h8 => ?_)
        · have he := ite_p h8 he
          refine bk_158_61 ?_
          exact bk_158_63 (rl_p_I he)
        · have he := ite_n h8 he
          refine bk_158_57 ?_
          exact bk_158_63 (rl_p_I he)
      · have he := ite_n h6 he
        refine bk_158_34 hp1 (fun h9 => ?_) (fun h9 => ?_)
        · have he := ite_p h9 he
          refine bk_158_46 hp1 (cc_48 (d := d + 1) hp1) ?_
          refine bk_158_54 (fun h11 => ?_) (fun h11 => ?_)
          · have he := ite_p h11 he
            refine bk_158_61 ?_
            exact bk_158_63 (rl_p_I he)
          · have he := ite_n h11 he
            refine bk_158_57 ?_
            exact bk_158_63 (rl_p_I he)
        · have he := ite_n h9 he
          exact bk_158_43 (rl_p_I he)
    · have he := ite_n h5 he
      exact bk_158_26 (rl_p_I he)
  · have he := ite_n h2 he
    exact bk_158_7 (rl_p_I he)
/-- VectorShelf.blank(II)I -/
def v_159 (I : WI) (F : WF) (x1 : Int32) (x2 : Int32) : Int32 × WF := (if (v_158 I x1 (0 : Int32) x2 (1 : Int32)) = 0 then (bx ((58 + 4 * x1.toNatClampNeg) : Nat) (fun p1 => (bx ((v_49 F p1 x2) : WF) (fun p2 => (1, p2))))) else ((v_158 I x1 (0 : Int32) x2 (1 : Int32)), F))
def g_159 (I : WI) (x1 : Int32) (x2 : Int32) : Prop := ((g_158 x1) ∧ (((v_158 I x1 (0 : Int32) x2 (1 : Int32)) = 0) → ((vp_in x1 4) ∧ (bx ((58 + 4 * x1.toNatClampNeg) : Nat) (fun p1 => (g_49 x2))))))
theorem cc_159 {l : LX} {d : Nat} {I : WI} {F : WF} {L : WL} {t : Nat} {x1 : Int32} {x2 : Int32} (hg : g_159 I x1 x2) : Con l 159 (d + 3) 0 0 [.ref 0, .int x1, .int x2] SH (I, F, L, RT t) (po_I_F I L t (v_159 I F x1 x2)) := by
  refine cn_159 ?_
  obtain ⟨T1, hT1⟩ : ∃ r : Int32 × WF, r = (v_159 I F x1 x2) := ⟨_, rfl⟩
  rw [← hT1]
  have he := (hT1.trans (v_159.eq_1 ..)).symm
  have hg := Eq.mp (g_159.eq_1 ..) hg
  obtain ⟨k1, hg⟩ := hg
  refine bk_159_0 (cc_158 (d := d + 0)  k1) ?_
  refine bk_159_8 (fun h2 => ?_) (fun h2 => ?_)
  · have he := ite_p h2 he
    have hg := hg h2
    obtain ⟨k3, hg⟩ := hg
    obtain ⟨p1, hnp1⟩ : ∃ q : Nat, q = (58 + 4 * x1.toNatClampNeg) := ⟨_, rfl⟩
    have hp1 : isH p1 := by rw [hnp1]; exact isH_at k3
    have he := bx_eq hnp1 he
    have hg := bx_un hnp1 hg
    refine bk_159_15 k3 (show RT t 57 x1.toNatClampNeg = some p1 from by rw [hnp1]; exact RT_at57 k3) ?_
    have k4 := hg
    refine bk_159_21 hp1 (cq_V_F (cc_49 (d := d + 2) hp1 k4)) ?_
    rintro _ _ _ _ ⟨p2, hr, rfl, rfl, rfl, rfl⟩
    have he := bx_eq hr he
    exact bk_159_25 (rl_I_F he)
  · have he := ite_n h2 he
    exact bk_159_13 (rl_I_F he)
/-- VectorShelf.item(II)I -/
def v_160 (I : WI) (F : WF) (x1 : Int32) (x2 : Int32) : Int32 := (if ¬ (v_158 I x1 (3 : Int32) x2 (1 : Int32)) = 0 then (-99999) else (bx ((58 + 4 * x1.toNatClampNeg) : Nat) (fun p1 => (v_45 I F p1 x2))))
def g_160 (I : WI) (F : WF) (x1 : Int32) (x2 : Int32) : Prop := ((g_158 x1) ∧ (¬ (¬ (v_158 I x1 (3 : Int32) x2 (1 : Int32)) = 0) → ((vp_in x1 4) ∧ (bx ((58 + 4 * x1.toNatClampNeg) : Nat) (fun p1 => (g_45 I F p1 x2))))))
theorem cc_160 {l : LX} {d : Nat} {I : WI} {F : WF} {L : WL} {t : Nat} {x1 : Int32} {x2 : Int32} (hg : g_160 I F x1 x2) : Con l 160 (d + 3) 0 0 [.ref 0, .int x1, .int x2] SH (I, F, L, RT t) (rI (v_160 I F x1 x2) (I, F, L, RT t)) := by
  refine cn_160 ?_
  obtain ⟨T1, hT1⟩ : ∃ r : Int32, r = (v_160 I F x1 x2) := ⟨_, rfl⟩
  rw [← hT1]
  have he := (hT1.trans (v_160.eq_1 ..)).symm
  have hg := Eq.mp (g_160.eq_1 ..) hg
  obtain ⟨k1, hg⟩ := hg
  refine bk_160_0 (cc_158 (d := d + 0)  k1) ?_
  refine bk_160_8 (fun h2 => ?_) (fun h2 => ?_)
  · have he := ite_p h2 he
    refine bk_160_24 ?_
    exact bk_160_26 (rl_p_I he)
  · have he := ite_n h2 he
    have hg := hg h2
    obtain ⟨k3, hg⟩ := hg
    obtain ⟨p1, hnp1⟩ : ∃ q : Nat, q = (58 + 4 * x1.toNatClampNeg) := ⟨_, rfl⟩
    have hp1 : isH p1 := by rw [hnp1]; exact isH_at k3
    have he := bx_eq hnp1 he
    have hg := bx_un hnp1 hg
    refine bk_160_11 k3 (show RT t 57 x1.toNatClampNeg = some p1 from by rw [hnp1]; exact RT_at57 k3) ?_
    have k4 := hg
    refine bk_160_17 hp1 (cc_45 (d := d + 2) hp1 k4) ?_
    refine bk_160_21 ?_
    exact bk_160_26 (rl_p_I he)
/-- VectorShelf.copy(IIIII)I -/
def v_161 (I : WI) (F : WF) (x1 : Int32) (x2 : Int32) (x3 : Int32) (x4 : Int32) (x5 : Int32) : Int32 × WI × WF := (if (v_146 x1) = 0 then ((-2), I, F) else (if ¬ (v_146 x3) = 0 then (bx ((58 + 4 * x1.toNatClampNeg) : Nat) (fun p1 => (bx ((58 + 4 * x3.toNatClampNeg) : Nat) (fun p2 => (if ¬ (v_44 I p1) = 0 then ((-11), I, F) else (if (v_44 I p2) = 0 then (if (I p1 0) = (I p2 0) then (if (v_48 I p1 x2 x5) = 0 then ((-12), I, F) else (if ¬ (v_48 I p2 x4 x5) = 0 then (bx ((v_50 I F p1 x2 p2 x4 x5) : WI × WF) (fun p3 => (x5, p3.1, p3.2))) else ((-12), I, F))) else ((-13), I, F)) else ((-11), I, F))))))) else ((-2), I, F)))
def g_161 (I : WI) (x1 : Int32) (x2 : Int32) (x3 : Int32) (x4 : Int32) (x5 : Int32) : Prop := (¬ ((v_146 x1) = 0) → ((¬ (v_146 x3) = 0) → ((vp_in x1 4) ∧ (bx ((58 + 4 * x1.toNatClampNeg) : Nat) (fun p1 => ((vp_in x3 4) ∧ (bx ((58 + 4 * x3.toNatClampNeg) : Nat) (fun p2 => (¬ (¬ (v_44 I p1) = 0) → (((v_44 I p2) = 0) → (((I p1 0) = (I p2 0)) → (¬ ((v_48 I p1 x2 x5) = 0) → ((¬ (v_48 I p2 x4 x5) = 0) → (g_50 I p1 x2 x4 x5))))))))))))))
theorem cc_161 {l : LX} {d : Nat} {I : WI} {F : WF} {L : WL} {t : Nat} {x1 : Int32} {x2 : Int32} {x3 : Int32} {x4 : Int32} {x5 : Int32} (hg : g_161 I x1 x2 x3 x4 x5) : Con l 161 (d + 2) 0 0 [.ref 0, .int x1, .int x2, .int x3, .int x4, .int x5] SH (I, F, L, RT t) (po_I_IF L t (v_161 I F x1 x2 x3 x4 x5)) := by
  refine cn_161 ?_
  obtain ⟨T1, hT1⟩ : ∃ r : Int32 × WI × WF, r = (v_161 I F x1 x2 x3 x4 x5) := ⟨_, rfl⟩
  rw [← hT1]
  have he := (hT1.trans (v_161.eq_1 ..)).symm
  have hg := Eq.mp (g_161.eq_1 ..) hg
  refine bk_161_0 (cc_146 (d := d + 0) ) ?_
  refine bk_161_4 (fun h2 => ?_) (fun h2 => ?_)
  · have he := ite_p h2 he
    exact bk_161_14 (rl_I_IF he)
  · have he := ite_n h2 he
    have hg := hg h2
    refine bk_161_7 (cc_146 (d := d + 0) ) ?_
    refine bk_161_11 (fun h4 => ?_) (fun h4 => ?_)
    · have he := ite_p h4 he
      have hg := hg h4
      obtain ⟨k5, hg⟩ := hg
      obtain ⟨p1, hnp1⟩ : ∃ q : Nat, q = (58 + 4 * x1.toNatClampNeg) := ⟨_, rfl⟩
      have hp1 : isH p1 := by rw [hnp1]; exact isH_at k5
      have he := bx_eq hnp1 he
      have hg := bx_un hnp1 hg
      refine bk_161_17 k5 (show RT t 57 x1.toNatClampNeg = some p1 from by rw [hnp1]; exact RT_at57 k5) ?_
      obtain ⟨k6, hg⟩ := hg
      obtain ⟨p2, hnp2⟩ : ∃ q : Nat, q = (58 + 4 * x3.toNatClampNeg) := ⟨_, rfl⟩
      have hp2 : isH p2 := by rw [hnp2]; exact isH_at k6
      have he := bx_eq hnp2 he
      have hg := bx_un hnp2 hg
      refine bk2_161_23 k6 (show RT t 57 x3.toNatClampNeg = some p2 from by rw [hnp2]; exact RT_at57 k6) ?_
      refine bk_161_31 hp1 (cc_44 (d := d + 1) hp1) ?_
      refine bk_161_38 (fun h8 => ?_) (fun h8 => ?_)
      · have he := ite_p h8 he
        exact bk_161_49 (rl_I_IF he)
      · have he := ite_n h8 he
        have hg := hg h8
        refine bk_161_41 hp2 (cc_44 (d := d + 1) hp2) ?_
        refine bk_161_46 (fun h10 => ?_) (fun h10 => ?_)
        · have he := ite_p h10 he
          have hg := hg h10
          refine bk_161_52 hp1 hp2 (fun h11 => ?_) (fun h11 => ?_)
          · have he := ite_p h11 he
            have hg := hg h11
            refine bk_161_68 hp1 (cc_48 (d := d + 1) hp1) ?_
            refine bk_161_76 (fun h13 => ?_) (fun h13 => ?_)
            · have he := ite_p h13 he
              exact bk_161_91 (rl_I_IF he)
            · have he := ite_n h13 he
              have hg := hg h13
              refine bk_161_79 hp2 (cc_48 (d := d + 1) hp2) ?_
              refine bk_161_88 (fun h15 => ?_) (fun h15 => ?_)
              · have he := ite_p h15 he
                have hg := hg h15
                have k16 := hg
                refine bk_161_94 hp1 (cq_V_IF (cc_50 (d := d + 0) hp1 hp2 k16)) ?_
                rintro _ _ _ _ ⟨p3, hr, rfl, rfl, rfl, rfl⟩
                have he := bx_eq hr he
                exact bk_161_106 (rl_I_IF he)
              · have he := ite_n h15 he
                exact bk_161_91 (rl_I_IF he)
          · have he := ite_n h11 he
            exact bk_161_65 (rl_I_IF he)
        · have he := ite_n h10 he
          exact bk_161_49 (rl_I_IF he)
    · have he := ite_n h4 he
      exact bk_161_14 (rl_I_IF he)
/-- VectorShelf.rest(III)I -/
def v_162 (I : WI) (F : WF) (x1 : Int32) (x2 : Int32) (x3 : Int32) : Int32 := (bx ((if ¬ (v_158 I x1 (1 : Int32) x2 (1 : Int32)) = 0 then (v_158 I x1 (1 : Int32) x2 (1 : Int32)) else (v_158 I x1 (1 : Int32) x3 (1 : Int32))) : Int32) (fun p1 => (if p1 = 0 then (bx ((58 + 4 * x1.toNatClampNeg) : Nat) (fun p2 => (if ¬ (v_45 I F p2 x3) = 0 then (bx ((58 + 4 * x1.toNatClampNeg) : Nat) (fun p3 => ((v_45 I F p3 x2) - (v_45 I F p3 x2) / (v_45 I F p2 x3) * (v_45 I F p2 x3)))) else (-15)))) else p1)))
def g_162 (I : WI) (F : WF) (x1 : Int32) (x2 : Int32) (x3 : Int32) : Prop := ((g_158 x1) ∧ ((¬ (¬ (v_158 I x1 (1 : Int32) x2 (1 : Int32)) = 0) → (g_158 x1)) ∧ (bx ((if ¬ (v_158 I x1 (1 : Int32) x2 (1 : Int32)) = 0 then (v_158 I x1 (1 : Int32) x2 (1 : Int32)) else (v_158 I x1 (1 : Int32) x3 (1 : Int32))) : Int32) (fun p1 => ((p1 = 0) → ((vp_in x1 4) ∧ (bx ((58 + 4 * x1.toNatClampNeg) : Nat) (fun p2 => ((g_45 I F p2 x3) ∧ ((¬ (v_45 I F p2 x3) = 0) → ((vp_in x1 4) ∧ (bx ((58 + 4 * x1.toNatClampNeg) : Nat) (fun p3 => ((g_45 I F p3 x2) ∧ (¬ ((v_45 I F p2 x3) : Int32) = 0)))))))))))))))
theorem cc_162 {l : LX} {d : Nat} {I : WI} {F : WF} {L : WL} {t : Nat} {x1 : Int32} {x2 : Int32} {x3 : Int32} (hg : g_162 I F x1 x2 x3) : Con l 162 (d + 3) 0 0 [.ref 0, .int x1, .int x2, .int x3] SH (I, F, L, RT t) (rI (v_162 I F x1 x2 x3) (I, F, L, RT t)) := by
  refine cn_162 ?_
  obtain ⟨T1, hT1⟩ : ∃ r : Int32, r = (v_162 I F x1 x2 x3) := ⟨_, rfl⟩
  rw [← hT1]
  have he := (hT1.trans (v_162.eq_1 ..)).symm
  have hg := Eq.mp (g_162.eq_1 ..) hg
  obtain ⟨k1, hg⟩ := hg
  refine bk_162_0 (cc_158 (d := d + 0)  k1) ?_
  obtain ⟨hgX, hg⟩ := hg
  obtain ⟨X1, hX1⟩ : ∃ r : Int32, r = (if ¬ (v_158 I x1 (1 : Int32) x2 (1 : Int32)) = 0 then (v_158 I x1 (1 : Int32) x2 (1 : Int32)) else (v_158 I x1 (1 : Int32) x3 (1 : Int32))) := ⟨_, rfl⟩
  have J1 : ∀ p1 : Int32, p1 = X1 → Wp l 162 (d + 3) 0 0 (rI T1 (I, F, L, RT t)) 0 0 25 [(0, .ref 0), (1, .int x1), (2, .int x2), (3, .int x3), (4, .int p1)] [] SH (I, F, L, RT t) := by
    intro p1 hr
    have hr := hr.trans hX1
    have he := bx_eq hr he
    have hg := bx_un hr hg
    refine bk_162_25 (fun h4 => ?_) (fun h4 => ?_)
    · have he := ite_p h4 he
      have hg := hg h4
      obtain ⟨k5, hg⟩ := hg
      obtain ⟨p2, hnp2⟩ : ∃ q : Nat, q = (58 + 4 * x1.toNatClampNeg) := ⟨_, rfl⟩
      have hp2 : isH p2 := by rw [hnp2]; exact isH_at k5
      have he := bx_eq hnp2 he
      have hg := bx_un hnp2 hg
      refine bk_162_33 k5 (show RT t 57 x1.toNatClampNeg = some p2 from by rw [hnp2]; exact RT_at57 k5) ?_
      obtain ⟨k6, hg⟩ := hg
      refine bk_162_39 hp2 (cc_45 (d := d + 2) hp2 k6) ?_
      refine bk_162_43 (fun h7 => ?_) (fun h7 => ?_)
      · have he := ite_p h7 he
        have hg := hg h7
        obtain ⟨k8, hg⟩ := hg
        obtain ⟨p3, hnp3⟩ : ∃ q : Nat, q = (58 + 4 * x1.toNatClampNeg) := ⟨_, rfl⟩
        have hp3 : isH p3 := by rw [hnp3]; exact isH_at k8
        have he := bx_eq hnp3 he
        have hg := bx_un hnp3 hg
        refine bk_162_55 k8 (show RT t 57 x1.toNatClampNeg = some p3 from by rw [hnp3]; exact RT_at57 k8) ?_
        obtain ⟨k9, hg⟩ := hg
        refine bk_162_61 hp3 (cc_45 (d := d + 2) hp3 k9) ?_
        have k10 := hg
        refine bk_162_65 k10 ?_
        exact bk_162_68 (rl_p_I he)
      · have he := ite_n h7 he
        refine bk_162_50 ?_
        exact bk_162_68 (rl_p_I he)
    · have he := ite_n h4 he
      exact bk_162_30 (rl_p_I he)
  have he := hX1.symm
  have hg := hgX
  refine bk_162_8 (fun h2 => ?_) (fun h2 => ?_)
  · have he := ite_p h2 he
    exact J1 (v_158 I x1 (1 : Int32) x2 (1 : Int32)) he
  · have he := ite_n h2 he
    have hg := hg h2
    have k3 := hg
    refine bk_162_15 (cc_158 (d := d + 0)  k3) ?_
    refine bk_162_23 ?_
    exact J1 (v_158 I x1 (1 : Int32) x3 (1 : Int32)) he
/-- VectorShelf.taken(I)I -/
def v_166 (I : WI) (x1 : Int32) : Int32 := (if ¬ (v_107 x1 (0 : Int32) (5 : Int32)) = 0 then (if (v_33 I 2 x1) = 0 then (-13) else (I 2 0)) else (-2))
def g_166 (I : WI) (x1 : Int32) : Prop := ((¬ (v_107 x1 (0 : Int32) (5 : Int32)) = 0) → (g_33 I 2 x1))
theorem cc_166 {l : LX} {d : Nat} {I : WI} {F : WF} {L : WL} {t : Nat} {x1 : Int32} (hg : g_166 I x1) : Con l 166 (d + 1) 0 0 [.ref 0, .int x1] SH (I, F, L, RT t) (rI (v_166 I x1) (I, F, L, RT t)) := by
  refine cn_166 ?_
  obtain ⟨T1, hT1⟩ : ∃ r : Int32, r = (v_166 I x1) := ⟨_, rfl⟩
  rw [← hT1]
  have he := (hT1.trans (v_166.eq_1 ..)).symm
  have hg := Eq.mp (g_166.eq_1 ..) hg
  refine bk_166_0 (cc_107 (d := d + 0) ) ?_
  refine bk_166_6 (fun h2 => ?_) (fun h2 => ?_)
  · have he := ite_p h2 he
    have hg := hg h2
    have k3 := hg
    refine bk_166_12 (cc_33 (d := d + 0) (by first | decide | (unfold isM; decide) | (unfold isM; omega)) k3) ?_
    refine bk_166_23 (fun h4 => ?_) (fun h4 => ?_)
    · have he := ite_p h4 he
      refine bk_166_39 ?_
      exact bk_166_41 (rl_p_I he)
    · have he := ite_n h4 he
      refine bk_166_26 ?_
      exact bk_166_41 (rl_p_I he)
  · have he := ite_n h2 he
    exact bk_166_9 (rl_p_I he)
/-- VectorShelfModel.spell(IIIIIIIII)V -/
def v_168 (I : WI) (x1 : Int32) (x2 : Int32) (x3 : Int32) (x4 : Int32) (x5 : Int32) (x6 : Int32) (x7 : Int32) (x8 : Int32) (x9 : Int32) : WI := (up2 (up2 (up2 (up2 (up2 (up2 (up2 (up2 I 75 x1.toNatClampNeg x2) 75 (x1 + 1).toNatClampNeg x3) 75 (x1 + 2).toNatClampNeg x4) 75 (x1 + 3).toNatClampNeg x5) 75 (x1 + 4).toNatClampNeg x6) 75 (x1 + 5).toNatClampNeg x7) 75 (x1 + 6).toNatClampNeg x8) 75 (x1 + 7).toNatClampNeg x9)
def g_168 (x1 : Int32) : Prop := ((vp_in x1 960) ∧ ((vp_in (x1 + 1) 960) ∧ ((vp_in (x1 + 2) 960) ∧ ((vp_in (x1 + 3) 960) ∧ ((vp_in (x1 + 4) 960) ∧ ((vp_in (x1 + 5) 960) ∧ ((vp_in (x1 + 6) 960) ∧ (vp_in (x1 + 7) 960))))))))
theorem cc_168 {l : LX} {d : Nat} {I : WI} {F : WF} {L : WL} {t : Nat} {x1 : Int32} {x2 : Int32} {x3 : Int32} {x4 : Int32} {x5 : Int32} {x6 : Int32} {x7 : Int32} {x8 : Int32} {x9 : Int32} (hg : g_168 x1) : Con l 168 (d + 0) 0 0 [.ref 74, .int x1, .int x2, .int x3, .int x4, .int x5, .int x6, .int x7, .int x8, .int x9] SH (I, F, L, RT t) (po_V_I F L t (v_168 I x1 x2 x3 x4 x5 x6 x7 x8 x9)) := by
  refine cn_168 ?_
  obtain ⟨T1, hT1⟩ : ∃ r : WI, r = (v_168 I x1 x2 x3 x4 x5 x6 x7 x8 x9) := ⟨_, rfl⟩
  rw [← hT1]
  have he := (hT1.trans (v_168.eq_1 ..)).symm
  have hg := Eq.mp (g_168.eq_1 ..) hg
  obtain ⟨k1, k2, k3, k4, k5, k6, k7, k8⟩ := hg
  exact bk_168_0 k1 k2 k3 k4 k5 k6 k7 k8 (rl_V_I he)
/-- VectorShelfModel.in(JJJ)Z -/
def v_170 (y0 : Int64) (y2 : Int64) (y4 : Int64) : Int32 := (if (lg_cmp y0 y2) < 0 then 0 else (if 0 < (lg_cmp y0 y4) then 0 else 1))
theorem cc_170 {l : LX} {d : Nat} {I : WI} {F : WF} {L : WL} {t : Nat} {y0 : Int64} {y2 : Int64} {y4 : Int64} : Con l 170 (d + 0) 0 0 [.long y0, .long y2, .long y4] SH (I, F, L, RT t) (rI (v_170 y0 y2 y4) (I, F, L, RT t)) := by
  refine cn_170 ?_
  obtain ⟨T1, hT1⟩ : ∃ r : Int32, r = (v_170 y0 y2 y4) := ⟨_, rfl⟩
  rw [← hT1]
  have he := (hT1.trans (v_170.eq_1 ..)).symm
  refine bk_170_0 (fun h1 => ?_) (fun h1 => ?_)
  · have he := ite_p h1 he
    refine bk_170_17 ?_
    exact bk_170_18 (by decide) (rl_p_I he)
  · have he := ite_n h1 he
    refine bk_170_6 (fun h2 => ?_) (fun h2 => ?_)
    · have he := ite_p h2 he
      refine bk_170_17 ?_
      exact bk_170_18 (by decide) (rl_p_I he)
    · have he := ite_n h2 he
      refine bk_170_13 ?_
      exact bk_170_18 (by decide) (rl_p_I he)
theorem sb_170 (y0 : Int64) (y2 : Int64) (y4 : Int64) : (v_170 y0 y2 y4) &&& 1 = (v_170 y0 y2 y4) := by
  unfold v_170
  repeat' split
  all_goals first | rfl
end
