section
/-- the loop at 6 of VectorShelfModel.lowest -/
def lp_258_6 : Nat → Int64 → Int64 → Int64
  | 0, y5, y7 => y5
  | k + 1, y5, y7 => (if (lg_cmp y7 0) = 0 then y5 else (lp_258_6 k y7 (y5 - y5 / y7 * y7)))
def gl_258_6 : Nat → Int64 → Int64 → Prop
  | 0, _, _ => False
  | k + 1, y5, y7 => (¬ ((lg_cmp y7 0) = 0) → ((¬ (y7 : Int64) = 0) ∧ (gl_258_6 k y7 (y5 - y5 / y7 * y7))))
theorem lw_258_6 {l : LX} {d : Nat} {P : RP} {I : WI} {F : WF} {L : WL} {t : Nat} {y0 : Int64} {y2 : Int64} {x4 : Int32} : ∀ k : Nat, ∀ (y5 : Int64) (y7 : Int64), gl_258_6 k y5 y7 → (∀ r : Int64, r = lp_258_6 k y5 y7 → Wp l 258 (d + 0) 0 0 P 0 0 31 [(0, .long y0), (2, .long y2), (4, .int x4), (5, .long r)] [] SH (I, F, L, RT t)) → Wp l 258 (d + 0) 0 0 P 0 0 6 [(0, .long y0), (2, .long y2), (4, .int x4), (5, .long y5), (7, .long y7)] [] SH (I, F, L, RT t) := by
  intro k
  induction k with
  | zero =>
    intro y5 y7 hg hx
    exact hg.elim
  | succ k ih =>
    intro y5 y7 hg hx
    have hg := Eq.mp (gl_258_6.eq_2 ..) hg
    obtain ⟨T1, hT1⟩ : ∃ r : Int64, r = lp_258_6 (k + 1) y5 y7 := ⟨_, rfl⟩
    have hx : ∀ r : Int64, r = T1 → Wp l 258 (d + 0) 0 0 P 0 0 31 [(0, .long y0), (2, .long y2), (4, .int x4), (5, .long r)] [] SH (I, F, L, RT t) := fun r hr => hx r (hr.trans hT1)
    have he := (hT1.trans (lp_258_6.eq_2 ..)).symm
    refine bk_258_6 (fun h1 => ?_) (fun h1 => ?_)
    · have he := ite_p h1 he
      exact hx y5 he
    · have he := ite_n h1 he
      have hg := hg h1
      obtain ⟨k2, hg⟩ := hg
      refine bk_258_13 k2 ?_
      exact ih y7 (y5 - y5 / y7 * y7) hg (fun r hr => hx r (hr.trans he))
/-- VectorShelfModel.lowest(JJI)J -/
def v_258 (y0 : Int64) (y2 : Int64) (x4 : Int32) : Int64 := (bx ((lp_258_6 400 y0 y2) : Int64) (fun p1 => (if ¬ x4 = 0 then (y2 / p1) else (y0 / p1))))
def g_258 (y0 : Int64) (y2 : Int64) (x4 : Int32) : Prop := ((gl_258_6 400 y0 y2) ∧ (bx ((lp_258_6 400 y0 y2) : Int64) (fun p1 => (((¬ x4 = 0) → (¬ (p1 : Int64) = 0)) ∧ (¬ (¬ x4 = 0) → (¬ (p1 : Int64) = 0))))))
theorem cc_258 {l : LX} {d : Nat} {I : WI} {F : WF} {L : WL} {t : Nat} {y0 : Int64} {y2 : Int64} {x4 : Int32} (hg : g_258 y0 y2 x4) : Con l 258 (d + 0) 0 0 [.long y0, .long y2, .int x4] SH (I, F, L, RT t) (rL (v_258 y0 y2 x4) (I, F, L, RT t)) := by
  refine cn_258 ?_
  obtain ⟨T1, hT1⟩ : ∃ r : Int64, r = (v_258 y0 y2 x4) := ⟨_, rfl⟩
  rw [← hT1]
  have he := (hT1.trans (v_258.eq_1 ..)).symm
  have hg := Eq.mp (g_258.eq_1 ..) hg
  refine bk_258_0 ?_
  obtain ⟨hgX, hg⟩ := hg
  refine lw_258_6 (d := d)  400 y0 y2 hgX (fun p1 hr => ?_)
  have he := bx_eq hr he
  have hg := bx_un hr hg
  refine bk_258_31 (fun h3 => ?_) (fun h3 => ?_)
  · have he := ite_p h3 he
    have hg := hg.1 h3
    have k4 := hg
    refine bk_258_43 k4 ?_
    exact bk_258_47 (rl_p_J he)
  · have he := ite_n h3 he
    have hg := hg.2 h3
    have k5 := hg
    refine bk_258_36 k5 ?_
    exact bk_258_47 (rl_p_J he)
/-- the loop at 21 of VectorShelfModel.drawn -/
def lp_259_21 (a3 : Int32) : Nat → Int32
  | 0 => a3
  | k + 1 => bx (lp_259_21 a3 k) (fun p1 => ((p1 * 1103515245) + 12345))
def gl_259_21 (x2 : Int32) (a3 : Int32) (N : Nat) : Prop := (x2.toInt < 2147483647)
theorem lw_259_21 {l : LX} {d : Nat} {P : RP} {I : WI} {F : WF} {L : WL} {t : Nat} {x2 : Int32} {a3 : Int32} (hgl : gl_259_21 x2 a3 ((x2.toInt + 1 - (0 : Int32).toInt).toNat)) (hx : ∀ p1 : Int32, p1 = lp_259_21 a3 ((x2.toInt + 1 - (0 : Int32).toInt).toNat) → Wp l 259 (d + 1) 0 0 P 0 0 43 [(3, .int p1)] [] SH (I, F, L, RT t)) : Wp l 259 (d + 1) 0 0 P 0 0 21 [(2, .int x2), (3, .int a3), (4, .int 0)] [] SH (I, F, L, RT t) := by
  have hbig := hgl
  have loop : ∀ m k, k + m = (x2.toInt + 1 - (0 : Int32).toInt).toNat → ∀ p1 : Int32, p1 = lp_259_21 a3 k → Wp l 259 (d + 1) 0 0 P 0 0 21 [(2, .int x2), (3, .int p1), (4, .int (nI k))] [] SH (I, F, L, RT t) := by
    intro m
    induction m with
    | zero =>
      intro k hk p1 hs
      obtain rfl : k = (x2.toInt + 1 - (0 : Int32).toInt).toNat := by omega
      exact bk_259_21  (fun _ => hx _ hs) (fun h => absurd ((cl_gt0 hbig (Nat.le_refl _)).mpr rfl) h)
    | succ m ih =>
      intro k hk p1 hs
      have hk2 : k < (x2.toInt + 1 - (0 : Int32).toInt).toNat := by omega
      have ih := ih (k + 1) (by omega)
      rw [nI_succ] at ih
      have he := bx_eq hs (lp_259_21.eq_2 ..).symm
      refine bk_259_21  (fun h => absurd ((cl_gt0 (E := x2) (k := k) hbig (by omega)).mp h) (by omega)) (fun _ => ?_)
      refine bk_259_27 ?_
      exact ih ((p1 * 1103515245) + 12345) he
  exact loop _ 0 (Nat.zero_add _) _ rfl
/-- VectorShelfModel.drawn(II)I -/
def v_259 (x1 : Int32) (x2 : Int32) : Int32 := (if ¬ (v_170 (Int32.toInt64 x2) (0 : Int64) (2 : Int64)) = 0 then (bx ((lp_259_21 x1 ((x2.toInt + 1 - (0 : Int32).toInt).toNat)) : Int32) (fun p2 => ((((p2.toUInt32 >>> (Int32.toUInt32 9 &&& Int32.toUInt32 31)).toInt32) - ((p2.toUInt32 >>> (Int32.toUInt32 9 &&& Int32.toUInt32 31)).toInt32) / 1999 * 1999) - 999))) else (-99999))
def g_259 (x1 : Int32) (x2 : Int32) : Prop := ((¬ (v_170 (Int32.toInt64 x2) (0 : Int64) (2 : Int64)) = 0) → (gl_259_21 x2 x1 ((x2.toInt + 1 - (0 : Int32).toInt).toNat)))
theorem cc_259 {l : LX} {d : Nat} {I : WI} {F : WF} {L : WL} {t : Nat} {x1 : Int32} {x2 : Int32} (hg : g_259 x1 x2) : Con l 259 (d + 1) 0 0 [.ref 74, .int x1, .int x2] SH (I, F, L, RT t) (rI (v_259 x1 x2) (I, F, L, RT t)) := by
  refine cn_259 ?_
  obtain ⟨T1, hT1⟩ : ∃ r : Int32, r = (v_259 x1 x2) := ⟨_, rfl⟩
  rw [← hT1]
  have he := (hT1.trans (v_259.eq_1 ..)).symm
  have hg := Eq.mp (g_259.eq_1 ..) hg
  refine bk_259_0 (cc_170 (d := d + 0) ) ?_
  refine bk_259_9 (fun h2 => ?_) (fun h2 => ?_)
  · have he := ite_p h2 he
    have hg := hg h2
    refine bk_259_16 ?_
    have hgX := hg
    refine lw_259_21 (d := d)  hgX (fun p2 hr => ?_)
    have he := bx_eq hr he
    exact bk_259_43 (rl_p_I he)
  · have he := ite_n h2 he
    exact bk_259_12 (rl_p_I he)
/-- VectorShelfModel.isSheet(I)Z -/
def v_262 (x0 : Int32) : Int32 := (v_170 (Int32.toInt64 x0) (0 : Int64) (3 : Int64))
theorem cc_262 {l : LX} {d : Nat} {I : WI} {F : WF} {L : WL} {t : Nat} {x0 : Int32} : Con l 262 (d + 1) 0 0 [.int x0] SH (I, F, L, RT t) (rI (v_262 x0) (I, F, L, RT t)) := by
  refine cn_262 ?_
  obtain ⟨T1, hT1⟩ : ∃ r : Int32, r = (v_262 x0) := ⟨_, rfl⟩
  rw [← hT1]
  have he := (hT1.trans (v_262.eq_1 ..)).symm
  refine bk_262_0 (cc_170 (d := d + 0) ) ?_
  exact bk_262_9 (sb_170 ..) (rl_p_I he)
theorem sb_262 (x0 : Int32) : (v_262 x0) &&& 1 = (v_262 x0) := by
  unfold v_262
  repeat' split
  all_goals first | rfl | exact sb_170 ..
/-- VectorShelfModel.itemOf(II)I -/
def v_264 (I : WI) (F : WF) (x1 : Int32) (x2 : Int32) : Int32 := (if (I 112 x1.toNatClampNeg) = 0 then (if (I 116 ((40 * x1) + x2).toNatClampNeg) = 0 then (FP.f2i (FP.fmul 1082130432 (F 115 ((40 * x1) + x2).toNatClampNeg))) else 0) else (I 114 ((40 * x1) + x2).toNatClampNeg))
def g_264 (I : WI) (F : WF) (x1 : Int32) (x2 : Int32) : Prop := ((vp_in x1 4) ∧ ((((I 112 x1.toNatClampNeg) = 0) → ((vp_in ((40 * x1) + x2) 160) ∧ (((I 116 ((40 * x1) + x2).toNatClampNeg) = 0) → ((vp_in ((40 * x1) + x2) 160) ∧ (vf_n32 (FP.fmul 1082130432 (F 115 ((40 * x1) + x2).toNatClampNeg))))))) ∧ (¬ ((I 112 x1.toNatClampNeg) = 0) → (vp_in ((40 * x1) + x2) 160))))
theorem cc_264 {l : LX} {d : Nat} {I : WI} {F : WF} {L : WL} {t : Nat} {x1 : Int32} {x2 : Int32} (hg : g_264 I F x1 x2) : Con l 264 (d + 0) 0 0 [.ref 74, .int x1, .int x2] SH (I, F, L, RT t) (rI (v_264 I F x1 x2) (I, F, L, RT t)) := by
  refine cn_264 ?_
  obtain ⟨T1, hT1⟩ : ∃ r : Int32, r = (v_264 I F x1 x2) := ⟨_, rfl⟩
  rw [← hT1]
  have he := (hT1.trans (v_264.eq_1 ..)).symm
  have hg := Eq.mp (g_264.eq_1 ..) hg
  obtain ⟨k1, hg⟩ := hg
  refine bk_264_0 k1 (fun h2 => ?_) (fun h2 => ?_)
  · have he := ite_p h2 he
    have hg := hg.1 h2
    obtain ⟨k3, hg⟩ := hg
    refine bk_264_23 k3 (fun h4 => ?_) (fun h4 => ?_)
    · have he := ite_p h4 he
      have hg := hg h4
      obtain ⟨k5, k6⟩ := hg
      refine bk_264_36 k5 k6 ?_
      exact bk_264_46 (rl_p_I he)
    · have he := ite_n h4 he
      refine bk_264_32 ?_
      exact bk_264_46 (rl_p_I he)
  · have he := ite_n h2 he
    have hg := hg.2 h2
    have k7 := hg
    exact bk_264_16 k7 (rl_p_I he)
/-- VectorShelfModel.lays(III)V -/
def v_265 (I : WI) (x1 : Int32) (x2 : Int32) (x3 : Int32) : WI := (if ¬ x1 = 1 then (if ¬ x1 = 2 then (if ¬ x1 = 3 then (up2 I 87 x2.toNatClampNeg x3) else (up2 I 78 4 x3)) else (up2 I 74 4 x3)) else (up2 I 78 3 x3))
def g_265 (x1 : Int32) (x2 : Int32) : Prop := ((¬ x1 = 1) → ((¬ x1 = 2) → ((¬ x1 = 3) → (vp_in x2 12))))
theorem cc_265 {l : LX} {d : Nat} {I : WI} {F : WF} {L : WL} {t : Nat} {x1 : Int32} {x2 : Int32} {x3 : Int32} (hg : g_265 x1 x2) : Con l 265 (d + 0) 0 0 [.ref 74, .int x1, .int x2, .int x3] SH (I, F, L, RT t) (po_V_I F L t (v_265 I x1 x2 x3)) := by
  refine cn_265 ?_
  obtain ⟨T1, hT1⟩ : ∃ r : WI, r = (v_265 I x1 x2 x3) := ⟨_, rfl⟩
  rw [← hT1]
  have he := (hT1.trans (v_265.eq_1 ..)).symm
  have hg := Eq.mp (g_265.eq_1 ..) hg
  refine bk_265_0 (fun h1 => ?_) (fun h1 => ?_)
  · have he := ite_p h1 he
    have hg := hg h1
    refine bk_265_15 (fun h2 => ?_) (fun h2 => ?_)
    · have he := ite_p h2 he
      have hg := hg h2
      refine bk_265_28 (fun h3 => ?_) (fun h3 => ?_)
      · have he := ite_p h3 he
        have hg := hg h3
        have k4 := hg
        refine bk_265_43 k4 ?_
        exact bk_265_50 (rl_V_I he)
      · have he := ite_n h3 he
        refine bk_265_33 ?_
        exact bk_265_50 (rl_V_I he)
    · have he := ite_n h2 he
      refine bk_265_20 ?_
      exact bk_265_50 (rl_V_I he)
  · have he := ite_n h1 he
    refine bk_265_5 ?_
    exact bk_265_50 (rl_V_I he)
/-- the loop at 77 of VectorShelfModel.sheet -/
def lp_267_77 (x1 : Int32) (x2 : Int32) (x3 : Int32) : Nat → Int32 → WI → WF → WI × WF
  | 0, x4, I, F => (I, F)
  | k + 1, x4, I, F => (if x3 ≤ x4 then (I, F) else (if x2 < 0 then (I, F) else (lp_267_77 x1 x2 x3 k (x4 + 1) (up2 (up2 I 114 ((40 * x1) + x4).toNatClampNeg 0) 116 ((40 * x1) + x4).toNatClampNeg (vp_nar (bT 0) 0)) (up2 F 115 ((40 * x1) + x4).toNatClampNeg FP.fconst0))))
def gl_267_77 (x1 : Int32) (x2 : Int32) (x3 : Int32) : Nat → Int32 → WI → WF → Prop
  | 0, _, _, _ => False
  | k + 1, x4, I, F => (¬ (x3 ≤ x4) → (¬ (x2 < 0) → ((vp_in ((40 * x1) + x4) 160) ∧ (gl_267_77 x1 x2 x3 k (x4 + 1) (up2 (up2 I 114 ((40 * x1) + x4).toNatClampNeg 0) 116 ((40 * x1) + x4).toNatClampNeg (vp_nar (bT 0) 0)) (up2 F 115 ((40 * x1) + x4).toNatClampNeg FP.fconst0)))))
theorem lw_267_77 {l : LX} {d : Nat} {P : RP} {L : WL} {t : Nat} {x1 : Int32} {x2 : Int32} {x3 : Int32} : ∀ k : Nat, ∀ (x4 : Int32) (I : WI) (F : WF), gl_267_77 x1 x2 x3 k x4 I F → (∀ r : WI × WF, r = lp_267_77 x1 x2 x3 k x4 I F → Wp l 267 (d + 2) 0 0 P 0 0 132 [] [] SH (r.1, r.2, L, RT t)) → Wp l 267 (d + 2) 0 0 P 0 0 77 [(0, .ref 74), (1, .int x1), (2, .int x2), (3, .int x3), (4, .int x4)] [] SH (I, F, L, RT t) := by
  intro k
  induction k with
  | zero =>
    intro x4 I F hg hx
    exact hg.elim
  | succ k ih =>
    intro x4 I F hg hx
    have hg := Eq.mp (gl_267_77.eq_2 ..) hg
    obtain ⟨T1, hT1⟩ : ∃ r : WI × WF, r = lp_267_77 x1 x2 x3 (k + 1) x4 I F := ⟨_, rfl⟩
    have hx : ∀ r : WI × WF, r = T1 → Wp l 267 (d + 2) 0 0 P 0 0 132 [] [] SH (r.1, r.2, L, RT t) := fun r hr => hx r (hr.trans hT1)
    have he := (hT1.trans (lp_267_77.eq_2 ..)).symm
    refine bk_267_77 (fun h10 => ?_) (fun h10 => ?_)
    · have he := ite_p h10 he
      exact hx (I, F) he
    · have he := ite_n h10 he
      have hg := hg h10
      refine bk_267_83 (fun h11 => ?_) (fun h11 => ?_)
      · have he := ite_p h11 he
        exact hx (I, F) he
      · have he := ite_n h11 he
        have hg := hg h11
        obtain ⟨k12, hg⟩ := hg
        refine bk_267_87 k12 ?_
        exact ih (x4 + 1) (up2 (up2 I 114 ((40 * x1) + x4).toNatClampNeg 0) 116 ((40 * x1) + x4).toNatClampNeg (vp_nar (bT 0) 0)) (up2 F 115 ((40 * x1) + x4).toNatClampNeg FP.fconst0) hg (fun r hr => hx r (hr.trans he))
/-- VectorShelfModel.sheet(III)I -/
def v_267 (I : WI) (F : WF) (x1 : Int32) (x2 : Int32) (x3 : Int32) : Int32 × WI × WF := (if (v_262 x1) = 0 then ((-2), I, F) else (if (v_170 (Int32.toInt64 x2) ((-1) : Int64) (2 : Int64)) = 0 then ((-2), I, F) else (if x2 < 0 then (if x2 < 0 then (bx ((if x2 < 0 then 0 else 1) : Int32) (fun p1 => (bx ((lp_267_77 x1 x2 x3 400 (0 : Int32) (up2 (up2 (up2 I 111 x1.toNatClampNeg (vp_nar (bT 0) p1)) 112 x1.toNatClampNeg x2) 113 x1.toNatClampNeg x3) F) : WI × WF) (fun p2 => (1, p2.1, p2.2))))) else (if 0 ≤ x3 then (bx ((if x2 < 0 then 0 else 1) : Int32) (fun p3 => (bx ((lp_267_77 x1 x2 x3 400 (0 : Int32) (up2 (up2 (up2 I 111 x1.toNatClampNeg (vp_nar (bT 0) p3)) 112 x1.toNatClampNeg x2) 113 x1.toNatClampNeg x3) F) : WI × WF) (fun p4 => (1, p4.1, p4.2))))) else ((-14), I, F))) else (if x3 ≤ 40 then (if x2 < 0 then (bx ((if x2 < 0 then 0 else 1) : Int32) (fun p5 => (bx ((lp_267_77 x1 x2 x3 400 (0 : Int32) (up2 (up2 (up2 I 111 x1.toNatClampNeg (vp_nar (bT 0) p5)) 112 x1.toNatClampNeg x2) 113 x1.toNatClampNeg x3) F) : WI × WF) (fun p6 => (1, p6.1, p6.2))))) else (if 0 ≤ x3 then (bx ((if x2 < 0 then 0 else 1) : Int32) (fun p7 => (bx ((lp_267_77 x1 x2 x3 400 (0 : Int32) (up2 (up2 (up2 I 111 x1.toNatClampNeg (vp_nar (bT 0) p7)) 112 x1.toNatClampNeg x2) 113 x1.toNatClampNeg x3) F) : WI × WF) (fun p8 => (1, p8.1, p8.2))))) else ((-14), I, F))) else ((-2), I, F)))))
def g_267 (I : WI) (F : WF) (x1 : Int32) (x2 : Int32) (x3 : Int32) : Prop := (¬ ((v_262 x1) = 0) → (¬ ((v_170 (Int32.toInt64 x2) ((-1) : Int64) (2 : Int64)) = 0) → (((x2 < 0) → (((x2 < 0) → (bx ((if x2 < 0 then 0 else 1) : Int32) (fun p1 => ((vp_in x1 4) ∧ ((vp_in x1 4) ∧ (gl_267_77 x1 x2 x3 400 (0 : Int32) (up2 (up2 (up2 I 111 x1.toNatClampNeg (vp_nar (bT 0) p1)) 112 x1.toNatClampNeg x2) 113 x1.toNatClampNeg x3) F)))))) ∧ (¬ (x2 < 0) → ((0 ≤ x3) → (bx ((if x2 < 0 then 0 else 1) : Int32) (fun p3 => ((vp_in x1 4) ∧ ((vp_in x1 4) ∧ (gl_267_77 x1 x2 x3 400 (0 : Int32) (up2 (up2 (up2 I 111 x1.toNatClampNeg (vp_nar (bT 0) p3)) 112 x1.toNatClampNeg x2) 113 x1.toNatClampNeg x3) F))))))))) ∧ (¬ (x2 < 0) → ((x3 ≤ 40) → (((x2 < 0) → (bx ((if x2 < 0 then 0 else 1) : Int32) (fun p5 => ((vp_in x1 4) ∧ ((vp_in x1 4) ∧ (gl_267_77 x1 x2 x3 400 (0 : Int32) (up2 (up2 (up2 I 111 x1.toNatClampNeg (vp_nar (bT 0) p5)) 112 x1.toNatClampNeg x2) 113 x1.toNatClampNeg x3) F)))))) ∧ (¬ (x2 < 0) → ((0 ≤ x3) → (bx ((if x2 < 0 then 0 else 1) : Int32) (fun p7 => ((vp_in x1 4) ∧ ((vp_in x1 4) ∧ (gl_267_77 x1 x2 x3 400 (0 : Int32) (up2 (up2 (up2 I 111 x1.toNatClampNeg (vp_nar (bT 0) p7)) 112 x1.toNatClampNeg x2) 113 x1.toNatClampNeg x3) F)))))))))))))
theorem cc_267 {l : LX} {d : Nat} {I : WI} {F : WF} {L : WL} {t : Nat} {x1 : Int32} {x2 : Int32} {x3 : Int32} (hg : g_267 I F x1 x2 x3) : Con l 267 (d + 2) 0 0 [.ref 74, .int x1, .int x2, .int x3] SH (I, F, L, RT t) (po_I_IF L t (v_267 I F x1 x2 x3)) := by
  refine cn_267 ?_
  obtain ⟨T1, hT1⟩ : ∃ r : Int32 × WI × WF, r = (v_267 I F x1 x2 x3) := ⟨_, rfl⟩
  rw [← hT1]
  have he := (hT1.trans (v_267.eq_1 ..)).symm
  have hg := Eq.mp (g_267.eq_1 ..) hg
  refine bk_267_0 (cc_262 (d := d + 0) ) ?_
  refine bk_267_4 (fun h2 => ?_) (fun h2 => ?_)
  · have he := ite_p h2 he
    exact bk_267_31 (rl_I_IF he)
  · have he := ite_n h2 he
    have hg := hg h2
    refine bk_267_7 (cc_170 (d := d + 1) ) ?_
    refine bk_267_18 (fun h4 => ?_) (fun h4 => ?_)
    · have he := ite_p h4 he
      exact bk_267_31 (rl_I_IF he)
    · have he := ite_n h4 he
      have hg := hg h4
      refine bk_267_21 (fun h5 => ?_) (fun h5 => ?_)
      · have he := ite_p h5 he
        have hg := hg.1 h5
        refine bk_267_34 (fun h6 => ?_) (fun h6 => ?_)
        · have he := ite_p h6 he
          have hg := hg.1 h6
          obtain ⟨X1, hX1⟩ : ∃ r : Int32, r = (if x2 < 0 then 0 else 1) := ⟨_, rfl⟩
          have J1 : ∀ p1 : Int32, p1 = X1 → Wp l 267 (d + 2) 0 0 (po_I_IF L t T1) 0 0 59 [(0, .ref 74), (1, .int x1), (2, .int x2), (3, .int x3)] [.int p1, .int x1, .ref 111] SH (I, F, L, RT t) := by
            intro p1 hr
            have hr := hr.trans hX1
            have he := bx_eq hr he
            have hg := bx_un hr hg
            obtain ⟨k8, k9, hg⟩ := hg
            refine bk_267_59 k8 k9 ?_
            have hgX := hg
            refine lw_267_77 (d := d)  400 (0 : Int32) (up2 (up2 (up2 I 111 x1.toNatClampNeg (vp_nar (bT 0) p1)) 112 x1.toNatClampNeg x2) 113 x1.toNatClampNeg x3) F hgX (fun p2 hr => ?_)
            have he := bx_eq hr he
            exact bk_267_132 (rl_I_IF he)
          have he := hX1.symm
          refine bk_267_45 (fun h7 => ?_) (fun h7 => ?_)
          · have he := ite_p h7 he
            refine bk_267_58 ?_
            exact J1 0 he
          · have he := ite_n h7 he
            refine bk_267_54 ?_
            exact J1 1 he
        · have he := ite_n h6 he
          have hg := hg.2 h6
          refine bk_267_38 (fun h13 => ?_) (fun h13 => ?_)
          · have he := ite_p h13 he
            have hg := hg h13
            obtain ⟨X2, hX2⟩ : ∃ r : Int32, r = (if x2 < 0 then 0 else 1) := ⟨_, rfl⟩
            have J2 : ∀ p3 : Int32, p3 = X2 → Wp l 267 (d + 2) 0 0 (po_I_IF L t T1) 0 0 59 [(0, .ref 74), (1, .int x1), (2, .int x2), (3, .int x3)] [.int p3, .int x1, .ref 111] SH (I, F, L, RT t) := by
              intro p3 hr
              have hr := hr.trans hX2
              have he := bx_eq hr he
              have hg := bx_un hr hg
              obtain ⟨k15, k16, hg⟩ := hg
              refine bk_267_59 k15 k16 ?_
              have hgX := hg
              refine lw_267_77 (d := d)  400 (0 : Int32) (up2 (up2 (up2 I 111 x1.toNatClampNeg (vp_nar (bT 0) p3)) 112 x1.toNatClampNeg x2) 113 x1.toNatClampNeg x3) F hgX (fun p4 hr => ?_)
              have he := bx_eq hr he
              exact bk_267_132 (rl_I_IF he)
            have he := hX2.symm
            refine bk_267_45 (fun h14 => ?_) (fun h14 => ?_)
            · have he := ite_p h14 he
              refine bk_267_58 ?_
              exact J2 0 he
            · have he := ite_n h14 he
              refine bk_267_54 ?_
              exact J2 1 he
          · have he := ite_n h13 he
            exact bk_267_42 (rl_I_IF he)
      · have he := ite_n h5 he
        have hg := hg.2 h5
        refine bk_267_25 (fun h17 => ?_) (fun h17 => ?_)
        · have he := ite_p h17 he
          have hg := hg h17
          refine bk_267_34 (fun h18 => ?_) (fun h18 => ?_)
          · have he := ite_p h18 he
            have hg := hg.1 h18
            obtain ⟨X3, hX3⟩ : ∃ r : Int32, r = (if x2 < 0 then 0 else 1) := ⟨_, rfl⟩
            have J3 : ∀ p5 : Int32, p5 = X3 → Wp l 267 (d + 2) 0 0 (po_I_IF L t T1) 0 0 59 [(0, .ref 74), (1, .int x1), (2, .int x2), (3, .int x3)] [.int p5, .int x1, .ref 111] SH (I, F, L, RT t) := by
              intro p5 hr
              have hr := hr.trans hX3
              have he := bx_eq hr he
              have hg := bx_un hr hg
              obtain ⟨k20, k21, hg⟩ := hg
              refine bk_267_59 k20 k21 ?_
              have hgX := hg
              refine lw_267_77 (d := d)  400 (0 : Int32) (up2 (up2 (up2 I 111 x1.toNatClampNeg (vp_nar (bT 0) p5)) 112 x1.toNatClampNeg x2) 113 x1.toNatClampNeg x3) F hgX (fun p6 hr => ?_)
              have he := bx_eq hr he
              exact bk_267_132 (rl_I_IF he)
            have he := hX3.symm
            refine bk_267_45 (fun h19 => ?_) (fun h19 => ?_)
            · have he := ite_p h19 he
              refine bk_267_58 ?_
              exact J3 0 he
            · have he := ite_n h19 he
              refine bk_267_54 ?_
              exact J3 1 he
          · have he := ite_n h18 he
            have hg := hg.2 h18
            refine bk_267_38 (fun h22 => ?_) (fun h22 => ?_)
            · have he := ite_p h22 he
              have hg := hg h22
              obtain ⟨X4, hX4⟩ : ∃ r : Int32, r = (if x2 < 0 then 0 else 1) := ⟨_, rfl⟩
              have J4 : ∀ p7 : Int32, p7 = X4 → Wp l 267 (d + 2) 0 0 (po_I_IF L t T1) 0 0 59 [(0, .ref 74), (1, .int x1), (2, .int x2), (3, .int x3)] [.int p7, .int x1, .ref 111] SH (I, F, L, RT t) := by
                intro p7 hr
                have hr := hr.trans hX4
                have he := bx_eq hr he
                have hg := bx_un hr hg
                obtain ⟨k24, k25, hg⟩ := hg
                refine bk_267_59 k24 k25 ?_
                have hgX := hg
                refine lw_267_77 (d := d)  400 (0 : Int32) (up2 (up2 (up2 I 111 x1.toNatClampNeg (vp_nar (bT 0) p7)) 112 x1.toNatClampNeg x2) 113 x1.toNatClampNeg x3) F hgX (fun p8 hr => ?_)
                have he := bx_eq hr he
                exact bk_267_132 (rl_I_IF he)
              have he := hX4.symm
              refine bk_267_45 (fun h23 => ?_) (fun h23 => ?_)
              · have he := ite_p h23 he
                refine bk_267_58 ?_
                exact J4 0 he
              · have he := ite_n h23 he
                refine bk_267_54 ?_
                exact J4 1 he
            · have he := ite_n h22 he
              exact bk_267_42 (rl_I_IF he)
        · have he := ite_n h17 he
          exact bk_267_31 (rl_I_IF he)
/-- the loop at 2 of VectorShelfModel.image -/
def lp_268_2 (I : WI) : Nat → WI
  | 0 => I
  | k + 1 => bx (lp_268_2 I k) (fun p1 => (up2 p1 107 (nI k).toNatClampNeg (p1 84 (nI k).toNatClampNeg)))
def gl_268_2 (I : WI) (N : Nat) : Prop := (∀ k, k < N → bx (lp_268_2 I k) (fun p1 => (vp_in (nI k) 36)))
theorem lw_268_2 {l : LX} {d : Nat} {P : RP} {I : WI} {F : WF} {L : WL} {t : Nat} (hgl : gl_268_2 I ((36 : Int32).toNatClampNeg)) (hx : ∀ p1 : WI, p1 = lp_268_2 I ((36 : Int32).toNatClampNeg) → Wp l 268 (d + 0) 0 0 P 0 0 26 [(0, .ref 74)] [] SH (p1, F, L, RT t)) : Wp l 268 (d + 0) 0 0 P 0 0 2 [(0, .ref 74), (1, .int 0)] [] SH (I, F, L, RT t) := by
  have hin := hgl
  have loop : ∀ m k, k + m = (36 : Int32).toNatClampNeg → ∀ p1 : WI, p1 = lp_268_2 I k → Wp l 268 (d + 0) 0 0 P 0 0 2 [(0, .ref 74), (1, .int (nI k))] [] SH (p1, F, L, RT t) := by
    intro m
    induction m with
    | zero =>
      intro k hk p1 hs
      obtain rfl : k = (36 : Int32).toNatClampNeg := by omega
      exact bk_268_2  (fun _ => hx _ hs) (fun h => absurd ((le_cl (Nat.le_refl _)).mpr rfl) h)
    | succ m ih =>
      intro k hk p1 hs
      have hk2 : k < (36 : Int32).toNatClampNeg := by omega
      have ih := ih (k + 1) (by omega)
      rw [nI_succ] at ih
      have he := bx_eq hs (lp_268_2.eq_2 ..).symm
      have hg := bx_un hs (hin k hk2)
      refine bk_268_2  (fun h => absurd ((le_cl (E := 36) (i := k) (by omega)).mp h) (by omega)) (fun _ => ?_)
      have k1 := hg
      refine bk_268_8 k1 ?_
      exact ih (up2 p1 107 (nI k).toNatClampNeg (p1 84 (nI k).toNatClampNeg)) he
  exact loop _ 0 (Nat.zero_add _) _ rfl
/-- the loop at 28 of VectorShelfModel.image -/
def lp_268_28 (I : WI) : Nat → WI
  | 0 => I
  | k + 1 => bx (lp_268_28 I k) (fun p3 => (up2 (up2 (up2 (up2 (up2 (up2 p3 103 (nI k).toNatClampNeg (p3 80 (nI k).toNatClampNeg)) 104 (nI k).toNatClampNeg (p3 81 (nI k).toNatClampNeg)) 105 (nI k).toNatClampNeg (p3 82 (nI k).toNatClampNeg)) 108 (nI k).toNatClampNeg (p3 85 (nI k).toNatClampNeg)) 109 (nI k).toNatClampNeg (p3 86 (nI k).toNatClampNeg)) 110 (nI k).toNatClampNeg (p3 87 (nI k).toNatClampNeg)))
def gl_268_28 (I : WI) (N : Nat) : Prop := (∀ k, k < N → bx (lp_268_28 I k) (fun p3 => (vp_in (nI k) 12)))
theorem lw_268_28 {l : LX} {d : Nat} {P : RP} {I : WI} {F : WF} {L : WL} {t : Nat} (hgl : gl_268_28 I ((12 : Int32).toNatClampNeg)) (hx : ∀ p3 : WI, p3 = lp_268_28 I ((12 : Int32).toNatClampNeg) → Wp l 268 (d + 0) 0 0 P 0 0 112 [(0, .ref 74)] [] SH (p3, F, L, RT t)) : Wp l 268 (d + 0) 0 0 P 0 0 28 [(0, .ref 74), (1, .int 0)] [] SH (I, F, L, RT t) := by
  have hin := hgl
  have loop : ∀ m k, k + m = (12 : Int32).toNatClampNeg → ∀ p3 : WI, p3 = lp_268_28 I k → Wp l 268 (d + 0) 0 0 P 0 0 28 [(0, .ref 74), (1, .int (nI k))] [] SH (p3, F, L, RT t) := by
    intro m
    induction m with
    | zero =>
      intro k hk p3 hs
      obtain rfl : k = (12 : Int32).toNatClampNeg := by omega
      exact bk_268_28  (fun _ => hx _ hs) (fun h => absurd ((le_cl (Nat.le_refl _)).mpr rfl) h)
    | succ m ih =>
      intro k hk p3 hs
      have hk2 : k < (12 : Int32).toNatClampNeg := by omega
      have ih := ih (k + 1) (by omega)
      rw [nI_succ] at ih
      have he := bx_eq hs (lp_268_28.eq_2 ..).symm
      have hg := bx_un hs (hin k hk2)
      refine bk_268_28  (fun h => absurd ((le_cl (E := 12) (i := k) (by omega)).mp h) (by omega)) (fun _ => ?_)
      have k2 := hg
      refine bk_268_34 k2 ?_
      exact ih (up2 (up2 (up2 (up2 (up2 (up2 p3 103 (nI k).toNatClampNeg (p3 80 (nI k).toNatClampNeg)) 104 (nI k).toNatClampNeg (p3 81 (nI k).toNatClampNeg)) 105 (nI k).toNatClampNeg (p3 82 (nI k).toNatClampNeg)) 108 (nI k).toNatClampNeg (p3 85 (nI k).toNatClampNeg)) 109 (nI k).toNatClampNeg (p3 86 (nI k).toNatClampNeg)) 110 (nI k).toNatClampNeg (p3 87 (nI k).toNatClampNeg)) he
  exact loop _ 0 (Nat.zero_add _) _ rfl
/-- the loop at 114 of VectorShelfModel.image -/
def lp_268_114 (I : WI) : Nat → WI
  | 0 => I
  | k + 1 => bx (lp_268_114 I k) (fun p5 => (up2 p5 101 (nI k).toNatClampNeg (p5 78 (nI k).toNatClampNeg)))
def gl_268_114 (I : WI) (N : Nat) : Prop := (∀ k, k < N → bx (lp_268_114 I k) (fun p5 => (vp_in (nI k) 7)))
theorem lw_268_114 {l : LX} {d : Nat} {P : RP} {I : WI} {F : WF} {L : WL} {t : Nat} (hgl : gl_268_114 I ((7 : Int32).toNatClampNeg)) (hx : ∀ p5 : WI, p5 = lp_268_114 I ((7 : Int32).toNatClampNeg) → Wp l 268 (d + 0) 0 0 P 0 0 138 [(0, .ref 74)] [] SH (p5, F, L, RT t)) : Wp l 268 (d + 0) 0 0 P 0 0 114 [(0, .ref 74), (1, .int 0)] [] SH (I, F, L, RT t) := by
  have hin := hgl
  have loop : ∀ m k, k + m = (7 : Int32).toNatClampNeg → ∀ p5 : WI, p5 = lp_268_114 I k → Wp l 268 (d + 0) 0 0 P 0 0 114 [(0, .ref 74), (1, .int (nI k))] [] SH (p5, F, L, RT t) := by
    intro m
    induction m with
    | zero =>
      intro k hk p5 hs
      obtain rfl : k = (7 : Int32).toNatClampNeg := by omega
      exact bk_268_114  (fun _ => hx _ hs) (fun h => absurd ((le_cl (Nat.le_refl _)).mpr rfl) h)
    | succ m ih =>
      intro k hk p5 hs
      have hk2 : k < (7 : Int32).toNatClampNeg := by omega
      have ih := ih (k + 1) (by omega)
      rw [nI_succ] at ih
      have he := bx_eq hs (lp_268_114.eq_2 ..).symm
      have hg := bx_un hs (hin k hk2)
      refine bk_268_114  (fun h => absurd ((le_cl (E := 7) (i := k) (by omega)).mp h) (by omega)) (fun _ => ?_)
      have k3 := hg
      refine bk_268_120 k3 ?_
      exact ih (up2 p5 101 (nI k).toNatClampNeg (p5 78 (nI k).toNatClampNeg)) he
  exact loop _ 0 (Nat.zero_add _) _ rfl
/-- the loop at 140 of VectorShelfModel.image -/
def lp_268_140 (I : WI) : Nat → WI
  | 0 => I
  | k + 1 => bx (lp_268_140 I k) (fun p7 => (up2 p7 106 (nI k).toNatClampNeg (vp_nar (bT 0) (p7 83 (nI k).toNatClampNeg))))
def gl_268_140 (I : WI) (N : Nat) : Prop := (∀ k, k < N → bx (lp_268_140 I k) (fun p7 => (vp_in (nI k) 4)))
theorem lw_268_140 {l : LX} {d : Nat} {P : RP} {I : WI} {F : WF} {L : WL} {t : Nat} (hgl : gl_268_140 I ((4 : Int32).toNatClampNeg)) (hx : ∀ p7 : WI, p7 = lp_268_140 I ((4 : Int32).toNatClampNeg) → Wp l 268 (d + 0) 0 0 P 0 0 163 [(0, .ref 74)] [] SH (p7, F, L, RT t)) : Wp l 268 (d + 0) 0 0 P 0 0 140 [(0, .ref 74), (1, .int 0)] [] SH (I, F, L, RT t) := by
  have hin := hgl
  have loop : ∀ m k, k + m = (4 : Int32).toNatClampNeg → ∀ p7 : WI, p7 = lp_268_140 I k → Wp l 268 (d + 0) 0 0 P 0 0 140 [(0, .ref 74), (1, .int (nI k))] [] SH (p7, F, L, RT t) := by
    intro m
    induction m with
    | zero =>
      intro k hk p7 hs
      obtain rfl : k = (4 : Int32).toNatClampNeg := by omega
      exact bk_268_140  (fun _ => hx _ hs) (fun h => absurd ((le_cl (Nat.le_refl _)).mpr rfl) h)
    | succ m ih =>
      intro k hk p7 hs
      have hk2 : k < (4 : Int32).toNatClampNeg := by omega
      have ih := ih (k + 1) (by omega)
      rw [nI_succ] at ih
      have he := bx_eq hs (lp_268_140.eq_2 ..).symm
      have hg := bx_un hs (hin k hk2)
      refine bk_268_140  (fun h => absurd ((le_cl (E := 4) (i := k) (by omega)).mp h) (by omega)) (fun _ => ?_)
      have k4 := hg
      refine bk_268_145 k4 ?_
      exact ih (up2 p7 106 (nI k).toNatClampNeg (vp_nar (bT 0) (p7 83 (nI k).toNatClampNeg))) he
  exact loop _ 0 (Nat.zero_add _) _ rfl
/-- the loop at 165 of VectorShelfModel.image -/
def lp_268_165 (I : WI) : Nat → WI
  | 0 => I
  | k + 1 => bx (lp_268_165 I k) (fun p9 => (up2 p9 102 (nI k).toNatClampNeg (p9 79 (nI k).toNatClampNeg)))
def gl_268_165 (I : WI) (N : Nat) : Prop := (∀ k, k < N → bx (lp_268_165 I k) (fun p9 => (vp_in (nI k) 3)))
theorem lw_268_165 {l : LX} {d : Nat} {P : RP} {I : WI} {F : WF} {L : WL} {t : Nat} (hgl : gl_268_165 I ((3 : Int32).toNatClampNeg)) (hx : ∀ p9 : WI, p9 = lp_268_165 I ((3 : Int32).toNatClampNeg) → Wp l 268 (d + 0) 0 0 P 0 0 188 [(0, .ref 74)] [] SH (p9, F, L, RT t)) : Wp l 268 (d + 0) 0 0 P 0 0 165 [(0, .ref 74), (1, .int 0)] [] SH (I, F, L, RT t) := by
  have hin := hgl
  have loop : ∀ m k, k + m = (3 : Int32).toNatClampNeg → ∀ p9 : WI, p9 = lp_268_165 I k → Wp l 268 (d + 0) 0 0 P 0 0 165 [(0, .ref 74), (1, .int (nI k))] [] SH (p9, F, L, RT t) := by
    intro m
    induction m with
    | zero =>
      intro k hk p9 hs
      obtain rfl : k = (3 : Int32).toNatClampNeg := by omega
      exact bk_268_165  (fun _ => hx _ hs) (fun h => absurd ((le_cl (Nat.le_refl _)).mpr rfl) h)
    | succ m ih =>
      intro k hk p9 hs
      have hk2 : k < (3 : Int32).toNatClampNeg := by omega
      have ih := ih (k + 1) (by omega)
      rw [nI_succ] at ih
      have he := bx_eq hs (lp_268_165.eq_2 ..).symm
      have hg := bx_un hs (hin k hk2)
      refine bk_268_165  (fun h => absurd ((le_cl (E := 3) (i := k) (by omega)).mp h) (by omega)) (fun _ => ?_)
      have k5 := hg
      refine bk_268_170 k5 ?_
      exact ih (up2 p9 102 (nI k).toNatClampNeg (p9 79 (nI k).toNatClampNeg)) he
  exact loop _ 0 (Nat.zero_add _) _ rfl
/-- VectorShelfModel.image()I -/
def v_268 (I : WI) : Int32 × WI := (bx ((lp_268_2 I ((36 : Int32).toNatClampNeg)) : WI) (fun p2 => (bx ((lp_268_28 p2 ((12 : Int32).toNatClampNeg)) : WI) (fun p4 => (bx ((lp_268_114 p4 ((7 : Int32).toNatClampNeg)) : WI) (fun p6 => (bx ((lp_268_140 p6 ((4 : Int32).toNatClampNeg)) : WI) (fun p8 => (bx ((lp_268_165 p8 ((3 : Int32).toNatClampNeg)) : WI) (fun p10 => ((p10 74 18), (up2 (up2 (up2 p10 74 60 (p10 74 18)) 74 61 (p10 74 13)) 74 62 (p10 74 4)))))))))))))
def g_268 (I : WI) : Prop := ((gl_268_2 I ((36 : Int32).toNatClampNeg)) ∧ (bx ((lp_268_2 I ((36 : Int32).toNatClampNeg)) : WI) (fun p2 => ((gl_268_28 p2 ((12 : Int32).toNatClampNeg)) ∧ (bx ((lp_268_28 p2 ((12 : Int32).toNatClampNeg)) : WI) (fun p4 => ((gl_268_114 p4 ((7 : Int32).toNatClampNeg)) ∧ (bx ((lp_268_114 p4 ((7 : Int32).toNatClampNeg)) : WI) (fun p6 => ((gl_268_140 p6 ((4 : Int32).toNatClampNeg)) ∧ (bx ((lp_268_140 p6 ((4 : Int32).toNatClampNeg)) : WI) (fun p8 => (gl_268_165 p8 ((3 : Int32).toNatClampNeg))))))))))))))
theorem cc_268 {l : LX} {d : Nat} {I : WI} {F : WF} {L : WL} {t : Nat} (hg : g_268 I) : Con l 268 (d + 0) 0 0 [.ref 74] SH (I, F, L, RT t) (po_I_I F L t (v_268 I)) := by
  refine cn_268 ?_
  obtain ⟨T1, hT1⟩ : ∃ r : Int32 × WI, r = (v_268 I) := ⟨_, rfl⟩
  rw [← hT1]
  have he := (hT1.trans (v_268.eq_1 ..)).symm
  have hg := Eq.mp (g_268.eq_1 ..) hg
  refine bk_268_0 ?_
  obtain ⟨hgX, hg⟩ := hg
  refine lw_268_2 (d := d)  hgX (fun p2 hr => ?_)
  have he := bx_eq hr he
  have hg := bx_un hr hg
  refine bk_268_26 ?_
  obtain ⟨hgX, hg⟩ := hg
  refine lw_268_28 (d := d)  hgX (fun p4 hr => ?_)
  have he := bx_eq hr he
  have hg := bx_un hr hg
  refine bk_268_112 ?_
  obtain ⟨hgX, hg⟩ := hg
  refine lw_268_114 (d := d)  hgX (fun p6 hr => ?_)
  have he := bx_eq hr he
  have hg := bx_un hr hg
  refine bk_268_138 ?_
  obtain ⟨hgX, hg⟩ := hg
  refine lw_268_140 (d := d)  hgX (fun p8 hr => ?_)
  have he := bx_eq hr he
  have hg := bx_un hr hg
  refine bk_268_163 ?_
  have hgX := hg
  refine lw_268_165 (d := d)  hgX (fun p10 hr => ?_)
  have he := bx_eq hr he
  exact bk_268_188 (rl_I_I he)
/-- the loop at 13 of VectorShelfModel.back -/
def lp_269_13 (I : WI) : Nat → WI
  | 0 => I
  | k + 1 => bx (lp_269_13 I k) (fun p1 => (up2 p1 84 (nI k).toNatClampNeg (p1 107 (nI k).toNatClampNeg)))
def gl_269_13 (I : WI) (N : Nat) : Prop := (∀ k, k < N → bx (lp_269_13 I k) (fun p1 => (vp_in (nI k) 36)))
theorem lw_269_13 {l : LX} {d : Nat} {P : RP} {I : WI} {F : WF} {L : WL} {t : Nat} (hgl : gl_269_13 I ((36 : Int32).toNatClampNeg)) (hx : ∀ p1 : WI, p1 = lp_269_13 I ((36 : Int32).toNatClampNeg) → Wp l 269 (d + 0) 0 0 P 0 0 37 [(0, .ref 74)] [] SH (p1, F, L, RT t)) : Wp l 269 (d + 0) 0 0 P 0 0 13 [(0, .ref 74), (1, .int 0)] [] SH (I, F, L, RT t) := by
  have hin := hgl
  have loop : ∀ m k, k + m = (36 : Int32).toNatClampNeg → ∀ p1 : WI, p1 = lp_269_13 I k → Wp l 269 (d + 0) 0 0 P 0 0 13 [(0, .ref 74), (1, .int (nI k))] [] SH (p1, F, L, RT t) := by
    intro m
    induction m with
    | zero =>
      intro k hk p1 hs
      obtain rfl : k = (36 : Int32).toNatClampNeg := by omega
      exact bk_269_13  (fun _ => hx _ hs) (fun h => absurd ((le_cl (Nat.le_refl _)).mpr rfl) h)
    | succ m ih =>
      intro k hk p1 hs
      have hk2 : k < (36 : Int32).toNatClampNeg := by omega
      have ih := ih (k + 1) (by omega)
      rw [nI_succ] at ih
      have he := bx_eq hs (lp_269_13.eq_2 ..).symm
      have hg := bx_un hs (hin k hk2)
      refine bk_269_13  (fun h => absurd ((le_cl (E := 36) (i := k) (by omega)).mp h) (by omega)) (fun _ => ?_)
      have k2 := hg
      refine bk_269_19 k2 ?_
      exact ih (up2 p1 84 (nI k).toNatClampNeg (p1 107 (nI k).toNatClampNeg)) he
  exact loop _ 0 (Nat.zero_add _) _ rfl
/-- the loop at 39 of VectorShelfModel.back -/
def lp_269_39 (I : WI) : Nat → WI
  | 0 => I
  | k + 1 => bx (lp_269_39 I k) (fun p3 => (up2 (up2 (up2 (up2 (up2 (up2 p3 80 (nI k).toNatClampNeg (p3 103 (nI k).toNatClampNeg)) 81 (nI k).toNatClampNeg (p3 104 (nI k).toNatClampNeg)) 82 (nI k).toNatClampNeg (p3 105 (nI k).toNatClampNeg)) 85 (nI k).toNatClampNeg (p3 108 (nI k).toNatClampNeg)) 86 (nI k).toNatClampNeg (p3 109 (nI k).toNatClampNeg)) 87 (nI k).toNatClampNeg (p3 110 (nI k).toNatClampNeg)))
def gl_269_39 (I : WI) (N : Nat) : Prop := (∀ k, k < N → bx (lp_269_39 I k) (fun p3 => (vp_in (nI k) 12)))
theorem lw_269_39 {l : LX} {d : Nat} {P : RP} {I : WI} {F : WF} {L : WL} {t : Nat} (hgl : gl_269_39 I ((12 : Int32).toNatClampNeg)) (hx : ∀ p3 : WI, p3 = lp_269_39 I ((12 : Int32).toNatClampNeg) → Wp l 269 (d + 0) 0 0 P 0 0 123 [(0, .ref 74)] [] SH (p3, F, L, RT t)) : Wp l 269 (d + 0) 0 0 P 0 0 39 [(0, .ref 74), (1, .int 0)] [] SH (I, F, L, RT t) := by
  have hin := hgl
  have loop : ∀ m k, k + m = (12 : Int32).toNatClampNeg → ∀ p3 : WI, p3 = lp_269_39 I k → Wp l 269 (d + 0) 0 0 P 0 0 39 [(0, .ref 74), (1, .int (nI k))] [] SH (p3, F, L, RT t) := by
    intro m
    induction m with
    | zero =>
      intro k hk p3 hs
      obtain rfl : k = (12 : Int32).toNatClampNeg := by omega
      exact bk_269_39  (fun _ => hx _ hs) (fun h => absurd ((le_cl (Nat.le_refl _)).mpr rfl) h)
    | succ m ih =>
      intro k hk p3 hs
      have hk2 : k < (12 : Int32).toNatClampNeg := by omega
      have ih := ih (k + 1) (by omega)
      rw [nI_succ] at ih
      have he := bx_eq hs (lp_269_39.eq_2 ..).symm
      have hg := bx_un hs (hin k hk2)
      refine bk_269_39  (fun h => absurd ((le_cl (E := 12) (i := k) (by omega)).mp h) (by omega)) (fun _ => ?_)
      have k3 := hg
      refine bk_269_45 k3 ?_
      exact ih (up2 (up2 (up2 (up2 (up2 (up2 p3 80 (nI k).toNatClampNeg (p3 103 (nI k).toNatClampNeg)) 81 (nI k).toNatClampNeg (p3 104 (nI k).toNatClampNeg)) 82 (nI k).toNatClampNeg (p3 105 (nI k).toNatClampNeg)) 85 (nI k).toNatClampNeg (p3 108 (nI k).toNatClampNeg)) 86 (nI k).toNatClampNeg (p3 109 (nI k).toNatClampNeg)) 87 (nI k).toNatClampNeg (p3 110 (nI k).toNatClampNeg)) he
  exact loop _ 0 (Nat.zero_add _) _ rfl
/-- the loop at 125 of VectorShelfModel.back -/
def lp_269_125 (I : WI) : Nat → WI
  | 0 => I
  | k + 1 => bx (lp_269_125 I k) (fun p5 => (up2 p5 78 (nI k).toNatClampNeg (p5 101 (nI k).toNatClampNeg)))
def gl_269_125 (I : WI) (N : Nat) : Prop := (∀ k, k < N → bx (lp_269_125 I k) (fun p5 => (vp_in (nI k) 7)))
theorem lw_269_125 {l : LX} {d : Nat} {P : RP} {I : WI} {F : WF} {L : WL} {t : Nat} (hgl : gl_269_125 I ((7 : Int32).toNatClampNeg)) (hx : ∀ p5 : WI, p5 = lp_269_125 I ((7 : Int32).toNatClampNeg) → Wp l 269 (d + 0) 0 0 P 0 0 149 [(0, .ref 74)] [] SH (p5, F, L, RT t)) : Wp l 269 (d + 0) 0 0 P 0 0 125 [(0, .ref 74), (1, .int 0)] [] SH (I, F, L, RT t) := by
  have hin := hgl
  have loop : ∀ m k, k + m = (7 : Int32).toNatClampNeg → ∀ p5 : WI, p5 = lp_269_125 I k → Wp l 269 (d + 0) 0 0 P 0 0 125 [(0, .ref 74), (1, .int (nI k))] [] SH (p5, F, L, RT t) := by
    intro m
    induction m with
    | zero =>
      intro k hk p5 hs
      obtain rfl : k = (7 : Int32).toNatClampNeg := by omega
      exact bk_269_125  (fun _ => hx _ hs) (fun h => absurd ((le_cl (Nat.le_refl _)).mpr rfl) h)
    | succ m ih =>
      intro k hk p5 hs
      have hk2 : k < (7 : Int32).toNatClampNeg := by omega
      have ih := ih (k + 1) (by omega)
      rw [nI_succ] at ih
      have he := bx_eq hs (lp_269_125.eq_2 ..).symm
      have hg := bx_un hs (hin k hk2)
      refine bk_269_125  (fun h => absurd ((le_cl (E := 7) (i := k) (by omega)).mp h) (by omega)) (fun _ => ?_)
      have k4 := hg
      refine bk_269_131 k4 ?_
      exact ih (up2 p5 78 (nI k).toNatClampNeg (p5 101 (nI k).toNatClampNeg)) he
  exact loop _ 0 (Nat.zero_add _) _ rfl
/-- the loop at 151 of VectorShelfModel.back -/
def lp_269_151 (I : WI) : Nat → WI
  | 0 => I
  | k + 1 => bx (lp_269_151 I k) (fun p7 => (up2 p7 83 (nI k).toNatClampNeg (vp_nar (bT 0) (p7 106 (nI k).toNatClampNeg))))
def gl_269_151 (I : WI) (N : Nat) : Prop := (∀ k, k < N → bx (lp_269_151 I k) (fun p7 => (vp_in (nI k) 4)))
theorem lw_269_151 {l : LX} {d : Nat} {P : RP} {I : WI} {F : WF} {L : WL} {t : Nat} (hgl : gl_269_151 I ((4 : Int32).toNatClampNeg)) (hx : ∀ p7 : WI, p7 = lp_269_151 I ((4 : Int32).toNatClampNeg) → Wp l 269 (d + 0) 0 0 P 0 0 174 [(0, .ref 74)] [] SH (p7, F, L, RT t)) : Wp l 269 (d + 0) 0 0 P 0 0 151 [(0, .ref 74), (1, .int 0)] [] SH (I, F, L, RT t) := by
  have hin := hgl
  have loop : ∀ m k, k + m = (4 : Int32).toNatClampNeg → ∀ p7 : WI, p7 = lp_269_151 I k → Wp l 269 (d + 0) 0 0 P 0 0 151 [(0, .ref 74), (1, .int (nI k))] [] SH (p7, F, L, RT t) := by
    intro m
    induction m with
    | zero =>
      intro k hk p7 hs
      obtain rfl : k = (4 : Int32).toNatClampNeg := by omega
      exact bk_269_151  (fun _ => hx _ hs) (fun h => absurd ((le_cl (Nat.le_refl _)).mpr rfl) h)
    | succ m ih =>
      intro k hk p7 hs
      have hk2 : k < (4 : Int32).toNatClampNeg := by omega
      have ih := ih (k + 1) (by omega)
      rw [nI_succ] at ih
      have he := bx_eq hs (lp_269_151.eq_2 ..).symm
      have hg := bx_un hs (hin k hk2)
      refine bk_269_151  (fun h => absurd ((le_cl (E := 4) (i := k) (by omega)).mp h) (by omega)) (fun _ => ?_)
      have k5 := hg
      refine bk_269_156 k5 ?_
      exact ih (up2 p7 83 (nI k).toNatClampNeg (vp_nar (bT 0) (p7 106 (nI k).toNatClampNeg))) he
  exact loop _ 0 (Nat.zero_add _) _ rfl
/-- the loop at 176 of VectorShelfModel.back -/
def lp_269_176 (I : WI) : Nat → WI
  | 0 => I
  | k + 1 => bx (lp_269_176 I k) (fun p9 => (up2 p9 79 (nI k).toNatClampNeg (p9 102 (nI k).toNatClampNeg)))
def gl_269_176 (I : WI) (N : Nat) : Prop := (∀ k, k < N → bx (lp_269_176 I k) (fun p9 => (vp_in (nI k) 3)))
theorem lw_269_176 {l : LX} {d : Nat} {P : RP} {I : WI} {F : WF} {L : WL} {t : Nat} (hgl : gl_269_176 I ((3 : Int32).toNatClampNeg)) (hx : ∀ p9 : WI, p9 = lp_269_176 I ((3 : Int32).toNatClampNeg) → Wp l 269 (d + 0) 0 0 P 0 0 199 [(0, .ref 74)] [] SH (p9, F, L, RT t)) : Wp l 269 (d + 0) 0 0 P 0 0 176 [(0, .ref 74), (1, .int 0)] [] SH (I, F, L, RT t) := by
  have hin := hgl
  have loop : ∀ m k, k + m = (3 : Int32).toNatClampNeg → ∀ p9 : WI, p9 = lp_269_176 I k → Wp l 269 (d + 0) 0 0 P 0 0 176 [(0, .ref 74), (1, .int (nI k))] [] SH (p9, F, L, RT t) := by
    intro m
    induction m with
    | zero =>
      intro k hk p9 hs
      obtain rfl : k = (3 : Int32).toNatClampNeg := by omega
      exact bk_269_176  (fun _ => hx _ hs) (fun h => absurd ((le_cl (Nat.le_refl _)).mpr rfl) h)
    | succ m ih =>
      intro k hk p9 hs
      have hk2 : k < (3 : Int32).toNatClampNeg := by omega
      have ih := ih (k + 1) (by omega)
      rw [nI_succ] at ih
      have he := bx_eq hs (lp_269_176.eq_2 ..).symm
      have hg := bx_un hs (hin k hk2)
      refine bk_269_176  (fun h => absurd ((le_cl (E := 3) (i := k) (by omega)).mp h) (by omega)) (fun _ => ?_)
      have k6 := hg
      refine bk_269_181 k6 ?_
      exact ih (up2 p9 79 (nI k).toNatClampNeg (p9 102 (nI k).toNatClampNeg)) he
  exact loop _ 0 (Nat.zero_add _) _ rfl
/-- VectorShelfModel.back()I -/
def v_269 (I : WI) : Int32 × WI := (if ¬ (I 74 60) = (-1) then (bx ((lp_269_13 I ((36 : Int32).toNatClampNeg)) : WI) (fun p2 => (bx ((lp_269_39 p2 ((12 : Int32).toNatClampNeg)) : WI) (fun p4 => (bx ((lp_269_125 p4 ((7 : Int32).toNatClampNeg)) : WI) (fun p6 => (bx ((lp_269_151 p6 ((4 : Int32).toNatClampNeg)) : WI) (fun p8 => (bx ((lp_269_176 p8 ((3 : Int32).toNatClampNeg)) : WI) (fun p10 => ((p10 74 60), (up2 (up2 (up2 p10 74 18 (p10 74 60)) 74 13 (p10 74 61)) 74 4 (p10 74 62))))))))))))) else ((-3), I))
def g_269 (I : WI) : Prop := ((¬ (I 74 60) = (-1)) → ((gl_269_13 I ((36 : Int32).toNatClampNeg)) ∧ (bx ((lp_269_13 I ((36 : Int32).toNatClampNeg)) : WI) (fun p2 => ((gl_269_39 p2 ((12 : Int32).toNatClampNeg)) ∧ (bx ((lp_269_39 p2 ((12 : Int32).toNatClampNeg)) : WI) (fun p4 => ((gl_269_125 p4 ((7 : Int32).toNatClampNeg)) ∧ (bx ((lp_269_125 p4 ((7 : Int32).toNatClampNeg)) : WI) (fun p6 => ((gl_269_151 p6 ((4 : Int32).toNatClampNeg)) ∧ (bx ((lp_269_151 p6 ((4 : Int32).toNatClampNeg)) : WI) (fun p8 => (gl_269_176 p8 ((3 : Int32).toNatClampNeg)))))))))))))))
theorem cc_269 {l : LX} {d : Nat} {I : WI} {F : WF} {L : WL} {t : Nat} (hg : g_269 I) : Con l 269 (d + 0) 0 0 [.ref 74] SH (I, F, L, RT t) (po_I_I F L t (v_269 I)) := by
  refine cn_269 ?_
  obtain ⟨T1, hT1⟩ : ∃ r : Int32 × WI, r = (v_269 I) := ⟨_, rfl⟩
  rw [← hT1]
  have he := (hT1.trans (v_269.eq_1 ..)).symm
  have hg := Eq.mp (g_269.eq_1 ..) hg
  refine bk_269_0 (fun h1 => ?_) (fun h1 => ?_)
  · have he := ite_p h1 he
    have hg := hg h1
    refine bk_269_11 ?_
    obtain ⟨hgX, hg⟩ := hg
    refine lw_269_13 (d := d)  hgX (fun p2 hr => ?_)
    have he := bx_eq hr he
    have hg := bx_un hr hg
    refine bk_269_37 ?_
    obtain ⟨hgX, hg⟩ := hg
    refine lw_269_39 (d := d)  hgX (fun p4 hr => ?_)
    have he := bx_eq hr he
    have hg := bx_un hr hg
    refine bk_269_123 ?_
    obtain ⟨hgX, hg⟩ := hg
    refine lw_269_125 (d := d)  hgX (fun p6 hr => ?_)
    have he := bx_eq hr he
    have hg := bx_un hr hg
    refine bk_269_149 ?_
    obtain ⟨hgX, hg⟩ := hg
    refine lw_269_151 (d := d)  hgX (fun p8 hr => ?_)
    have he := bx_eq hr he
    have hg := bx_un hr hg
    refine bk_269_174 ?_
    have hgX := hg
    refine lw_269_176 (d := d)  hgX (fun p10 hr => ?_)
    have he := bx_eq hr he
    exact bk_269_199 (rl_I_I he)
  · have he := ite_n h1 he
    exact bk_269_8 (rl_I_I he)
end
