section
/-- VectorShelfModel.lowOfCell(I)F -/
def v_225 (I : WI) (x1 : Int32) : UInt32 := (v_221 I (v_226 I x1 (0 : Int32)) (v_226 I x1 (1 : Int32)) (v_226 I x1 (2 : Int32)))
def g_225 (I : WI) (x1 : Int32) : Prop := ((g_226 x1 (0 : Int32)) ∧ ((g_226 x1 (1 : Int32)) ∧ ((g_226 x1 (2 : Int32)) ∧ (g_221 I (v_226 I x1 (0 : Int32)) (v_226 I x1 (1 : Int32)) (v_226 I x1 (2 : Int32))))))
theorem cc_225 {l : LX} {d : Nat} {I : WI} {F : WF} {L : WL} {t : Nat} {x1 : Int32} (hg : g_225 I x1) : Con l 225 (d + 3) 0 0 [.ref 74, .int x1] SH (I, F, L, RT t) (rF (v_225 I x1) (I, F, L, RT t)) := by
  refine cn_225 ?_
  obtain ⟨T1, hT1⟩ : ∃ r : UInt32, r = (v_225 I x1) := ⟨_, rfl⟩
  rw [← hT1]
  have he := (hT1.trans (v_225.eq_1 ..)).symm
  have hg := Eq.mp (g_225.eq_1 ..) hg
  obtain ⟨k1, hg⟩ := hg
  refine bk_225_0 (cc_226 (d := d + 1)  k1) ?_
  obtain ⟨k2, hg⟩ := hg
  refine bk_225_7 (cc_226 (d := d + 1)  k2) ?_
  obtain ⟨k3, hg⟩ := hg
  refine bk_225_13 (cc_226 (d := d + 1)  k3) ?_
  have k4 := hg
  refine bk_225_19 (cc_221 (d := d + 0)  k4) ?_
  exact bk_225_22 (rl_p_F he)
/-- the loop at 26 of VectorShelfModel.tidy -/
def lp_229_26 (I : WI) (x1 : Int32) : Nat → WI
  | 0 => I
  | k + 1 => bx (lp_229_26 I x1 k) (fun p2 => (bx ((if ¬ (p2 86 (nI k).toNatClampNeg) = x1 then p2 else (bx ((v_177 p2 (nI k) x1) : WI) (fun p3 => p3))) : WI) (fun p4 => p4)))
def gl_229_26 (I : WI) (x1 : Int32) (N : Nat) : Prop := ((∀ k, k < N → bx (lp_229_26 I x1 k) (fun p2 => (((p2 74 18) = (I 74 18)) ∧ ((vp_in (nI k) 12) ∧ (¬ (¬ (p2 86 (nI k).toNatClampNeg) = x1) → (g_177 p2 (nI k) x1)))))) ∧ (bx (lp_229_26 I x1 N) (fun p2 => (p2 74 18) = (I 74 18))))
theorem lw_229_26 {l : LX} {d : Nat} {P : RP} {I : WI} {F : WF} {L : WL} {t : Nat} {x1 : Int32} {x2 : Int32} (hgl : gl_229_26 I x1 ((I 74 18).toNatClampNeg)) (hx : ∀ p2 : WI, p2 = lp_229_26 I x1 ((I 74 18).toNatClampNeg) → Wp l 229 (d + 2) 0 0 P 0 0 56 [(2, .int x2)] [] SH (p2, F, L, RT t)) : Wp l 229 (d + 2) 0 0 P 0 0 26 [(0, .ref 74), (1, .int x1), (2, .int x2), (3, .int 0)] [] SH (I, F, L, RT t) := by
  obtain ⟨hin, hend⟩ := hgl
  have loop : ∀ m k, k + m = (I 74 18).toNatClampNeg → ∀ p2 : WI, p2 = lp_229_26 I x1 k → Wp l 229 (d + 2) 0 0 P 0 0 26 [(0, .ref 74), (1, .int x1), (2, .int x2), (3, .int (nI k))] [] SH (p2, F, L, RT t) := by
    intro m
    induction m with
    | zero =>
      intro k hk p2 hs
      obtain rfl : k = (I 74 18).toNatClampNeg := by omega
      have hE := bx_un hs hend
      exact bk_229_26  (fun _ => hx _ hs) (fun h => absurd ((show (p2 74 18) ≤ (nI ((I 74 18).toNatClampNeg)) from by rw [show (p2 74 18) = (I 74 18) from hE]; exact (le_cl (Nat.le_refl _)).mpr rfl)) h)
    | succ m ih =>
      intro k hk p2 hs
      have hk2 : k < (I 74 18).toNatClampNeg := by omega
      have ih := ih (k + 1) (by omega)
      rw [nI_succ] at ih
      have he := bx_eq hs (lp_229_26.eq_2 ..).symm
      have hg := bx_un hs (hin k hk2)
      have hE : (p2 74 18) = (I 74 18) := hg.1
      have hg := hg.2
      refine bk_229_26  (fun h => absurd ((le_cl (E := (I 74 18)) (i := k) (by omega)).mp (by rw [show (p2 74 18) = (I 74 18) from hE] at h; exact h)) (by omega)) (fun _ => ?_)
      obtain ⟨k5, hg⟩ := hg
      have hgX := hg
      obtain ⟨X1, hX1⟩ : ∃ r : WI, r = (if ¬ (p2 86 (nI k).toNatClampNeg) = x1 then p2 else (bx ((v_177 p2 (nI k) x1) : WI) (fun p3 => p3))) := ⟨_, rfl⟩
      have J1 : ∀ p4 : WI, p4 = X1 → Wp l 229 (d + 2) 0 0 P 0 0 50 [(0, .ref 74), (1, .int x1), (2, .int x2), (3, .int (nI k))] [] SH (p4, F, L, RT t) := by
        intro p4 hr
        have hr := hr.trans hX1
        have he := bx_eq hr he
        refine bk_229_50 ?_
        exact ih p4 he
      have he := hX1.symm
      have hg := hgX
      refine bk_229_34 k5 (fun h6 => ?_) (fun h6 => ?_)
      · have he := ite_p h6 he
        exact J1 p2 he
      · have he := ite_n h6 he
        have hg := hg h6
        have k7 := hg
        refine bk_229_44 (cq_V_I (cc_177 (d := d + 1)  k7)) ?_
        rintro _ _ _ _ ⟨p3, hr, rfl, rfl, rfl, rfl⟩
        have he := bx_eq hr he
        exact J1 p3 he
  exact loop _ 0 (Nat.zero_add _) _ rfl
/-- VectorShelfModel.tidy(I)I -/
def v_229 (I : WI) (x1 : Int32) : Int32 × WI := (if ¬ (v_224 I x1) = 0 then (bx ((v_230 I x1) : Int32 × WI) (fun p1 => (bx ((lp_229_26 (up2 p1.2 83 x1.toNatClampNeg (vp_nar (bT 0) 0)) x1 (((up2 p1.2 83 x1.toNatClampNeg (vp_nar (bT 0) 0)) 74 18).toNatClampNeg)) : WI) (fun p5 => (p1.1, p5))))) else ((-2), I))
def g_229 (I : WI) (x1 : Int32) : Prop := ((¬ (v_224 I x1) = 0) → ((g_230 I x1) ∧ (bx ((v_230 I x1) : Int32 × WI) (fun p1 => ((vp_in x1 4) ∧ (gl_229_26 (up2 p1.2 83 x1.toNatClampNeg (vp_nar (bT 0) 0)) x1 (((up2 p1.2 83 x1.toNatClampNeg (vp_nar (bT 0) 0)) 74 18).toNatClampNeg)))))))
theorem cc_229 {l : LX} {d : Nat} {I : WI} {F : WF} {L : WL} {t : Nat} {x1 : Int32} (hg : g_229 I x1) : Con l 229 (d + 2) 0 0 [.ref 74, .int x1] SH (I, F, L, RT t) (po_I_I F L t (v_229 I x1)) := by
  refine cn_229 ?_
  obtain ⟨T1, hT1⟩ : ∃ r : Int32 × WI, r = (v_229 I x1) := ⟨_, rfl⟩
  rw [← hT1]
  have he := (hT1.trans (v_229.eq_1 ..)).symm
  have hg := Eq.mp (g_229.eq_1 ..) hg
  refine bk_229_0 (cc_224 (d := d + 0) ) ?_
  refine bk_229_5 (fun h2 => ?_) (fun h2 => ?_)
  · have he := ite_p h2 he
    have hg := hg h2
    obtain ⟨k3, hg⟩ := hg
    refine bk_229_11 (cq_I_I (cc_230 (d := d + 1)  k3)) ?_
    rintro _ _ _ _ _ ⟨p1, hr, rfl, rfl, rfl, rfl, rfl⟩
    have he := bx_eq hr he
    have hg := bx_un hr hg
    obtain ⟨k4, hg⟩ := hg
    refine bk_229_16 k4 ?_
    have hgX := hg
    refine lw_229_26 (d := d)  hgX (fun p5 hr => ?_)
    have he := bx_eq hr he
    exact bk_229_56 (rl_I_I he)
  · have he := ite_n h2 he
    exact bk_229_8 (rl_I_I he)
/-- VectorShelfModel.centre()I -/
def v_231 (I : WI) : Int32 × WI := (if ¬ (I 74 13) = 0 then (bx ((v_232 I) : Int32 × WI) (fun p1 => (p1.1, p1.2))) else ((-3), I))
def g_231 (I : WI) : Prop := ((¬ (I 74 13) = 0) → (g_232 I))
theorem cc_231 {l : LX} {d : Nat} {I : WI} {F : WF} {L : WL} {t : Nat} (hg : g_231 I) : Con l 231 (d + 2) 0 0 [.ref 74] SH (I, F, L, RT t) (po_I_I F L t (v_231 I)) := by
  refine cn_231 ?_
  obtain ⟨T1, hT1⟩ : ∃ r : Int32 × WI, r = (v_231 I) := ⟨_, rfl⟩
  rw [← hT1]
  have he := (hT1.trans (v_231.eq_1 ..)).symm
  have hg := Eq.mp (g_231.eq_1 ..) hg
  refine bk_231_0 (fun h1 => ?_) (fun h1 => ?_)
  · have he := ite_p h1 he
    have hg := hg h1
    have k2 := hg
    refine bk_231_12 (cq_I_I (cc_232 (d := d + 0)  k2)) ?_
    rintro _ _ _ _ _ ⟨p1, hr, rfl, rfl, rfl, rfl, rfl⟩
    have he := bx_eq hr he
    exact bk_231_16 (rl_I_I he)
  · have he := ite_n h1 he
    refine bk_231_7 ?_
    exact bk_231_16 (rl_I_I he)
/-- the loop at 31 of VectorShelfModel.rounds -/
def lp_233_31 : Nat → Int32 → Int32 → WI → Int32 × WI
  | 0, x2, x3, I => (x2, I)
  | k + 1, x2, x3, I => (if 20 ≤ x2 then (x2, I) else (if ¬ x3 = 0 then (x2, I) else (bx ((v_232 I) : Int32 × WI) (fun p2 => (bx ((if ¬ p2.1 = 0 then 0 else 1) : Int32) (fun p3 => (lp_233_31 k (x2 + 1) p3 p2.2)))))))
def gl_233_31 : Nat → Int32 → Int32 → WI → Prop
  | 0, _, _, _ => False
  | k + 1, x2, x3, I => (¬ (20 ≤ x2) → (¬ (¬ x3 = 0) → ((g_232 I) ∧ (bx ((v_232 I) : Int32 × WI) (fun p2 => (bx ((if ¬ p2.1 = 0 then 0 else 1) : Int32) (fun p3 => (gl_233_31 k (x2 + 1) p3 p2.2))))))))
theorem lw_233_31 {l : LX} {d : Nat} {P : RP} {F : WF} {L : WL} {t : Nat} {x1 : Int32} : ∀ k : Nat, ∀ (x2 : Int32) (x3 : Int32) (I : WI), gl_233_31 k x2 x3 I → (∀ r : Int32 × WI, r = lp_233_31 k x2 x3 I → Wp l 233 (d + 2) 0 0 P 0 0 60 [(0, .ref 74), (1, .int x1), (2, .int r.1)] [] SH (r.2, F, L, RT t)) → Wp l 233 (d + 2) 0 0 P 0 0 31 [(0, .ref 74), (1, .int x1), (2, .int x2), (3, .int x3)] [] SH (I, F, L, RT t) := by
  intro k
  induction k with
  | zero =>
    intro x2 x3 I hg hx
    exact hg.elim
  | succ k ih =>
    intro x2 x3 I hg hx
    have hg := Eq.mp (gl_233_31.eq_2 ..) hg
    obtain ⟨T1, hT1⟩ : ∃ r : Int32 × WI, r = lp_233_31 (k + 1) x2 x3 I := ⟨_, rfl⟩
    have hx : ∀ r : Int32 × WI, r = T1 → Wp l 233 (d + 2) 0 0 P 0 0 60 [(0, .ref 74), (1, .int x1), (2, .int r.1)] [] SH (r.2, F, L, RT t) := fun r hr => hx r (hr.trans hT1)
    have he := (hT1.trans (lp_233_31.eq_2 ..)).symm
    refine bk_233_31 (fun h5 => ?_) (fun h5 => ?_)
    · have he := ite_p h5 he
      exact hx (x2, I) he
    · have he := ite_n h5 he
      have hg := hg h5
      refine bk_233_37 (fun h6 => ?_) (fun h6 => ?_)
      · have he := ite_p h6 he
        exact hx (x2, I) he
      · have he := ite_n h6 he
        have hg := hg h6
        obtain ⟨k7, hg⟩ := hg
        refine bk_233_41 (cq_I_I (cc_232 (d := d + 0)  k7)) ?_
        rintro _ _ _ _ _ ⟨p2, hr, rfl, rfl, rfl, rfl, rfl⟩
        have he := bx_eq hr he
        have hg := bx_un hr hg
        obtain ⟨X1, hX1⟩ : ∃ r : Int32, r = (if ¬ p2.1 = 0 then 0 else 1) := ⟨_, rfl⟩
        have J1 : ∀ p3 : Int32, p3 = X1 → Wp l 233 (d + 2) 0 0 P 0 0 53 [(0, .ref 74), (1, .int x1), (2, .int x2)] [.int p3] SH (p2.2, F, L, RT t) := by
          intro p3 hr
          have hr := hr.trans hX1
          have he := bx_eq hr he
          have hg := bx_un hr hg
          refine bk_233_53 ?_
          exact ih (x2 + 1) p3 p2.2 hg (fun r hr => hx r (hr.trans he))
        have he := hX1.symm
        refine bk_233_45 (fun h8 => ?_) (fun h8 => ?_)
        · have he := ite_p h8 he
          refine bk_233_52 ?_
          exact J1 0 he
        · have he := ite_n h8 he
          refine bk_233_48 ?_
          exact J1 1 he
/-- the loop at 78 of VectorShelfModel.rounds -/
def lp_233_78 (I : WI) (x5 : Int32) : Nat → Int32 → Int32 → Int32
  | 0, x4, x6 => x4
  | k + 1, x4, x6 => (if 3 ≤ x6 then x4 else (if (v_180 I x5) = 0 then x4 else (lp_233_78 I x5 k (x4 + (((I 84 ((3 * x5) + x6).toNatClampNeg) - (I 80 ((3 * (I 86 x5.toNatClampNeg)) + x6).toNatClampNeg)) * ((I 84 ((3 * x5) + x6).toNatClampNeg) - (I 80 ((3 * (I 86 x5.toNatClampNeg)) + x6).toNatClampNeg)))) (x6 + 1))))
def gl_233_78 (I : WI) (x5 : Int32) : Nat → Int32 → Int32 → Prop
  | 0, _, _ => False
  | k + 1, x4, x6 => (¬ (3 ≤ x6) → ((g_180 I x5) ∧ (¬ ((v_180 I x5) = 0) → ((vp_in ((3 * x5) + x6) 36) ∧ ((vp_in x5 12) ∧ ((vp_in ((3 * (I 86 x5.toNatClampNeg)) + x6) 12) ∧ (gl_233_78 I x5 k (x4 + (((I 84 ((3 * x5) + x6).toNatClampNeg) - (I 80 ((3 * (I 86 x5.toNatClampNeg)) + x6).toNatClampNeg)) * ((I 84 ((3 * x5) + x6).toNatClampNeg) - (I 80 ((3 * (I 86 x5.toNatClampNeg)) + x6).toNatClampNeg)))) (x6 + 1))))))))
theorem lw_233_78 {l : LX} {d : Nat} {P : RP} {I : WI} {F : WF} {L : WL} {t : Nat} {x1 : Int32} {x2 : Int32} {x5 : Int32} : ∀ k : Nat, ∀ (x4 : Int32) (x6 : Int32), gl_233_78 I x5 k x4 x6 → (∀ r : Int32, r = lp_233_78 I x5 k x4 x6 → Wp l 233 (d + 2) 0 0 P 0 0 141 [(0, .ref 74), (1, .int x1), (2, .int x2), (4, .int r), (5, .int x5)] [] SH (I, F, L, RT t)) → Wp l 233 (d + 2) 0 0 P 0 0 78 [(0, .ref 74), (1, .int x1), (2, .int x2), (4, .int x4), (5, .int x5), (6, .int x6)] [] SH (I, F, L, RT t) := by
  intro k
  induction k with
  | zero =>
    intro x4 x6 hg hx
    exact hg.elim
  | succ k ih =>
    intro x4 x6 hg hx
    have hg := Eq.mp (gl_233_78.eq_2 ..) hg
    obtain ⟨T1, hT1⟩ : ∃ r : Int32, r = lp_233_78 I x5 (k + 1) x4 x6 := ⟨_, rfl⟩
    have hx : ∀ r : Int32, r = T1 → Wp l 233 (d + 2) 0 0 P 0 0 141 [(0, .ref 74), (1, .int x1), (2, .int x2), (4, .int r), (5, .int x5)] [] SH (I, F, L, RT t) := fun r hr => hx r (hr.trans hT1)
    have he := (hT1.trans (lp_233_78.eq_2 ..)).symm
    refine bk_233_78 (fun h9 => ?_) (fun h9 => ?_)
    · have he := ite_p h9 he
      exact hx x4 he
    · have he := ite_n h9 he
      have hg := hg h9
      obtain ⟨k10, hg⟩ := hg
      refine bk_233_84 (cc_180 (d := d + 1)  k10) ?_
      refine bk_233_90 (fun h11 => ?_) (fun h11 => ?_)
      · have he := ite_p h11 he
        exact hx x4 he
      · have he := ite_n h11 he
        have hg := hg h11
        obtain ⟨k12, k13, k14, hg⟩ := hg
        refine bk_233_93 k12 k13 k14 ?_
        exact ih (x4 + (((I 84 ((3 * x5) + x6).toNatClampNeg) - (I 80 ((3 * (I 86 x5.toNatClampNeg)) + x6).toNatClampNeg)) * ((I 84 ((3 * x5) + x6).toNatClampNeg) - (I 80 ((3 * (I 86 x5.toNatClampNeg)) + x6).toNatClampNeg)))) (x6 + 1) hg (fun r hr => hx r (hr.trans he))
/-- the loop at 66 of VectorShelfModel.rounds -/
def lp_233_66 (I : WI) (a4 : Int32) : Nat → Int32
  | 0 => a4
  | k + 1 => bx (lp_233_66 I a4 k) (fun p5 => (bx ((lp_233_78 I (nI k) 400 p5 (0 : Int32)) : Int32) (fun p6 => p6)))
def gl_233_66 (I : WI) (a4 : Int32) (N : Nat) : Prop := (∀ k, k < N → bx (lp_233_66 I a4 k) (fun p5 => (gl_233_78 I (nI k) 400 p5 (0 : Int32))))
theorem lw_233_66 {l : LX} {d : Nat} {P : RP} {I : WI} {F : WF} {L : WL} {t : Nat} {x1 : Int32} {x2 : Int32} {a4 : Int32} (hgl : gl_233_66 I a4 ((I 74 18).toNatClampNeg)) (hx : ∀ p5 : Int32, p5 = lp_233_66 I a4 ((I 74 18).toNatClampNeg) → Wp l 233 (d + 2) 0 0 P 0 0 147 [(0, .ref 74), (1, .int x1), (2, .int x2), (4, .int p5)] [] SH (I, F, L, RT t)) : Wp l 233 (d + 2) 0 0 P 0 0 66 [(0, .ref 74), (1, .int x1), (2, .int x2), (4, .int a4), (5, .int 0)] [] SH (I, F, L, RT t) := by
  have hin := hgl
  have loop : ∀ m k, k + m = (I 74 18).toNatClampNeg → ∀ p5 : Int32, p5 = lp_233_66 I a4 k → Wp l 233 (d + 2) 0 0 P 0 0 66 [(0, .ref 74), (1, .int x1), (2, .int x2), (4, .int p5), (5, .int (nI k))] [] SH (I, F, L, RT t) := by
    intro m
    induction m with
    | zero =>
      intro k hk p5 hs
      obtain rfl : k = (I 74 18).toNatClampNeg := by omega
      exact bk_233_66  (fun _ => hx _ hs) (fun h => absurd ((le_cl (Nat.le_refl _)).mpr rfl) h)
    | succ m ih =>
      intro k hk p5 hs
      have hk2 : k < (I 74 18).toNatClampNeg := by omega
      have ih := ih (k + 1) (by omega)
      rw [nI_succ] at ih
      have he := bx_eq hs (lp_233_66.eq_2 ..).symm
      have hg := bx_un hs (hin k hk2)
      refine bk_233_66  (fun h => absurd ((le_cl (E := (I 74 18)) (i := k) (by omega)).mp h) (by omega)) (fun _ => ?_)
      refine bk_233_75 ?_
      have hgX := hg
      refine lw_233_78 (d := d)  400 p5 (0 : Int32) hgX (fun p6 hr => ?_)
      have he := bx_eq hr he
      refine bk_233_141 ?_
      exact ih p6 he
  exact loop _ 0 (Nat.zero_add _) _ rfl
/-- VectorShelfModel.rounds(I)I -/
def v_233 (I : WI) (x1 : Int32) : Int32 × WI := (if ¬ (v_170 (Int32.toInt64 x1) (0 : Int64) (1 : Int64)) = 0 then (if ¬ (I 74 13) = 0 then (bx ((v_234 I) : WI) (fun p1 => (bx ((lp_233_31 400 (0 : Int32) (0 : Int32) p1) : Int32 × WI) (fun p4 => (bx ((lp_233_66 p4.2 (0 : Int32) ((p4.2 74 18).toNatClampNeg)) : Int32) (fun p7 => (bx ((v_235 p4.2) : WI) (fun p8 => (if ¬ x1 = 0 then (p7, p8) else (p4.1, p8)))))))))) else ((-3), I)) else ((-2), I))
def g_233 (I : WI) (x1 : Int32) : Prop := ((¬ (v_170 (Int32.toInt64 x1) (0 : Int64) (1 : Int64)) = 0) → ((¬ (I 74 13) = 0) → ((g_234 I) ∧ (bx ((v_234 I) : WI) (fun p1 => ((gl_233_31 400 (0 : Int32) (0 : Int32) p1) ∧ (bx ((lp_233_31 400 (0 : Int32) (0 : Int32) p1) : Int32 × WI) (fun p4 => ((gl_233_66 p4.2 (0 : Int32) ((p4.2 74 18).toNatClampNeg)) ∧ (bx ((lp_233_66 p4.2 (0 : Int32) ((p4.2 74 18).toNatClampNeg)) : Int32) (fun p7 => (g_235 p4.2))))))))))))
theorem cc_233 {l : LX} {d : Nat} {I : WI} {F : WF} {L : WL} {t : Nat} {x1 : Int32} (hg : g_233 I x1) : Con l 233 (d + 2) 0 0 [.ref 74, .int x1] SH (I, F, L, RT t) (po_I_I F L t (v_233 I x1)) := by
  refine cn_233 ?_
  obtain ⟨T1, hT1⟩ : ∃ r : Int32 × WI, r = (v_233 I x1) := ⟨_, rfl⟩
  rw [← hT1]
  have he := (hT1.trans (v_233.eq_1 ..)).symm
  have hg := Eq.mp (g_233.eq_1 ..) hg
  refine bk_233_0 (cc_170 (d := d + 1) ) ?_
  refine bk_233_7 (fun h2 => ?_) (fun h2 => ?_)
  · have he := ite_p h2 he
    have hg := hg h2
    refine bk_233_13 (fun h3 => ?_) (fun h3 => ?_)
    · have he := ite_p h3 he
      have hg := hg h3
      obtain ⟨k4, hg⟩ := hg
      refine bk_233_23 (cq_V_I (cc_234 (d := d + 1)  k4)) ?_
      rintro _ _ _ _ ⟨p1, hr, rfl, rfl, rfl, rfl⟩
      have he := bx_eq hr he
      have hg := bx_un hr hg
      refine bk_233_27 ?_
      obtain ⟨hgX, hg⟩ := hg
      refine lw_233_31 (d := d)  400 (0 : Int32) (0 : Int32) p1 hgX (fun p4 hr => ?_)
      have he := bx_eq hr he
      have hg := bx_un hr hg
      refine bk_233_60 ?_
      obtain ⟨hgX, hg⟩ := hg
      refine lw_233_66 (d := d)  hgX (fun p7 hr => ?_)
      have he := bx_eq hr he
      have hg := bx_un hr hg
      have k15 := hg
      refine bk_233_147 (cq_V_I (cc_235 (d := d + 1)  k15)) ?_
      rintro _ _ _ _ ⟨p8, hr, rfl, rfl, rfl, rfl⟩
      have he := bx_eq hr he
      refine bk_233_151 (fun h16 => ?_) (fun h16 => ?_)
      · have he := ite_p h16 he
        refine bk_233_159 ?_
        exact bk_233_161 (rl_I_I he)
      · have he := ite_n h16 he
        refine bk_233_155 ?_
        exact bk_233_161 (rl_I_I he)
    · have he := ite_n h3 he
      exact bk_233_20 (rl_I_I he)
  · have he := ite_n h2 he
    exact bk_233_10 (rl_I_I he)
/-- the loop at 4 of VectorShelfModel.nextCell -/
def lp_239_4 (I : WI) (a1 : Int32) : Nat → Int32
  | 0 => a1
  | k + 1 => bx (lp_239_4 I a1 k) (fun p1 => (bx ((if (I 83 (nI k).toNatClampNeg) = 0 then p1 else (if ¬ (I 99 (nI k).toNatClampNeg) = 0 then p1 else (if p1 = (-1) then (nI k) else (if 0 ≤ (Op.cmpValue (FP.fcmp (v_225 I (nI k)) (v_225 I p1)) .g) then p1 else (nI k))))) : Int32) (fun p2 => p2)))
def gl_239_4 (I : WI) (a1 : Int32) (N : Nat) : Prop := (∀ k, k < N → bx (lp_239_4 I a1 k) (fun p1 => ((vp_in (nI k) 4) ∧ (¬ ((I 83 (nI k).toNatClampNeg) = 0) → ((vp_in (nI k) 4) ∧ (¬ (¬ (I 99 (nI k).toNatClampNeg) = 0) → (¬ (p1 = (-1)) → ((g_225 I (nI k)) ∧ (g_225 I p1)))))))))
theorem lw_239_4 {l : LX} {d : Nat} {P : RP} {I : WI} {F : WF} {L : WL} {t : Nat} {a1 : Int32} (hgl : gl_239_4 I a1 ((I 74 13).toNatClampNeg)) (hx : ∀ p1 : Int32, p1 = lp_239_4 I a1 ((I 74 13).toNatClampNeg) → Wp l 239 (d + 4) 0 0 P 0 0 57 [(1, .int p1)] [] SH (I, F, L, RT t)) : Wp l 239 (d + 4) 0 0 P 0 0 4 [(0, .ref 74), (1, .int a1), (2, .int 0)] [] SH (I, F, L, RT t) := by
  have hin := hgl
  have loop : ∀ m k, k + m = (I 74 13).toNatClampNeg → ∀ p1 : Int32, p1 = lp_239_4 I a1 k → Wp l 239 (d + 4) 0 0 P 0 0 4 [(0, .ref 74), (1, .int p1), (2, .int (nI k))] [] SH (I, F, L, RT t) := by
    intro m
    induction m with
    | zero =>
      intro k hk p1 hs
      obtain rfl : k = (I 74 13).toNatClampNeg := by omega
      exact bk_239_4  (fun _ => hx _ hs) (fun h => absurd ((le_cl (Nat.le_refl _)).mpr rfl) h)
    | succ m ih =>
      intro k hk p1 hs
      have hk2 : k < (I 74 13).toNatClampNeg := by omega
      have ih := ih (k + 1) (by omega)
      rw [nI_succ] at ih
      have he := bx_eq hs (lp_239_4.eq_2 ..).symm
      have hg := bx_un hs (hin k hk2)
      refine bk_239_4  (fun h => absurd ((le_cl (E := (I 74 13)) (i := k) (by omega)).mp h) (by omega)) (fun _ => ?_)
      obtain ⟨k1, hg⟩ := hg
      have hgX := hg
      obtain ⟨X1, hX1⟩ : ∃ r : Int32, r = (if (I 83 (nI k).toNatClampNeg) = 0 then p1 else (if ¬ (I 99 (nI k).toNatClampNeg) = 0 then p1 else (if p1 = (-1) then (nI k) else (if 0 ≤ (Op.cmpValue (FP.fcmp (v_225 I (nI k)) (v_225 I p1)) .g) then p1 else (nI k))))) := ⟨_, rfl⟩
      have J1 : ∀ p2 : Int32, p2 = X1 → Wp l 239 (d + 4) 0 0 P 0 0 51 [(0, .ref 74), (1, .int p2), (2, .int (nI k))] [] SH (I, F, L, RT t) := by
        intro p2 hr
        have hr := hr.trans hX1
        have he := bx_eq hr he
        refine bk_239_51 ?_
        exact ih p2 he
      have he := hX1.symm
      have hg := hgX
      refine bk_239_12 k1 (fun h2 => ?_) (fun h2 => ?_)
      · have he := ite_p h2 he
        exact J1 p1 he
      · have he := ite_n h2 he
        have hg := hg h2
        obtain ⟨k3, hg⟩ := hg
        refine bk_239_21 k3 (fun h4 => ?_) (fun h4 => ?_)
        · have he := ite_p h4 he
          exact J1 p1 he
        · have he := ite_n h4 he
          have hg := hg h4
          refine bk_239_30 (fun h5 => ?_) (fun h5 => ?_)
          · have he := ite_p h5 he
            refine bk_239_49 ?_
            exact J1 (nI k) he
          · have he := ite_n h5 he
            have hg := hg h5
            obtain ⟨k6, hg⟩ := hg
            refine bk_239_35 (cc_225 (d := d + 0)  k6) ?_
            have k7 := hg
            refine bk_239_40 (cc_225 (d := d + 0)  k7) ?_
            refine bk_239_45 (fun h8 => ?_) (fun h8 => ?_)
            · have he := ite_p h8 he
              exact J1 p1 he
            · have he := ite_n h8 he
              refine bk_239_49 ?_
              exact J1 (nI k) he
  exact loop _ 0 (Nat.zero_add _) _ rfl
/-- VectorShelfModel.nextCell()I -/
def v_239 (I : WI) : Int32 := (bx ((lp_239_4 I ((-1) : Int32) ((I 74 13).toNatClampNeg)) : Int32) (fun p3 => p3))
def g_239 (I : WI) : Prop := (gl_239_4 I ((-1) : Int32) ((I 74 13).toNatClampNeg))
theorem cc_239 {l : LX} {d : Nat} {I : WI} {F : WF} {L : WL} {t : Nat} (hg : g_239 I) : Con l 239 (d + 4) 0 0 [.ref 74] SH (I, F, L, RT t) (rI (v_239 I) (I, F, L, RT t)) := by
  refine cn_239 ?_
  obtain ⟨T1, hT1⟩ : ∃ r : Int32, r = (v_239 I) := ⟨_, rfl⟩
  rw [← hT1]
  have he := (hT1.trans (v_239.eq_1 ..)).symm
  have hg := Eq.mp (g_239.eq_1 ..) hg
  refine bk_239_0 ?_
  have hgX := hg
  refine lw_239_4 (d := d)  hgX (fun p3 hr => ?_)
  have he := bx_eq hr he
  exact bk_239_57 (rl_p_I he)
/-- the loop at 16 of VectorShelfModel.ranked -/
def lp_241_16 (I : WI) (x2 : Int32) (x3 : Int32) (a4 : Int32) : Nat → Int32
  | 0 => a4
  | k + 1 => bx (lp_241_16 I x2 x3 a4 k) (fun p1 => (bx ((if (I 97 (nI k).toNatClampNeg) = 0 then 0 else (if x2 = 0 then (if (v_242 I (nI k) x3) = 0 then 0 else 1) else (if (I 98 (nI k).toNatClampNeg) = 0 then 0 else (if (v_242 I (nI k) x3) = 0 then 0 else 1)))) : Int32) (fun p2 => (p1 + p2))))
def gl_241_16 (I : WI) (x2 : Int32) (x3 : Int32) (a4 : Int32) (N : Nat) : Prop := (∀ k, k < N → bx (lp_241_16 I x2 x3 a4 k) (fun p1 => ((vp_in (nI k) 12) ∧ (¬ ((I 97 (nI k).toNatClampNeg) = 0) → (((x2 = 0) → (g_242 I (nI k) x3)) ∧ (¬ (x2 = 0) → ((vp_in (nI k) 12) ∧ (¬ ((I 98 (nI k).toNatClampNeg) = 0) → (g_242 I (nI k) x3)))))))))
theorem lw_241_16 {l : LX} {d : Nat} {P : RP} {I : WI} {F : WF} {L : WL} {t : Nat} {x1 : Int32} {x2 : Int32} {x3 : Int32} {a4 : Int32} (hgl : gl_241_16 I x2 x3 a4 ((I 74 18).toNatClampNeg)) (hx : ∀ p1 : Int32, p1 = lp_241_16 I x2 x3 a4 ((I 74 18).toNatClampNeg) → Wp l 241 (d + 1) 0 0 P 0 0 75 [(0, .ref 74), (1, .int x1), (2, .int x2), (3, .int x3), (4, .int p1)] [] SH (I, F, L, RT t)) : Wp l 241 (d + 1) 0 0 P 0 0 16 [(0, .ref 74), (1, .int x1), (2, .int x2), (3, .int x3), (4, .int a4), (5, .int 0)] [] SH (I, F, L, RT t) := by
  have hin := hgl
  have loop : ∀ m k, k + m = (I 74 18).toNatClampNeg → ∀ p1 : Int32, p1 = lp_241_16 I x2 x3 a4 k → Wp l 241 (d + 1) 0 0 P 0 0 16 [(0, .ref 74), (1, .int x1), (2, .int x2), (3, .int x3), (4, .int p1), (5, .int (nI k))] [] SH (I, F, L, RT t) := by
    intro m
    induction m with
    | zero =>
      intro k hk p1 hs
      obtain rfl : k = (I 74 18).toNatClampNeg := by omega
      exact bk_241_16  (fun _ => hx _ hs) (fun h => absurd ((le_cl (Nat.le_refl _)).mpr rfl) h)
    | succ m ih =>
      intro k hk p1 hs
      have hk2 : k < (I 74 18).toNatClampNeg := by omega
      have ih := ih (k + 1) (by omega)
      rw [nI_succ] at ih
      have he := bx_eq hs (lp_241_16.eq_2 ..).symm
      have hg := bx_un hs (hin k hk2)
      refine bk_241_16  (fun h => absurd ((le_cl (E := (I 74 18)) (i := k) (by omega)).mp h) (by omega)) (fun _ => ?_)
      obtain ⟨k2, hg⟩ := hg
      have hgX := hg
      obtain ⟨X1, hX1⟩ : ∃ r : Int32, r = (if (I 97 (nI k).toNatClampNeg) = 0 then 0 else (if x2 = 0 then (if (v_242 I (nI k) x3) = 0 then 0 else 1) else (if (I 98 (nI k).toNatClampNeg) = 0 then 0 else (if (v_242 I (nI k) x3) = 0 then 0 else 1)))) := ⟨_, rfl⟩
      have J1 : ∀ p2 : Int32, p2 = X1 → Wp l 241 (d + 1) 0 0 P 0 0 66 [(0, .ref 74), (1, .int x1), (2, .int x2), (3, .int x3), (5, .int (nI k))] [.int p2, .int p1] SH (I, F, L, RT t) := by
        intro p2 hr
        have hr := hr.trans hX1
        have he := bx_eq hr he
        refine bk_241_66 ?_
        exact ih (p1 + p2) he
      have he := hX1.symm
      have hg := hgX
      refine bk_241_25 k2 (fun h3 => ?_) (fun h3 => ?_)
      · have he := ite_p h3 he
        refine bk_241_65 ?_
        exact J1 0 he
      · have he := ite_n h3 he
        have hg := hg h3
        refine bk_241_37 (fun h4 => ?_) (fun h4 => ?_)
        · have he := ite_p h4 he
          have hg := hg.1 h4
          have k5 := hg
          refine bk_241_51 (cc_242 (d := d + 0)  k5) ?_
          refine bk_241_58 (fun h6 => ?_) (fun h6 => ?_)
          · have he := ite_p h6 he
            refine bk_241_65 ?_
            exact J1 0 he
          · have he := ite_n h6 he
            refine bk_241_61 ?_
            exact J1 1 he
        · have he := ite_n h4 he
          have hg := hg.2 h4
          obtain ⟨k7, hg⟩ := hg
          refine bk_241_41 k7 (fun h8 => ?_) (fun h8 => ?_)
          · have he := ite_p h8 he
            refine bk_241_65 ?_
            exact J1 0 he
          · have he := ite_n h8 he
            have hg := hg h8
            have k9 := hg
            refine bk_241_51 (cc_242 (d := d + 0)  k9) ?_
            refine bk_241_58 (fun h10 => ?_) (fun h10 => ?_)
            · have he := ite_p h10 he
              refine bk_241_65 ?_
              exact J1 0 he
            · have he := ite_n h10 he
              refine bk_241_61 ?_
              exact J1 1 he
  exact loop _ 0 (Nat.zero_add _) _ rfl
/-- the loop at 2 of VectorShelfModel.ranked -/
def lp_241_2 (I : WI) (x1 : Int32) (x2 : Int32) : Nat → Int32 → Int32
  | 0, x3 => 0
  | k + 1, x3 => (if (I 74 18) ≤ x3 then (-1) else (bx ((lp_241_16 I x2 x3 (0 : Int32) ((I 74 18).toNatClampNeg)) : Int32) (fun p3 => (if (I 97 x3.toNatClampNeg) = 0 then (lp_241_2 I x1 x2 k (x3 + 1)) else (if x2 = 0 then (if ¬ p3 = x1 then (lp_241_2 I x1 x2 k (x3 + 1)) else x3) else (if (I 98 x3.toNatClampNeg) = 0 then (lp_241_2 I x1 x2 k (x3 + 1)) else (if ¬ p3 = x1 then (lp_241_2 I x1 x2 k (x3 + 1)) else x3)))))))
def gl_241_2 (I : WI) (x1 : Int32) (x2 : Int32) : Nat → Int32 → Prop
  | 0, _ => False
  | k + 1, x3 => (¬ ((I 74 18) ≤ x3) → ((gl_241_16 I x2 x3 (0 : Int32) ((I 74 18).toNatClampNeg)) ∧ (bx ((lp_241_16 I x2 x3 (0 : Int32) ((I 74 18).toNatClampNeg)) : Int32) (fun p3 => ((vp_in x3 12) ∧ ((((I 97 x3.toNatClampNeg) = 0) → (gl_241_2 I x1 x2 k (x3 + 1))) ∧ (¬ ((I 97 x3.toNatClampNeg) = 0) → (((x2 = 0) → ((¬ p3 = x1) → (gl_241_2 I x1 x2 k (x3 + 1)))) ∧ (¬ (x2 = 0) → ((vp_in x3 12) ∧ ((((I 98 x3.toNatClampNeg) = 0) → (gl_241_2 I x1 x2 k (x3 + 1))) ∧ (¬ ((I 98 x3.toNatClampNeg) = 0) → ((¬ p3 = x1) → (gl_241_2 I x1 x2 k (x3 + 1)))))))))))))))
theorem lw_241_2 {l : LX} {d : Nat} {I : WI} {F : WF} {L : WL} {t : Nat} {x1 : Int32} {x2 : Int32} : ∀ k : Nat, ∀ (x3 : Int32), gl_241_2 I x1 x2 k x3 → Wp l 241 (d + 1) 0 0 (rI (lp_241_2 I x1 x2 k x3) (I, F, L, RT t)) 0 0 2 [(0, .ref 74), (1, .int x1), (2, .int x2), (3, .int x3)] [] SH (I, F, L, RT t) := by
  intro k
  induction k with
  | zero =>
    intro x3 hg
    exact hg.elim
  | succ k ih =>
    intro x3 hg
    have hg := Eq.mp (gl_241_2.eq_2 ..) hg
    obtain ⟨T1, hT1⟩ : ∃ r : Int32, r = lp_241_2 I x1 x2 (k + 1) x3 := ⟨_, rfl⟩
    rw [← hT1]
    have he := (hT1.trans (lp_241_2.eq_2 ..)).symm
    refine bk_241_2 (fun h1 => ?_) (fun h1 => ?_)
    · have he := ite_p h1 he
      exact bk_241_111 (rl_p_I he)
    · have he := ite_n h1 he
      have hg := hg h1
      refine bk_241_10 ?_
      obtain ⟨hgX, hg⟩ := hg
      refine lw_241_16 (d := d)  hgX (fun p3 hr => ?_)
      have he := bx_eq hr he
      have hg := bx_un hr hg
      obtain ⟨k11, hg⟩ := hg
      refine bk_241_75 k11 (fun h12 => ?_) (fun h12 => ?_)
      · have he := ite_p h12 he
        have hg := hg.1 h12
        refine bk_241_105 ?_
        exact Wp_eq (post := fun r => (rI r (I, F, L, RT t))) he (ih (x3 + 1) hg)
      · have he := ite_n h12 he
        have hg := hg.2 h12
        refine bk_241_84 (fun h13 => ?_) (fun h13 => ?_)
        · have he := ite_p h13 he
          have hg := hg.1 h13
          refine bk_241_97 (fun h14 => ?_) (fun h14 => ?_)
          · have he := ite_p h14 he
            have hg := hg h14
            refine bk_241_105 ?_
            exact Wp_eq (post := fun r => (rI r (I, F, L, RT t))) he (ih (x3 + 1) hg)
          · have he := ite_n h14 he
            exact bk_241_103 (rl_p_I he)
        · have he := ite_n h13 he
          have hg := hg.2 h13
          obtain ⟨k15, hg⟩ := hg
          refine bk_241_88 k15 (fun h16 => ?_) (fun h16 => ?_)
          · have he := ite_p h16 he
            have hg := hg.1 h16
            refine bk_241_105 ?_
            exact Wp_eq (post := fun r => (rI r (I, F, L, RT t))) he (ih (x3 + 1) hg)
          · have he := ite_n h16 he
            have hg := hg.2 h16
            refine bk_241_97 (fun h17 => ?_) (fun h17 => ?_)
            · have he := ite_p h17 he
              have hg := hg h17
              refine bk_241_105 ?_
              exact Wp_eq (post := fun r => (rI r (I, F, L, RT t))) he (ih (x3 + 1) hg)
            · have he := ite_n h17 he
              exact bk_241_103 (rl_p_I he)
/-- VectorShelfModel.ranked(IZ)I -/
def v_241 (I : WI) (x1 : Int32) (x2 : Int32) : Int32 := (lp_241_2 I x1 x2 400 (0 : Int32))
def g_241 (I : WI) (x1 : Int32) (x2 : Int32) : Prop := (gl_241_2 I x1 x2 400 (0 : Int32))
theorem cc_241 {l : LX} {d : Nat} {I : WI} {F : WF} {L : WL} {t : Nat} {x1 : Int32} {x2 : Int32} (hg : g_241 I x1 x2) : Con l 241 (d + 1) 0 0 [.ref 74, .int x1, .int x2] SH (I, F, L, RT t) (rI (v_241 I x1 x2) (I, F, L, RT t)) := by
  refine cn_241 ?_
  obtain ⟨T1, hT1⟩ : ∃ r : Int32, r = (v_241 I x1 x2) := ⟨_, rfl⟩
  rw [← hT1]
  have he := (hT1.trans (v_241.eq_1 ..)).symm
  have hg := Eq.mp (g_241.eq_1 ..) hg
  refine bk_241_0 ?_
  exact Wp_eq (post := fun r => (rI r (I, F, L, RT t))) he (lw_241_2 (d := d)  400 (0 : Int32) hg)
/-- VectorShelfModel.put(III)I -/
def v_271 (I : WI) (F : WF) (x1 : Int32) (x2 : Int32) (x3 : Int32) : Int32 × WI × WF := (if ¬ (v_262 x1) = 0 then (if ¬ (I 111 x1.toNatClampNeg) = 0 then (if ¬ (v_272 I x1 x2) = 0 then (bx ((if ¬ (I 112 x1.toNatClampNeg) = 1 then (Int16.toInt32 (Int32.toInt16 x3)) else (Int8.toInt32 (Int32.toInt8 x3))) : Int32) (fun p1 => (1, (up2 (up2 I 114 ((40 * x1) + x2).toNatClampNeg p1) 116 ((40 * x1) + x2).toNatClampNeg (vp_nar (bT 0) 0)), (up2 F 115 ((40 * x1) + x2).toNatClampNeg (FP.fdiv (FP.i2f x3) 1082130432))))) else ((-12), I, F)) else ((-11), I, F)) else ((-2), I, F))
def g_271 (I : WI) (x1 : Int32) (x2 : Int32) (x3 : Int32) : Prop := ((¬ (v_262 x1) = 0) → ((vp_in x1 4) ∧ ((¬ (I 111 x1.toNatClampNeg) = 0) → ((g_272 x1) ∧ ((¬ (v_272 I x1 x2) = 0) → ((vp_in x1 4) ∧ (bx ((if ¬ (I 112 x1.toNatClampNeg) = 1 then (Int16.toInt32 (Int32.toInt16 x3)) else (Int8.toInt32 (Int32.toInt8 x3))) : Int32) (fun p1 => ((vp_in ((40 * x1) + x2) 160) ∧ ((vf_n32 (FP.fdiv (FP.i2f x3) 1082130432)) ∧ (vp_in ((40 * x1) + x2) 160)))))))))))
theorem cc_271 {l : LX} {d : Nat} {I : WI} {F : WF} {L : WL} {t : Nat} {x1 : Int32} {x2 : Int32} {x3 : Int32} (hg : g_271 I x1 x2 x3) : Con l 271 (d + 2) 0 0 [.ref 74, .int x1, .int x2, .int x3] SH (I, F, L, RT t) (po_I_IF L t (v_271 I F x1 x2 x3)) := by
  refine cn_271 ?_
  obtain ⟨T1, hT1⟩ : ∃ r : Int32 × WI × WF, r = (v_271 I F x1 x2 x3) := ⟨_, rfl⟩
  rw [← hT1]
  have he := (hT1.trans (v_271.eq_1 ..)).symm
  have hg := Eq.mp (g_271.eq_1 ..) hg
  refine bk_271_0 (cc_262 (d := d + 0) ) ?_
  refine bk_271_4 (fun h2 => ?_) (fun h2 => ?_)
  · have he := ite_p h2 he
    have hg := hg h2
    obtain ⟨k3, hg⟩ := hg
    refine bk_271_10 k3 (fun h4 => ?_) (fun h4 => ?_)
    · have he := ite_p h4 he
      have hg := hg h4
      obtain ⟨k5, hg⟩ := hg
      refine bk_271_22 (cc_272 (d := d + 0)  k5) ?_
      refine bk_271_28 (fun h6 => ?_) (fun h6 => ?_)
      · have he := ite_p h6 he
        have hg := hg h6
        obtain ⟨k7, hg⟩ := hg
        obtain ⟨X1, hX1⟩ : ∃ r : Int32, r = (if ¬ (I 112 x1.toNatClampNeg) = 1 then (Int16.toInt32 (Int32.toInt16 x3)) else (Int8.toInt32 (Int32.toInt8 x3))) := ⟨_, rfl⟩
        have J1 : ∀ p1 : Int32, p1 = X1 → Wp l 271 (d + 2) 0 0 (po_I_IF L t T1) 0 0 65 [(0, .ref 74), (3, .int x3), (4, .int ((40 * x1) + x2))] [.int p1, .int ((40 * x1) + x2), .ref 114] SH (I, F, L, RT t) := by
          intro p1 hr
          have hr := hr.trans hX1
          have he := bx_eq hr he
          have hg := bx_un hr hg
          obtain ⟨k9, k10, k11⟩ := hg
          exact bk_271_65 k9 k10 k11 (rl_I_IF he)
        have he := hX1.symm
        refine bk_271_34 k7 (fun h8 => ?_) (fun h8 => ?_)
        · have he := ite_p h8 he
          refine bk_271_63 ?_
          exact J1 (Int16.toInt32 (Int32.toInt16 x3)) he
        · have he := ite_n h8 he
          refine bk_271_58 ?_
          exact J1 (Int8.toInt32 (Int32.toInt8 x3)) he
      · have he := ite_n h6 he
        exact bk_271_31 (rl_I_IF he)
    · have he := ite_n h4 he
      exact bk_271_19 (rl_I_IF he)
  · have he := ite_n h2 he
    exact bk_271_7 (rl_I_IF he)
/-- the loop at 78 of VectorShelfModel.code -/
def lp_279_78 (I : WI) (x1 : Int32) (x2 : Int32) (x3 : Int32) : Nat → WI
  | 0 => I
  | k + 1 => bx (lp_279_78 I x1 x2 x3 k) (fun p1 => (up2 p1 114 (((40 * x2) + x3) + (nI k)).toNatClampNeg (v_211 p1 x1 (nI k))))
def gl_279_78 (I : WI) (x1 : Int32) (x2 : Int32) (x3 : Int32) (N : Nat) : Prop := (∀ k, k < N → bx (lp_279_78 I x1 x2 x3 k) (fun p1 => ((g_211 p1 x1 (nI k)) ∧ (vp_in (((40 * x2) + x3) + (nI k)) 160))))
theorem lw_279_78 {l : LX} {d : Nat} {P : RP} {I : WI} {F : WF} {L : WL} {t : Nat} {x1 : Int32} {x2 : Int32} {x3 : Int32} (hgl : gl_279_78 I x1 x2 x3 ((3 : Int32).toNatClampNeg)) (hx : ∀ p1 : WI, p1 = lp_279_78 I x1 x2 x3 ((3 : Int32).toNatClampNeg) → Wp l 279 (d + 2) 0 0 P 0 0 111 [] [] SH (p1, F, L, RT t)) : Wp l 279 (d + 2) 0 0 P 0 0 78 [(0, .ref 74), (1, .int x1), (2, .int x2), (3, .int x3), (4, .int 0)] [] SH (I, F, L, RT t) := by
  have hin := hgl
  have loop : ∀ m k, k + m = (3 : Int32).toNatClampNeg → ∀ p1 : WI, p1 = lp_279_78 I x1 x2 x3 k → Wp l 279 (d + 2) 0 0 P 0 0 78 [(0, .ref 74), (1, .int x1), (2, .int x2), (3, .int x3), (4, .int (nI k))] [] SH (p1, F, L, RT t) := by
    intro m
    induction m with
    | zero =>
      intro k hk p1 hs
      obtain rfl : k = (3 : Int32).toNatClampNeg := by omega
      exact bk_279_78  (fun _ => hx _ hs) (fun h => absurd ((le_cl (Nat.le_refl _)).mpr rfl) h)
    | succ m ih =>
      intro k hk p1 hs
      have hk2 : k < (3 : Int32).toNatClampNeg := by omega
      have ih := ih (k + 1) (by omega)
      rw [nI_succ] at ih
      have he := bx_eq hs (lp_279_78.eq_2 ..).symm
      have hg := bx_un hs (hin k hk2)
      refine bk_279_78  (fun h => absurd ((le_cl (E := 3) (i := k) (by omega)).mp h) (by omega)) (fun _ => ?_)
      obtain ⟨k14, hg⟩ := hg
      refine bk_279_84 (cc_211 (d := d + 0)  k14) ?_
      have k15 := hg
      refine bk_279_104 k15 ?_
      exact ih (up2 p1 114 (((40 * x2) + x3) + (nI k)).toNatClampNeg (v_211 p1 x1 (nI k))) he
  exact loop _ 0 (Nat.zero_add _) _ rfl
/-- VectorShelfModel.code(III)I -/
def v_279 (I : WI) (x1 : Int32) (x2 : Int32) (x3 : Int32) : Int32 × WI := (if (v_262 x2) = 0 then ((-2), I) else (if ¬ (v_179 I x1) = 0 then (if ¬ (I 86 x1.toNatClampNeg) = (-1) then (if ¬ (I 111 x2.toNatClampNeg) = 0 then (if (I 112 x2.toNatClampNeg) = 1 then (if x3 < 0 then ((-12), I) else (if x3 ≤ ((I 113 x2.toNatClampNeg) - 3) then (bx ((lp_279_78 I x1 x2 x3 ((3 : Int32).toNatClampNeg)) : WI) (fun p2 => (3, p2))) else ((-12), I))) else ((-13), I)) else ((-11), I)) else ((-3), I)) else ((-2), I)))
def g_279 (I : WI) (x1 : Int32) (x2 : Int32) (x3 : Int32) : Prop := (¬ ((v_262 x2) = 0) → ((¬ (v_179 I x1) = 0) → ((vp_in x1 12) ∧ ((¬ (I 86 x1.toNatClampNeg) = (-1)) → ((vp_in x2 4) ∧ ((¬ (I 111 x2.toNatClampNeg) = 0) → ((vp_in x2 4) ∧ (((I 112 x2.toNatClampNeg) = 1) → (¬ (x3 < 0) → ((vp_in x2 4) ∧ ((x3 ≤ ((I 113 x2.toNatClampNeg) - 3)) → (gl_279_78 I x1 x2 x3 ((3 : Int32).toNatClampNeg)))))))))))))
theorem cc_279 {l : LX} {d : Nat} {I : WI} {F : WF} {L : WL} {t : Nat} {x1 : Int32} {x2 : Int32} {x3 : Int32} (hg : g_279 I x1 x2 x3) : Con l 279 (d + 2) 0 0 [.ref 74, .int x1, .int x2, .int x3] SH (I, F, L, RT t) (po_I_I F L t (v_279 I x1 x2 x3)) := by
  refine cn_279 ?_
  obtain ⟨T1, hT1⟩ : ∃ r : Int32 × WI, r = (v_279 I x1 x2 x3) := ⟨_, rfl⟩
  rw [← hT1]
  have he := (hT1.trans (v_279.eq_1 ..)).symm
  have hg := Eq.mp (g_279.eq_1 ..) hg
  refine bk_279_0 (cc_262 (d := d + 0) ) ?_
  refine bk_279_4 (fun h2 => ?_) (fun h2 => ?_)
  · have he := ite_p h2 he
    exact bk_279_15 (rl_I_I he)
  · have he := ite_n h2 he
    have hg := hg h2
    refine bk_279_7 (cc_179 (d := d + 0) ) ?_
    refine bk_279_12 (fun h4 => ?_) (fun h4 => ?_)
    · have he := ite_p h4 he
      have hg := hg h4
      obtain ⟨k5, hg⟩ := hg
      refine bk_279_18 k5 (fun h6 => ?_) (fun h6 => ?_)
      · have he := ite_p h6 he
        have hg := hg h6
        obtain ⟨k7, hg⟩ := hg
        refine bk_279_31 k7 (fun h8 => ?_) (fun h8 => ?_)
        · have he := ite_p h8 he
          have hg := hg h8
          obtain ⟨k9, hg⟩ := hg
          refine bk_279_43 k9 (fun h10 => ?_) (fun h10 => ?_)
          · have he := ite_p h10 he
            have hg := hg h10
            refine bk_279_56 (fun h11 => ?_) (fun h11 => ?_)
            · have he := ite_p h11 he
              exact bk_279_72 (rl_I_I he)
            · have he := ite_n h11 he
              have hg := hg h11
              obtain ⟨k12, hg⟩ := hg
              refine bk_279_60 k12 (fun h13 => ?_) (fun h13 => ?_)
              · have he := ite_p h13 he
                have hg := hg h13
                refine bk_279_75 ?_
                have hgX := hg
                refine lw_279_78 (d := d)  hgX (fun p2 hr => ?_)
                have he := bx_eq hr he
                exact bk_279_111 (rl_I_I he)
              · have he := ite_n h13 he
                exact bk_279_72 (rl_I_I he)
          · have he := ite_n h10 he
            exact bk_279_53 (rl_I_I he)
        · have he := ite_n h8 he
          exact bk_279_40 (rl_I_I he)
      · have he := ite_n h6 he
        exact bk_279_28 (rl_I_I he)
    · have he := ite_n h4 he
      exact bk_279_15 (rl_I_I he)
/-- the loop at 22 of VectorShelfModel.taken -/
def lp_280_22 (x1 : Int32) : Nat → Int32 → Int32
  | 0, x2 => x2
  | k + 1, x2 => (if x2 = (-1) then x2 else (if x2 = x1 then x2 else (lp_280_22 x1 k (v_281 x2))))
def gl_280_22 (x1 : Int32) : Nat → Int32 → Prop
  | 0, _ => False
  | k + 1, x2 => (¬ (x2 = (-1)) → (¬ (x2 = x1) → (gl_280_22 x1 k (v_281 x2))))
theorem lw_280_22 {l : LX} {d : Nat} {P : RP} {I : WI} {F : WF} {L : WL} {t : Nat} {x1 : Int32} : ∀ k : Nat, ∀ (x2 : Int32), gl_280_22 x1 k x2 → (∀ r : Int32, r = lp_280_22 x1 k x2 → Wp l 280 (d + 1) 0 0 P 0 0 40 [(0, .ref 74), (1, .int x1), (2, .int r)] [] SH (I, F, L, RT t)) → Wp l 280 (d + 1) 0 0 P 0 0 22 [(0, .ref 74), (1, .int x1), (2, .int x2)] [] SH (I, F, L, RT t) := by
  intro k
  induction k with
  | zero =>
    intro x2 hg hx
    exact hg.elim
  | succ k ih =>
    intro x2 hg hx
    have hg := Eq.mp (gl_280_22.eq_2 ..) hg
    obtain ⟨T1, hT1⟩ : ∃ r : Int32, r = lp_280_22 x1 (k + 1) x2 := ⟨_, rfl⟩
    have hx : ∀ r : Int32, r = T1 → Wp l 280 (d + 1) 0 0 P 0 0 40 [(0, .ref 74), (1, .int x1), (2, .int r)] [] SH (I, F, L, RT t) := fun r hr => hx r (hr.trans hT1)
    have he := (hT1.trans (lp_280_22.eq_2 ..)).symm
    refine bk_280_22 (fun h3 => ?_) (fun h3 => ?_)
    · have he := ite_p h3 he
      exact hx x2 he
    · have he := ite_n h3 he
      have hg := hg h3
      refine bk_280_27 (fun h4 => ?_) (fun h4 => ?_)
      · have he := ite_p h4 he
        exact hx x2 he
      · have he := ite_n h4 he
        have hg := hg h4
        refine bk_280_32 (cc_281 (d := d + 0) ) ?_
        refine bk_280_36 ?_
        exact ih (v_281 x2) hg (fun r hr => hx r (hr.trans he))
/-- VectorShelfModel.taken(I)I -/
def v_280 (I : WI) (x1 : Int32) : Int32 := (if ¬ (v_170 (Int32.toInt64 x1) (0 : Int64) (5 : Int64)) = 0 then (bx ((lp_280_22 x1 400 (I 78 3)) : Int32) (fun p1 => (if ¬ p1 = x1 then (-13) else (I 78 3)))) else (-2))
def g_280 (I : WI) (x1 : Int32) : Prop := ((¬ (v_170 (Int32.toInt64 x1) (0 : Int64) (5 : Int64)) = 0) → (gl_280_22 x1 400 (I 78 3)))
theorem cc_280 {l : LX} {d : Nat} {I : WI} {F : WF} {L : WL} {t : Nat} {x1 : Int32} (hg : g_280 I x1) : Con l 280 (d + 1) 0 0 [.ref 74, .int x1] SH (I, F, L, RT t) (rI (v_280 I x1) (I, F, L, RT t)) := by
  refine cn_280 ?_
  obtain ⟨T1, hT1⟩ : ∃ r : Int32, r = (v_280 I x1) := ⟨_, rfl⟩
  rw [← hT1]
  have he := (hT1.trans (v_280.eq_1 ..)).symm
  have hg := Eq.mp (g_280.eq_1 ..) hg
  refine bk_280_0 (cc_170 (d := d + 0) ) ?_
  refine bk_280_9 (fun h2 => ?_) (fun h2 => ?_)
  · have he := ite_p h2 he
    have hg := hg h2
    refine bk_280_15 ?_
    have hgX := hg
    refine lw_280_22 (d := d)  400 (I 78 3) hgX (fun p1 hr => ?_)
    have he := bx_eq hr he
    refine bk_280_40 (fun h6 => ?_) (fun h6 => ?_)
    · have he := ite_p h6 he
      refine bk_280_54 ?_
      exact bk_280_56 (rl_p_I he)
    · have he := ite_n h6 he
      refine bk_280_45 ?_
      exact bk_280_56 (rl_p_I he)
  · have he := ite_n h2 he
    exact bk_280_12 (rl_p_I he)
end
