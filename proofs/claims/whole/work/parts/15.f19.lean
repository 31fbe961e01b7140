section
/-- VectorShelf.text()I -/
noncomputable def v_126 (I : WI) (t : Nat) : Int32 × WI × Nat := (if (I 0 9) < 6 then (bx ((45 + 2 * ((I 0 9).toNatClampNeg)) : Nat) (fun p1 => (bx ((v_84 I t p1) : Int32 × WI × Nat) (fun p2 => (if p2.1 < 0 then ((((p2.2.1 0 9) + 1) - 1), (up2 p2.2.1 0 9 ((p2.2.1 0 9) + 1)), p2.2.2) else (((-100) - p2.1), p2.2.1, p2.2.2)))))) else ((-4), I, t))
noncomputable def g_126 (I : WI) : Prop := (((I 0 9) < 6) → ((vp_in (I 0 9) 6) ∧ (bx ((45 + 2 * ((I 0 9).toNatClampNeg)) : Nat) (fun p1 => (g_84 I p1)))))
theorem cc_126 {l : LX} {d : Nat} {I : WI} {F : WF} {L : WL} {t : Nat} (hd : 172 ≤ d) (hg : g_126 I) : Con l 126 d 0 0 [.ref 0] SH (I, F, L, RT t) (po_I_It F L (v_126 I t)) := by
  obtain ⟨d, rfl⟩ : ∃ e, d = e + 172 := ⟨d - 172, by omega⟩
  refine cn_126 ?_
  obtain ⟨T1, hT1⟩ : ∃ r : Int32 × WI × Nat, r = (v_126 I t) := ⟨_, rfl⟩
  rw [← hT1]
  have he := (hT1.trans (v_126.eq_1 ..)).symm
  have hg := Eq.mp (g_126.eq_1 ..) hg
  refine bk_126_0 (fun h1 => ?_) (fun h1 => ?_)
  · have he := ite_p h1 he
    have hg := hg h1
    obtain ⟨k2, hg⟩ := hg
    obtain ⟨p1, hnp1⟩ : ∃ q : Nat, q = (45 + 2 * ((I 0 9).toNatClampNeg)) := ⟨_, rfl⟩
    have hp1 : isT p1 := by rw [hnp1]; exact isT_at k2
    have he := bx_eq hnp1 he
    have hg := bx_un hnp1 hg
    refine bk_126_12 k2 (show RT t 44 (I 0 9).toNatClampNeg = some p1 from by rw [hnp1]; exact RT_at44 k2) ?_
    have k3 := hg
    refine bk_126_25 (cq_I_It (cc_84 (d := d + 171) (by omega) hp1 k3)) ?_
    rintro _ _ _ _ _ ⟨p2, hr, rfl, rfl, rfl, rfl, rfl⟩
    have he := bx_eq hr he
    refine bk_126_28 (fun h4 => ?_) (fun h4 => ?_)
    · have he := ite_p h4 he
      exact bk_126_38 (rl_I_It he)
    · have he := ite_n h4 he
      exact bk_126_33 (rl_I_It he)
  · have he := ite_n h1 he
    exact bk_126_9 (rl_I_It he)
/-- VectorShelfModel.atom()I -/
def v_206 (rec : RECTR) (I : WI) (L : WL) : Int32 × WI × WL := (if (v_207 I L (45 : Int32)) = 0 then (if (v_207 I L (40 : Int32)) = 0 then (if ¬ (I 74 32) = 0 then (if ¬ (I 74 32) = 0 then (bx ((v_199 I) : WI) (fun p1 => (0, p1, L))) else (if ¬ (I 74 28) = 1 then (bx ((v_199 I) : WI) (fun p2 => (0, p2, L))) else (bx ((v_208 I) : Int32 × WI) (fun p3 => (if ¬ (p3.2 74 32) = 0 then (p3.1, p3.2, L) else (bx ((v_194 p3.2 L) : WI × WL) (fun p4 => (p3.1, p4.1, p4.2)))))))) else (if ¬ (I 74 28) = 2 then (if ¬ (I 74 32) = 0 then (bx ((v_199 I) : WI) (fun p5 => (0, p5, L))) else (if ¬ (I 74 28) = 1 then (bx ((v_199 I) : WI) (fun p6 => (0, p6, L))) else (bx ((v_208 I) : Int32 × WI) (fun p7 => (if ¬ (p7.2 74 32) = 0 then (p7.1, p7.2, L) else (bx ((v_194 p7.2 L) : WI × WL) (fun p8 => (p7.1, p8.1, p8.2)))))))) else (bx ((v_194 I L) : WI × WL) (fun p9 => ((Int64.toInt32 (L 74 30)), p9.1, p9.2))))) else (bx ((v_203 I L) : Int32 × WI × WL) (fun p10 => (if p10.1 = 0 then (0, p10.2.1, p10.2.2) else (bx ((rec 200 p10.2.1 p10.2.2) : Int32 × WI × WL) (fun p11 => (bx ((if ¬ (v_207 p11.2.1 p11.2.2 (41 : Int32)) = 0 then p11.2.1 else (bx ((v_199 p11.2.1) : WI) (fun p12 => p12))) : WI) (fun p13 => (if ¬ (p13 74 32) = 0 then (p11.1, (up2 p13 74 31 ((p13 74 31) - 1)), p11.2.2) else (bx ((v_194 (up2 p13 74 31 ((p13 74 31) - 1)) p11.2.2) : WI × WL) (fun p14 => (p11.1, p14.1, p14.2)))))))))))) else (bx ((v_203 I L) : Int32 × WI × WL) (fun p15 => (if p15.1 = 0 then (0, p15.2.1, p15.2.2) else (bx ((rec 206 p15.2.1 p15.2.2) : Int32 × WI × WL) (fun p16 => ((-p16.1), (up2 p16.2.1 74 31 ((p16.2.1 74 31) - 1)), p16.2.2)))))))
def g_206 (rec : RECTR) (okr : OKRTR) (I : WI) (L : WL) : Prop := ((((v_207 I L (45 : Int32)) = 0) → ((((v_207 I L (40 : Int32)) = 0) → (((¬ (I 74 32) = 0) → (¬ (¬ (I 74 32) = 0) → (¬ (¬ (I 74 28) = 1) → ((g_208 I) ∧ (bx ((v_208 I) : Int32 × WI) (fun p3 => (¬ (¬ (p3.2 74 32) = 0) → (g_194 p3.2 L)))))))) ∧ (¬ (¬ (I 74 32) = 0) → (((¬ (I 74 28) = 2) → (¬ (¬ (I 74 32) = 0) → (¬ (¬ (I 74 28) = 1) → ((g_208 I) ∧ (bx ((v_208 I) : Int32 × WI) (fun p7 => (¬ (¬ (p7.2 74 32) = 0) → (g_194 p7.2 L)))))))) ∧ (¬ (¬ (I 74 28) = 2) → (g_194 I L)))))) ∧ (¬ ((v_207 I L (40 : Int32)) = 0) → ((g_203 I L) ∧ (bx ((v_203 I L) : Int32 × WI × WL) (fun p10 => (¬ (p10.1 = 0) → ((okr 200 p10.2.1 p10.2.2) ∧ (bx ((rec 200 p10.2.1 p10.2.2) : Int32 × WI × WL) (fun p11 => (bx ((if ¬ (v_207 p11.2.1 p11.2.2 (41 : Int32)) = 0 then p11.2.1 else (bx ((v_199 p11.2.1) : WI) (fun p12 => p12))) : WI) (fun p13 => (¬ (¬ (p13 74 32) = 0) → (g_194 (up2 p13 74 31 ((p13 74 31) - 1)) p11.2.2)))))))))))))) ∧ (¬ ((v_207 I L (45 : Int32)) = 0) → ((g_203 I L) ∧ (bx ((v_203 I L) : Int32 × WI × WL) (fun p15 => (¬ (p15.1 = 0) → (okr 206 p15.2.1 p15.2.2)))))))
theorem cc_206 {l : LX} {d : Nat} {I : WI} {F : WF} {L : WL} {t : Nat} {rec : RECTR} {okr : OKRTR} {dr : Nat} (hrec : HRECR l dr rec okr) (hd : dr ≤ d) (hg : g_206 rec okr I L) : Con l 206 (d + 4) 0 0 [.ref 74] SH (I, F, L, RT t) (po_I_IL F t (v_206 rec I L)) := by
  refine cn_206 ?_
  obtain ⟨T1, hT1⟩ : ∃ r : Int32 × WI × WL, r = (v_206 rec I L) := ⟨_, rfl⟩
  rw [← hT1]
  have he := (hT1.trans (v_206.eq_1 ..)).symm
  have hg := Eq.mp (g_206.eq_1 ..) hg
  refine bk_206_0 (cc_207 (d := d + 3) ) ?_
  refine bk_206_8 (fun h2 => ?_) (fun h2 => ?_)
  · have he := ite_p h2 he
    have hg := hg.1 h2
    refine bk_206_37 (cc_207 (d := d + 3) ) ?_
    refine bk_206_43 (fun h4 => ?_) (fun h4 => ?_)
    · have he := ite_p h4 he
      have hg := hg.1 h4
      refine bk_206_95 (fun h5 => ?_) (fun h5 => ?_)
      · have he := ite_p h5 he
        have hg := hg.1 h5
        refine bk_206_123 (fun h6 => ?_) (fun h6 => ?_)
        · have he := ite_p h6 he
          refine bk_206_157 (cq_V_I (cc_199 (d := d + 3) )) ?_
          rintro _ _ _ _ ⟨p1, hr, rfl, rfl, rfl, rfl⟩
          have he := bx_eq hr he
          exact bk_206_161 (rl_I_IL he)
        · have he := ite_n h6 he
          have hg := hg h6
          refine bk_206_130 (fun h8 => ?_) (fun h8 => ?_)
          · have he := ite_p h8 he
            refine bk_206_157 (cq_V_I (cc_199 (d := d + 3) )) ?_
            rintro _ _ _ _ ⟨p2, hr, rfl, rfl, rfl, rfl⟩
            have he := bx_eq hr he
            exact bk_206_161 (rl_I_IL he)
          · have he := ite_n h8 he
            have hg := hg h8
            obtain ⟨k10, hg⟩ := hg
            refine bk_206_138 (cq_I_I (cc_208 (d := d + 0)  k10)) ?_
            rintro _ _ _ _ _ ⟨p3, hr, rfl, rfl, rfl, rfl, rfl⟩
            have he := bx_eq hr he
            have hg := bx_un hr hg
            refine bk_206_142 (fun h11 => ?_) (fun h11 => ?_)
            · have he := ite_p h11 he
              exact bk_206_161 (rl_I_IL he)
            · have he := ite_n h11 he
              have hg := hg h11
              have k12 := hg
              refine bk_206_150 (cq_V_IL (cc_194 (d := d + 2)  k12)) ?_
              rintro _ _ _ _ ⟨p4, hr, rfl, rfl, rfl, rfl⟩
              have he := bx_eq hr he
              refine bk_206_154 ?_
              exact bk_206_161 (rl_I_IL he)
      · have he := ite_n h5 he
        have hg := hg.2 h5
        refine bk_206_102 (fun h13 => ?_) (fun h13 => ?_)
        · have he := ite_p h13 he
          have hg := hg.1 h13
          refine bk_206_123 (fun h14 => ?_) (fun h14 => ?_)
          · have he := ite_p h14 he
            refine bk_206_157 (cq_V_I (cc_199 (d := d + 3) )) ?_
            rintro _ _ _ _ ⟨p5, hr, rfl, rfl, rfl, rfl⟩
            have he := bx_eq hr he
            exact bk_206_161 (rl_I_IL he)
          · have he := ite_n h14 he
            have hg := hg h14
            refine bk_206_130 (fun h16 => ?_) (fun h16 => ?_)
            · have he := ite_p h16 he
              refine bk_206_157 (cq_V_I (cc_199 (d := d + 3) )) ?_
              rintro _ _ _ _ ⟨p6, hr, rfl, rfl, rfl, rfl⟩
              have he := bx_eq hr he
              exact bk_206_161 (rl_I_IL he)
            · have he := ite_n h16 he
              have hg := hg h16
              obtain ⟨k18, hg⟩ := hg
              refine bk_206_138 (cq_I_I (cc_208 (d := d + 0)  k18)) ?_
              rintro _ _ _ _ _ ⟨p7, hr, rfl, rfl, rfl, rfl, rfl⟩
              have he := bx_eq hr he
              have hg := bx_un hr hg
              refine bk_206_142 (fun h19 => ?_) (fun h19 => ?_)
              · have he := ite_p h19 he
                exact bk_206_161 (rl_I_IL he)
              · have he := ite_n h19 he
                have hg := hg h19
                have k20 := hg
                refine bk_206_150 (cq_V_IL (cc_194 (d := d + 2)  k20)) ?_
                rintro _ _ _ _ ⟨p8, hr, rfl, rfl, rfl, rfl⟩
                have he := bx_eq hr he
                refine bk_206_154 ?_
                exact bk_206_161 (rl_I_IL he)
        · have he := ite_n h13 he
          have hg := hg.2 h13
          have k21 := hg
          refine bk_206_110 (cq_V_IL (cc_194 (d := d + 2)  k21)) ?_
          rintro _ _ _ _ ⟨p9, hr, rfl, rfl, rfl, rfl⟩
          have he := bx_eq hr he
          refine bk_206_120 ?_
          exact bk_206_161 (rl_I_IL he)
    · have he := ite_n h4 he
      have hg := hg.2 h4
      obtain ⟨k22, hg⟩ := hg
      refine bk_206_46 (cq_I_IL (cc_203 (d := d + 1)  k22)) ?_
      rintro _ _ _ _ _ ⟨p10, hr, rfl, rfl, rfl, rfl, rfl⟩
      have he := bx_eq hr he
      have hg := bx_un hr hg
      refine bk_206_50 (fun h23 => ?_) (fun h23 => ?_)
      · have he := ite_p h23 he
        exact bk_206_161 (rl_I_IL he)
      · have he := ite_n h23 he
        have hg := hg h23
        obtain ⟨k24, hg⟩ := hg
        refine bk_206_53 (cq_I_IL (hrec (d + 3) (by omega) 200 _ F _ t (by simp) k24)) ?_
        rintro _ _ _ _ _ ⟨p11, hr, rfl, rfl, rfl, rfl, rfl⟩
        have he := bx_eq hr he
        have hg := bx_un hr hg
        refine bk_206_57 (cc_207 (d := d + 3) ) ?_
        obtain ⟨X1, hX1⟩ : ∃ r : WI, r = (if ¬ (v_207 p11.2.1 p11.2.2 (41 : Int32)) = 0 then p11.2.1 else (bx ((v_199 p11.2.1) : WI) (fun p12 => p12))) := ⟨_, rfl⟩
        have J1 : ∀ p13 : WI, p13 = X1 → Wp l 206 (d + 4) 0 0 (po_I_IL F t T1) 0 0 71 [(0, .ref 74), (1, .int p11.1)] [] SH (p13, F, p11.2.2, RT t) := by
          intro p13 hr
          have hr := hr.trans hX1
          have he := bx_eq hr he
          have hg := bx_un hr hg
          refine bk_206_71 (fun h28 => ?_) (fun h28 => ?_)
          · have he := ite_p h28 he
            exact bk_206_161 (rl_I_IL he)
          · have he := ite_n h28 he
            have hg := hg h28
            have k29 := hg
            refine bk_206_88 (cq_V_IL (cc_194 (d := d + 2)  k29)) ?_
            rintro _ _ _ _ ⟨p14, hr, rfl, rfl, rfl, rfl⟩
            have he := bx_eq hr he
            refine bk_206_92 ?_
            exact bk_206_161 (rl_I_IL he)
        have he := hX1.symm
        refine bk_206_64 (fun h26 => ?_) (fun h26 => ?_)
        · have he := ite_p h26 he
          exact J1 p11.2.1 he
        · have he := ite_n h26 he
          refine bk_206_67 (cq_V_I (cc_199 (d := d + 3) )) ?_
          rintro _ _ _ _ ⟨p12, hr, rfl, rfl, rfl, rfl⟩
          have he := bx_eq hr he
          exact J1 p12 he
  · have he := ite_n h2 he
    have hg := hg.2 h2
    obtain ⟨k30, hg⟩ := hg
    refine bk_206_11 (cq_I_IL (cc_203 (d := d + 1)  k30)) ?_
    rintro _ _ _ _ _ ⟨p15, hr, rfl, rfl, rfl, rfl, rfl⟩
    have he := bx_eq hr he
    have hg := bx_un hr hg
    refine bk_206_15 (fun h31 => ?_) (fun h31 => ?_)
    · have he := ite_p h31 he
      exact bk_206_161 (rl_I_IL he)
    · have he := ite_n h31 he
      have hg := hg h31
      have k32 := hg
      refine bk_206_18 (cq_I_IL (hrec (d + 3) (by omega) 206 _ F _ t (by simp) k32)) ?_
      rintro _ _ _ _ _ ⟨p16, hr, rfl, rfl, rfl, rfl, rfl⟩
      have he := bx_eq hr he
      refine bk_206_22 ?_
      exact bk_206_161 (rl_I_IL he)
/-- the loop at 5 of VectorShelfModel.term -/
def lp_205_5 (rec : RECTR) : Nat → Int32 → WI → WL → Int32 × WI × WL
  | 0, x1, I, L => (x1, I, L)
  | k + 1, x1, I, L => (if (v_207 I L (42 : Int32)) = 0 then (x1, I, L) else (bx ((v_194 I L) : WI × WL) (fun p2 => (bx ((v_206 rec p2.1 p2.2) : Int32 × WI × WL) (fun p3 => (lp_205_5 rec k (x1 * p3.1) p3.2.1 p3.2.2))))))
def gl_205_5 (rec : RECTR) (okr : OKRTR) : Nat → Int32 → WI → WL → Prop
  | 0, _, _, _ => False
  | k + 1, x1, I, L => (¬ ((v_207 I L (42 : Int32)) = 0) → ((g_194 I L) ∧ (bx ((v_194 I L) : WI × WL) (fun p2 => ((g_206 rec okr p2.1 p2.2) ∧ (bx ((v_206 rec p2.1 p2.2) : Int32 × WI × WL) (fun p3 => (gl_205_5 rec okr k (x1 * p3.1) p3.2.1 p3.2.2))))))))
theorem lw_205_5 {l : LX} {d : Nat} {P : RP} {rec : RECTR} {okr : OKRTR} {F : WF} {t : Nat} {dr : Nat} (hrec : HRECR l dr rec okr) (hd : dr ≤ d) : ∀ k : Nat, ∀ (x1 : Int32) (I : WI) (L : WL), gl_205_5 rec okr k x1 I L → (∀ r : Int32 × WI × WL, r = lp_205_5 rec k x1 I L → Wp l 205 (d + 5) 0 0 P 0 0 28 [(1, .int r.1)] [] SH (r.2.1, F, r.2.2, RT t)) → Wp l 205 (d + 5) 0 0 P 0 0 5 [(0, .ref 74), (1, .int x1)] [] SH (I, F, L, RT t) := by
  intro k
  induction k with
  | zero =>
    intro x1 I L hg hx
    exact hg.elim
  | succ k ih =>
    intro x1 I L hg hx
    have hg := Eq.mp (gl_205_5.eq_2 ..) hg
    obtain ⟨T1, hT1⟩ : ∃ r : Int32 × WI × WL, r = lp_205_5 rec (k + 1) x1 I L := ⟨_, rfl⟩
    have hx : ∀ r : Int32 × WI × WL, r = T1 → Wp l 205 (d + 5) 0 0 P 0 0 28 [(1, .int r.1)] [] SH (r.2.1, F, r.2.2, RT t) := fun r hr => hx r (hr.trans hT1)
    have he := (hT1.trans (lp_205_5.eq_2 ..)).symm
    refine bk_205_5 (cc_207 (d := d + 4) ) ?_
    refine bk_205_11 (fun h3 => ?_) (fun h3 => ?_)
    · have he := ite_p h3 he
      exact hx (x1, I, L) he
    · have he := ite_n h3 he
      have hg := hg h3
      obtain ⟨k4, hg⟩ := hg
      refine bk_205_14 (cq_V_IL (cc_194 (d := d + 3)  k4)) ?_
      rintro _ _ _ _ ⟨p2, hr, rfl, rfl, rfl, rfl⟩
      have he := bx_eq hr he
      have hg := bx_un hr hg
      obtain ⟨k5, hg⟩ := hg
      refine bk_205_18 (cq_I_IL (cc_206 (d := d + 0) hrec (by omega)  k5)) ?_
      rintro _ _ _ _ _ ⟨p3, hr, rfl, rfl, rfl, rfl, rfl⟩
      have he := bx_eq hr he
      have hg := bx_un hr hg
      refine bk_205_23 ?_
      exact ih (x1 * p3.1) p3.2.1 p3.2.2 hg (fun r hr => hx r (hr.trans he))
/-- VectorShelfModel.term()I -/
def v_205 (rec : RECTR) (I : WI) (L : WL) : Int32 × WI × WL := (bx ((v_206 rec I L) : Int32 × WI × WL) (fun p1 => (bx ((lp_205_5 rec 400 p1.1 p1.2.1 p1.2.2) : Int32 × WI × WL) (fun p4 => (p4.1, p4.2.1, p4.2.2)))))
def g_205 (rec : RECTR) (okr : OKRTR) (I : WI) (L : WL) : Prop := ((g_206 rec okr I L) ∧ (bx ((v_206 rec I L) : Int32 × WI × WL) (fun p1 => (gl_205_5 rec okr 400 p1.1 p1.2.1 p1.2.2))))
theorem cc_205 {l : LX} {d : Nat} {I : WI} {F : WF} {L : WL} {t : Nat} {rec : RECTR} {okr : OKRTR} {dr : Nat} (hrec : HRECR l dr rec okr) (hd : dr ≤ d) (hg : g_205 rec okr I L) : Con l 205 (d + 5) 0 0 [.ref 74] SH (I, F, L, RT t) (po_I_IL F t (v_205 rec I L)) := by
  refine cn_205 ?_
  obtain ⟨T1, hT1⟩ : ∃ r : Int32 × WI × WL, r = (v_205 rec I L) := ⟨_, rfl⟩
  rw [← hT1]
  have he := (hT1.trans (v_205.eq_1 ..)).symm
  have hg := Eq.mp (g_205.eq_1 ..) hg
  obtain ⟨k1, hg⟩ := hg
  refine bk_205_0 (cq_I_IL (cc_206 (d := d + 0) hrec (by omega)  k1)) ?_
  rintro _ _ _ _ _ ⟨p1, hr, rfl, rfl, rfl, rfl, rfl⟩
  have he := bx_eq hr he
  have hg := bx_un hr hg
  refine bk_205_4 ?_
  have hgX := hg
  refine lw_205_5 (d := d) hrec (by omega) 400 p1.1 p1.2.1 p1.2.2 hgX (fun p4 hr => ?_)
  have he := bx_eq hr he
  exact bk_205_28 (rl_I_IL he)
/-- the loop at 5 of VectorShelfModel.added -/
def lp_204_5 (rec : RECTR) : Nat → Int32 → WI → WL → Int32 × WI × WL
  | 0, x1, I, L => (x1, I, L)
  | k + 1, x1, I, L => (if ¬ (v_207 I L (43 : Int32)) = 0 then (bx ((if ¬ (lg_cmp (L 74 30) 43) = 0 then 0 else 1) : Int32) (fun p2 => (bx ((v_194 I L) : WI × WL) (fun p3 => (bx ((v_205 rec p3.1 p3.2) : Int32 × WI × WL) (fun p4 => (bx ((if p2 = 0 then (x1 - p4.1) else (x1 + p4.1)) : Int32) (fun p5 => (lp_204_5 rec k p5 p4.2.1 p4.2.2))))))))) else (if (v_207 I L (45 : Int32)) = 0 then (x1, I, L) else (bx ((if ¬ (lg_cmp (L 74 30) 43) = 0 then 0 else 1) : Int32) (fun p6 => (bx ((v_194 I L) : WI × WL) (fun p7 => (bx ((v_205 rec p7.1 p7.2) : Int32 × WI × WL) (fun p8 => (bx ((if p6 = 0 then (x1 - p8.1) else (x1 + p8.1)) : Int32) (fun p9 => (lp_204_5 rec k p9 p8.2.1 p8.2.2)))))))))))
def gl_204_5 (rec : RECTR) (okr : OKRTR) : Nat → Int32 → WI → WL → Prop
  | 0, _, _, _ => False
  | k + 1, x1, I, L => (((¬ (v_207 I L (43 : Int32)) = 0) → (bx ((if ¬ (lg_cmp (L 74 30) 43) = 0 then 0 else 1) : Int32) (fun p2 => ((g_194 I L) ∧ (bx ((v_194 I L) : WI × WL) (fun p3 => ((g_205 rec okr p3.1 p3.2) ∧ (bx ((v_205 rec p3.1 p3.2) : Int32 × WI × WL) (fun p4 => (bx ((if p2 = 0 then (x1 - p4.1) else (x1 + p4.1)) : Int32) (fun p5 => (gl_204_5 rec okr k p5 p4.2.1 p4.2.2)))))))))))) ∧ (¬ (¬ (v_207 I L (43 : Int32)) = 0) → (¬ ((v_207 I L (45 : Int32)) = 0) → (bx ((if ¬ (lg_cmp (L 74 30) 43) = 0 then 0 else 1) : Int32) (fun p6 => ((g_194 I L) ∧ (bx ((v_194 I L) : WI × WL) (fun p7 => ((g_205 rec okr p7.1 p7.2) ∧ (bx ((v_205 rec p7.1 p7.2) : Int32 × WI × WL) (fun p8 => (bx ((if p6 = 0 then (x1 - p8.1) else (x1 + p8.1)) : Int32) (fun p9 => (gl_204_5 rec okr k p9 p8.2.1 p8.2.2))))))))))))))
theorem lw_204_5 {l : LX} {d : Nat} {P : RP} {rec : RECTR} {okr : OKRTR} {F : WF} {t : Nat} {dr : Nat} (hrec : HRECR l dr rec okr) (hd : dr ≤ d) : ∀ k : Nat, ∀ (x1 : Int32) (I : WI) (L : WL), gl_204_5 rec okr k x1 I L → (∀ r : Int32 × WI × WL, r = lp_204_5 rec k x1 I L → Wp l 204 (d + 6) 0 0 P 0 0 66 [(1, .int r.1)] [] SH (r.2.1, F, r.2.2, RT t)) → Wp l 204 (d + 6) 0 0 P 0 0 5 [(0, .ref 74), (1, .int x1)] [] SH (I, F, L, RT t) := by
  intro k
  induction k with
  | zero =>
    intro x1 I L hg hx
    exact hg.elim
  | succ k ih =>
    intro x1 I L hg hx
    have hg := Eq.mp (gl_204_5.eq_2 ..) hg
    obtain ⟨T1, hT1⟩ : ∃ r : Int32 × WI × WL, r = lp_204_5 rec (k + 1) x1 I L := ⟨_, rfl⟩
    have hx : ∀ r : Int32 × WI × WL, r = T1 → Wp l 204 (d + 6) 0 0 P 0 0 66 [(1, .int r.1)] [] SH (r.2.1, F, r.2.2, RT t) := fun r hr => hx r (hr.trans hT1)
    have he := (hT1.trans (lp_204_5.eq_2 ..)).symm
    refine bk_204_5 (cc_207 (d := d + 5) ) ?_
    refine bk_204_11 (fun h3 => ?_) (fun h3 => ?_)
    · have he := ite_p h3 he
      have hg := hg.1 h3
      obtain ⟨X4, hX4⟩ : ∃ r : Int32, r = (if ¬ (lg_cmp (L 74 30) 43) = 0 then 0 else 1) := ⟨_, rfl⟩
      have J4 : ∀ p2 : Int32, p2 = X4 → Wp l 204 (d + 6) 0 0 P 0 0 39 [(0, .ref 74), (1, .int x1)] [.int p2] SH (I, F, L, RT t) := by
        intro p2 hr
        have hr := hr.trans hX4
        have he := bx_eq hr he
        have hg := bx_un hr hg
        obtain ⟨k5, hg⟩ := hg
        refine bk_204_39 (cq_V_IL (cc_194 (d := d + 4)  k5)) ?_
        rintro _ _ _ _ ⟨p3, hr, rfl, rfl, rfl, rfl⟩
        have he := bx_eq hr he
        have hg := bx_un hr hg
        obtain ⟨k6, hg⟩ := hg
        refine bk_204_44 (cq_I_IL (cc_205 (d := d + 0) hrec (by omega)  k6)) ?_
        rintro _ _ _ _ _ ⟨p4, hr, rfl, rfl, rfl, rfl, rfl⟩
        have he := bx_eq hr he
        have hg := bx_un hr hg
        obtain ⟨X5, hX5⟩ : ∃ r : Int32, r = (if p2 = 0 then (x1 - p4.1) else (x1 + p4.1)) := ⟨_, rfl⟩
        have J5 : ∀ p5 : Int32, p5 = X5 → Wp l 204 (d + 6) 0 0 P 0 0 62 [(0, .ref 74)] [.int p5] SH (p4.2.1, F, p4.2.2, RT t) := by
          intro p5 hr
          have hr := hr.trans hX5
          have he := bx_eq hr he
          have hg := bx_un hr hg
          refine bk_204_62 ?_
          exact ih p5 p4.2.1 p4.2.2 hg (fun r hr => hx r (hr.trans he))
        have he := hX5.symm
        refine bk_204_48 (fun h7 => ?_) (fun h7 => ?_)
        · have he := ite_p h7 he
          refine bk_204_59 ?_
          exact J5 (x1 - p4.1) he
        · have he := ite_n h7 he
          refine bk_204_53 ?_
          exact J5 (x1 + p4.1) he
      have he := hX4.symm
      refine bk_204_23 (fun h4 => ?_) (fun h4 => ?_)
      · have he := ite_p h4 he
        refine bk_204_38 ?_
        exact J4 0 he
      · have he := ite_n h4 he
        refine bk_204_34 ?_
        exact J4 1 he
    · have he := ite_n h3 he
      have hg := hg.2 h3
      refine bk_204_14 (cc_207 (d := d + 5) ) ?_
      refine bk_204_20 (fun h9 => ?_) (fun h9 => ?_)
      · have he := ite_p h9 he
        exact hx (x1, I, L) he
      · have he := ite_n h9 he
        have hg := hg h9
        obtain ⟨X6, hX6⟩ : ∃ r : Int32, r = (if ¬ (lg_cmp (L 74 30) 43) = 0 then 0 else 1) := ⟨_, rfl⟩
        have J6 : ∀ p6 : Int32, p6 = X6 → Wp l 204 (d + 6) 0 0 P 0 0 39 [(0, .ref 74), (1, .int x1)] [.int p6] SH (I, F, L, RT t) := by
          intro p6 hr
          have hr := hr.trans hX6
          have he := bx_eq hr he
          have hg := bx_un hr hg
          obtain ⟨k11, hg⟩ := hg
          refine bk_204_39 (cq_V_IL (cc_194 (d := d + 4)  k11)) ?_
          rintro _ _ _ _ ⟨p7, hr, rfl, rfl, rfl, rfl⟩
          have he := bx_eq hr he
          have hg := bx_un hr hg
          obtain ⟨k12, hg⟩ := hg
          refine bk_204_44 (cq_I_IL (cc_205 (d := d + 0) hrec (by omega)  k12)) ?_
          rintro _ _ _ _ _ ⟨p8, hr, rfl, rfl, rfl, rfl, rfl⟩
          have he := bx_eq hr he
          have hg := bx_un hr hg
          obtain ⟨X7, hX7⟩ : ∃ r : Int32, r = (if p6 = 0 then (x1 - p8.1) else (x1 + p8.1)) := ⟨_, rfl⟩
          have J7 : ∀ p9 : Int32, p9 = X7 → Wp l 204 (d + 6) 0 0 P 0 0 62 [(0, .ref 74)] [.int p9] SH (p8.2.1, F, p8.2.2, RT t) := by
            intro p9 hr
            have hr := hr.trans hX7
            have he := bx_eq hr he
            have hg := bx_un hr hg
            refine bk_204_62 ?_
            exact ih p9 p8.2.1 p8.2.2 hg (fun r hr => hx r (hr.trans he))
          have he := hX7.symm
          refine bk_204_48 (fun h13 => ?_) (fun h13 => ?_)
          · have he := ite_p h13 he
            refine bk_204_59 ?_
            exact J7 (x1 - p8.1) he
          · have he := ite_n h13 he
            refine bk_204_53 ?_
            exact J7 (x1 + p8.1) he
        have he := hX6.symm
        refine bk_204_23 (fun h10 => ?_) (fun h10 => ?_)
        · have he := ite_p h10 he
          refine bk_204_38 ?_
          exact J6 0 he
        · have he := ite_n h10 he
          refine bk_204_34 ?_
          exact J6 1 he
/-- VectorShelfModel.added()I -/
def v_204 (rec : RECTR) (I : WI) (L : WL) : Int32 × WI × WL := (bx ((v_205 rec I L) : Int32 × WI × WL) (fun p1 => (bx ((lp_204_5 rec 400 p1.1 p1.2.1 p1.2.2) : Int32 × WI × WL) (fun p10 => (p10.1, p10.2.1, p10.2.2)))))
def g_204 (rec : RECTR) (okr : OKRTR) (I : WI) (L : WL) : Prop := ((g_205 rec okr I L) ∧ (bx ((v_205 rec I L) : Int32 × WI × WL) (fun p1 => (gl_204_5 rec okr 400 p1.1 p1.2.1 p1.2.2))))
theorem cc_204 {l : LX} {d : Nat} {I : WI} {F : WF} {L : WL} {t : Nat} {rec : RECTR} {okr : OKRTR} {dr : Nat} (hrec : HRECR l dr rec okr) (hd : dr ≤ d) (hg : g_204 rec okr I L) : Con l 204 (d + 6) 0 0 [.ref 74] SH (I, F, L, RT t) (po_I_IL F t (v_204 rec I L)) := by
  refine cn_204 ?_
  obtain ⟨T1, hT1⟩ : ∃ r : Int32 × WI × WL, r = (v_204 rec I L) := ⟨_, rfl⟩
  rw [← hT1]
  have he := (hT1.trans (v_204.eq_1 ..)).symm
  have hg := Eq.mp (g_204.eq_1 ..) hg
  obtain ⟨k1, hg⟩ := hg
  refine bk_204_0 (cq_I_IL (cc_205 (d := d + 0) hrec (by omega)  k1)) ?_
  rintro _ _ _ _ _ ⟨p1, hr, rfl, rfl, rfl, rfl, rfl⟩
  have he := bx_eq hr he
  have hg := bx_un hr hg
  refine bk_204_4 ?_
  have hgX := hg
  refine lw_204_5 (d := d) hrec (by omega) 400 p1.1 p1.2.1 p1.2.2 hgX (fun p10 hr => ?_)
  have he := bx_eq hr he
  exact bk_204_66 (rl_I_IL he)
/-- VectorShelfModel.not()I -/
def v_202 (rec : RECTR) (I : WI) (L : WL) : Int32 × WI × WL := (if (v_196 I (110 : Int32) (111 : Int32) (116 : Int32) (0 : Int32) (0 : Int32) (0 : Int32) (0 : Int32) (0 : Int32)) = 0 then (bx ((v_204 rec I L) : Int32 × WI × WL) (fun p1 => (if ¬ (v_207 p1.2.1 p1.2.2 (60 : Int32)) = 0 then (bx ((if ¬ (lg_cmp (p1.2.2 74 30) 60) = 0 then 0 else 1) : Int32) (fun p2 => (bx ((v_194 p1.2.1 p1.2.2) : WI × WL) (fun p3 => (bx ((v_204 rec p3.1 p3.2) : Int32 × WI × WL) (fun p4 => (if p2 = 0 then (if ¬ p1.1 = p4.1 then (0, p4.2.1, p4.2.2) else (1, p4.2.1, p4.2.2)) else (if p4.1 ≤ p1.1 then (0, p4.2.1, p4.2.2) else (1, p4.2.1, p4.2.2))))))))) else (if ¬ (v_207 p1.2.1 p1.2.2 (61 : Int32)) = 0 then (bx ((if ¬ (lg_cmp (p1.2.2 74 30) 60) = 0 then 0 else 1) : Int32) (fun p5 => (bx ((v_194 p1.2.1 p1.2.2) : WI × WL) (fun p6 => (bx ((v_204 rec p6.1 p6.2) : Int32 × WI × WL) (fun p7 => (if p5 = 0 then (if ¬ p1.1 = p7.1 then (0, p7.2.1, p7.2.2) else (1, p7.2.1, p7.2.2)) else (if p7.1 ≤ p1.1 then (0, p7.2.1, p7.2.2) else (1, p7.2.1, p7.2.2))))))))) else (p1.1, p1.2.1, p1.2.2))))) else (bx ((v_203 I L) : Int32 × WI × WL) (fun p8 => (if ¬ p8.1 = 0 then (bx ((rec 202 p8.2.1 p8.2.2) : Int32 × WI × WL) (fun p9 => (if ¬ p9.1 = 0 then (0, (up2 p9.2.1 74 31 ((p9.2.1 74 31) - 1)), p9.2.2) else (1, (up2 p9.2.1 74 31 ((p9.2.1 74 31) - 1)), p9.2.2)))) else (0, p8.2.1, p8.2.2)))))
def g_202 (rec : RECTR) (okr : OKRTR) (I : WI) (L : WL) : Prop := ((g_196 I (110 : Int32) (111 : Int32) (116 : Int32) (0 : Int32) (0 : Int32) (0 : Int32) (0 : Int32)) ∧ ((((v_196 I (110 : Int32) (111 : Int32) (116 : Int32) (0 : Int32) (0 : Int32) (0 : Int32) (0 : Int32) (0 : Int32)) = 0) → ((g_204 rec okr I L) ∧ (bx ((v_204 rec I L) : Int32 × WI × WL) (fun p1 => (((¬ (v_207 p1.2.1 p1.2.2 (60 : Int32)) = 0) → (bx ((if ¬ (lg_cmp (p1.2.2 74 30) 60) = 0 then 0 else 1) : Int32) (fun p2 => ((g_194 p1.2.1 p1.2.2) ∧ (bx ((v_194 p1.2.1 p1.2.2) : WI × WL) (fun p3 => (g_204 rec okr p3.1 p3.2))))))) ∧ (¬ (¬ (v_207 p1.2.1 p1.2.2 (60 : Int32)) = 0) → ((¬ (v_207 p1.2.1 p1.2.2 (61 : Int32)) = 0) → (bx ((if ¬ (lg_cmp (p1.2.2 74 30) 60) = 0 then 0 else 1) : Int32) (fun p5 => ((g_194 p1.2.1 p1.2.2) ∧ (bx ((v_194 p1.2.1 p1.2.2) : WI × WL) (fun p6 => (g_204 rec okr p6.1 p6.2))))))))))))) ∧ (¬ ((v_196 I (110 : Int32) (111 : Int32) (116 : Int32) (0 : Int32) (0 : Int32) (0 : Int32) (0 : Int32) (0 : Int32)) = 0) → ((g_203 I L) ∧ (bx ((v_203 I L) : Int32 × WI × WL) (fun p8 => ((¬ p8.1 = 0) → (okr 202 p8.2.1 p8.2.2))))))))
theorem cc_202 {l : LX} {d : Nat} {I : WI} {F : WF} {L : WL} {t : Nat} {rec : RECTR} {okr : OKRTR} {dr : Nat} (hrec : HRECR l dr rec okr) (hd : dr ≤ d) (hg : g_202 rec okr I L) : Con l 202 (d + 7) 0 0 [.ref 74] SH (I, F, L, RT t) (po_I_IL F t (v_202 rec I L)) := by
  refine cn_202 ?_
  obtain ⟨T1, hT1⟩ : ∃ r : Int32 × WI × WL, r = (v_202 rec I L) := ⟨_, rfl⟩
  rw [← hT1]
  have he := (hT1.trans (v_202.eq_1 ..)).symm
  have hg := Eq.mp (g_202.eq_1 ..) hg
  obtain ⟨k1, hg⟩ := hg
  refine bk_202_0 (cc_196 (d := d + 4)  k1) ?_
  refine bk_202_15 (fun h2 => ?_) (fun h2 => ?_)
  · have he := ite_p h2 he
    have hg := hg.1 h2
    obtain ⟨k3, hg⟩ := hg
    refine bk_202_52 (cq_I_IL (cc_204 (d := d + 0) hrec (by omega)  k3)) ?_
    rintro _ _ _ _ _ ⟨p1, hr, rfl, rfl, rfl, rfl, rfl⟩
    have he := bx_eq hr he
    have hg := bx_un hr hg
    refine bk_202_56 (cc_207 (d := d + 6) ) ?_
    refine bk_202_63 (fun h5 => ?_) (fun h5 => ?_)
    · have he := ite_p h5 he
      have hg := hg.1 h5
      obtain ⟨X1, hX1⟩ : ∃ r : Int32, r = (if ¬ (lg_cmp (p1.2.2 74 30) 60) = 0 then 0 else 1) := ⟨_, rfl⟩
      have J1 : ∀ p2 : Int32, p2 = X1 → Wp l 202 (d + 7) 0 0 (po_I_IL F t T1) 0 0 93 [(0, .ref 74), (1, .int p1.1)] [.int p2] SH (p1.2.1, F, p1.2.2, RT t) := by
        intro p2 hr
        have hr := hr.trans hX1
        have he := bx_eq hr he
        have hg := bx_un hr hg
        obtain ⟨k7, hg⟩ := hg
        refine bk_202_93 (cq_V_IL (cc_194 (d := d + 5)  k7)) ?_
        rintro _ _ _ _ ⟨p3, hr, rfl, rfl, rfl, rfl⟩
        have he := bx_eq hr he
        have hg := bx_un hr hg
        have k8 := hg
        refine bk_202_98 (cq_I_IL (cc_204 (d := d + 0) hrec (by omega)  k8)) ?_
        rintro _ _ _ _ _ ⟨p4, hr, rfl, rfl, rfl, rfl, rfl⟩
        have he := bx_eq hr he
        refine bk_202_102 (fun h9 => ?_) (fun h9 => ?_)
        · have he := ite_p h9 he
          refine bk_202_115 (fun h10 => ?_) (fun h10 => ?_)
          · have he := ite_p h10 he
            refine bk_202_124 ?_
            exact bk_202_125 (rl_I_IL he)
          · have he := ite_n h10 he
            refine bk_202_120 ?_
            exact bk_202_125 (rl_I_IL he)
        · have he := ite_n h9 he
          refine bk_202_107 (fun h11 => ?_) (fun h11 => ?_)
          · have he := ite_p h11 he
            refine bk_202_124 ?_
            exact bk_202_125 (rl_I_IL he)
          · have he := ite_n h11 he
            refine bk_202_112 ?_
            refine bk_202_120 ?_
            exact bk_202_125 (rl_I_IL he)
      have he := hX1.symm
      refine bk_202_77 (fun h6 => ?_) (fun h6 => ?_)
      · have he := ite_p h6 he
        refine bk_202_92 ?_
        exact J1 0 he
      · have he := ite_n h6 he
        refine bk_202_88 ?_
        exact J1 1 he
    · have he := ite_n h5 he
      have hg := hg.2 h5
      refine bk_202_66 (cc_207 (d := d + 6) ) ?_
      refine bk_202_72 (fun h13 => ?_) (fun h13 => ?_)
      · have he := ite_p h13 he
        have hg := hg h13
        obtain ⟨X2, hX2⟩ : ∃ r : Int32, r = (if ¬ (lg_cmp (p1.2.2 74 30) 60) = 0 then 0 else 1) := ⟨_, rfl⟩
        have J2 : ∀ p5 : Int32, p5 = X2 → Wp l 202 (d + 7) 0 0 (po_I_IL F t T1) 0 0 93 [(0, .ref 74), (1, .int p1.1)] [.int p5] SH (p1.2.1, F, p1.2.2, RT t) := by
          intro p5 hr
          have hr := hr.trans hX2
          have he := bx_eq hr he
          have hg := bx_un hr hg
          obtain ⟨k15, hg⟩ := hg
          refine bk_202_93 (cq_V_IL (cc_194 (d := d + 5)  k15)) ?_
          rintro _ _ _ _ ⟨p6, hr, rfl, rfl, rfl, rfl⟩
          have he := bx_eq hr he
          have hg := bx_un hr hg
          have k16 := hg
          refine bk_202_98 (cq_I_IL (cc_204 (d := d + 0) hrec (by omega)  k16)) ?_
          rintro _ _ _ _ _ ⟨p7, hr, rfl, rfl, rfl, rfl, rfl⟩
          have he := bx_eq hr he
          refine bk_202_102 (fun h17 => ?_) (fun h17 => ?_)
          · have he := ite_p h17 he
            refine bk_202_115 (fun h18 => ?_) (fun h18 => ?_)
            · have he := ite_p h18 he
              refine bk_202_124 ?_
              exact bk_202_125 (rl_I_IL he)
            · have he := ite_n h18 he
              refine bk_202_120 ?_
              exact bk_202_125 (rl_I_IL he)
          · have he := ite_n h17 he
            refine bk_202_107 (fun h19 => ?_) (fun h19 => ?_)
            · have he := ite_p h19 he
              refine bk_202_124 ?_
              exact bk_202_125 (rl_I_IL he)
            · have he := ite_n h19 he
              refine bk_202_112 ?_
              refine bk_202_120 ?_
              exact bk_202_125 (rl_I_IL he)
        have he := hX2.symm
        refine bk_202_77 (fun h14 => ?_) (fun h14 => ?_)
        · have he := ite_p h14 he
          refine bk_202_92 ?_
          exact J2 0 he
        · have he := ite_n h14 he
          refine bk_202_88 ?_
          exact J2 1 he
      · have he := ite_n h13 he
        exact bk_202_75 (rl_I_IL he)
  · have he := ite_n h2 he
    have hg := hg.2 h2
    obtain ⟨k20, hg⟩ := hg
    refine bk_202_18 (cq_I_IL (cc_203 (d := d + 4)  k20)) ?_
    rintro _ _ _ _ _ ⟨p8, hr, rfl, rfl, rfl, rfl, rfl⟩
    have he := bx_eq hr he
    have hg := bx_un hr hg
    refine bk_202_22 (fun h21 => ?_) (fun h21 => ?_)
    · have he := ite_p h21 he
      have hg := hg h21
      have k22 := hg
      refine bk_202_27 (cq_I_IL (hrec (d + 6) (by omega) 202 _ F _ t (by simp) k22)) ?_
      rintro _ _ _ _ _ ⟨p9, hr, rfl, rfl, rfl, rfl, rfl⟩
      have he := bx_eq hr he
      refine bk_202_31 (fun h23 => ?_) (fun h23 => ?_)
      · have he := ite_p h23 he
        refine bk_202_50 ?_
        exact bk_202_51 (rl_I_IL he)
      · have he := ite_n h23 he
        refine bk_202_46 ?_
        exact bk_202_51 (rl_I_IL he)
    · have he := ite_n h21 he
      exact bk_202_25 (rl_I_IL he)
/-- the loop at 5 of VectorShelfModel.both -/
def lp_201_5 (rec : RECTR) : Nat → Int32 → WI → WL → Int32 × WI × WL
  | 0, x1, I, L => (x1, I, L)
  | k + 1, x1, I, L => (if (v_196 I (97 : Int32) (110 : Int32) (100 : Int32) (0 : Int32) (0 : Int32) (0 : Int32) (0 : Int32) (0 : Int32)) = 0 then (x1, I, L) else (bx ((v_194 I L) : WI × WL) (fun p2 => (bx ((v_202 rec p2.1 p2.2) : Int32 × WI × WL) (fun p3 => (bx ((if x1 = 0 then 0 else (if p3.1 = 0 then 0 else 1)) : Int32) (fun p4 => (lp_201_5 rec k p4 p3.2.1 p3.2.2))))))))
def gl_201_5 (rec : RECTR) (okr : OKRTR) : Nat → Int32 → WI → WL → Prop
  | 0, _, _, _ => False
  | k + 1, x1, I, L => ((g_196 I (97 : Int32) (110 : Int32) (100 : Int32) (0 : Int32) (0 : Int32) (0 : Int32) (0 : Int32)) ∧ (¬ ((v_196 I (97 : Int32) (110 : Int32) (100 : Int32) (0 : Int32) (0 : Int32) (0 : Int32) (0 : Int32) (0 : Int32)) = 0) → ((g_194 I L) ∧ (bx ((v_194 I L) : WI × WL) (fun p2 => ((g_202 rec okr p2.1 p2.2) ∧ (bx ((v_202 rec p2.1 p2.2) : Int32 × WI × WL) (fun p3 => (bx ((if x1 = 0 then 0 else (if p3.1 = 0 then 0 else 1)) : Int32) (fun p4 => (gl_201_5 rec okr k p4 p3.2.1 p3.2.2)))))))))))
theorem lw_201_5 {l : LX} {d : Nat} {P : RP} {rec : RECTR} {okr : OKRTR} {F : WF} {t : Nat} {dr : Nat} (hrec : HRECR l dr rec okr) (hd : dr ≤ d) : ∀ k : Nat, ∀ (x1 : Int32) (I : WI) (L : WL), gl_201_5 rec okr k x1 I L → (∀ r : Int32 × WI × WL, r = lp_201_5 rec k x1 I L → Wp l 201 (d + 8) 0 0 P 0 0 49 [(1, .int r.1)] [] SH (r.2.1, F, r.2.2, RT t)) → Wp l 201 (d + 8) 0 0 P 0 0 5 [(0, .ref 74), (1, .int x1)] [] SH (I, F, L, RT t) := by
  intro k
  induction k with
  | zero =>
    intro x1 I L hg hx
    exact hg.elim
  | succ k ih =>
    intro x1 I L hg hx
    have hg := Eq.mp (gl_201_5.eq_2 ..) hg
    obtain ⟨T1, hT1⟩ : ∃ r : Int32 × WI × WL, r = lp_201_5 rec (k + 1) x1 I L := ⟨_, rfl⟩
    have hx : ∀ r : Int32 × WI × WL, r = T1 → Wp l 201 (d + 8) 0 0 P 0 0 49 [(1, .int r.1)] [] SH (r.2.1, F, r.2.2, RT t) := fun r hr => hx r (hr.trans hT1)
    have he := (hT1.trans (lp_201_5.eq_2 ..)).symm
    obtain ⟨k2, hg⟩ := hg
    refine bk_201_5 (cc_196 (d := d + 5)  k2) ?_
    refine bk_201_20 (fun h3 => ?_) (fun h3 => ?_)
    · have he := ite_p h3 he
      exact hx (x1, I, L) he
    · have he := ite_n h3 he
      have hg := hg h3
      obtain ⟨k4, hg⟩ := hg
      refine bk_201_23 (cq_V_IL (cc_194 (d := d + 6)  k4)) ?_
      rintro _ _ _ _ ⟨p2, hr, rfl, rfl, rfl, rfl⟩
      have he := bx_eq hr he
      have hg := bx_un hr hg
      obtain ⟨k5, hg⟩ := hg
      refine bk_201_27 (cq_I_IL (cc_202 (d := d + 0) hrec (by omega)  k5)) ?_
      rintro _ _ _ _ _ ⟨p3, hr, rfl, rfl, rfl, rfl, rfl⟩
      have he := bx_eq hr he
      have hg := bx_un hr hg
      obtain ⟨X1, hX1⟩ : ∃ r : Int32, r = (if x1 = 0 then 0 else (if p3.1 = 0 then 0 else 1)) := ⟨_, rfl⟩
      have J1 : ∀ p4 : Int32, p4 = X1 → Wp l 201 (d + 8) 0 0 P 0 0 45 [(0, .ref 74)] [.int p4] SH (p3.2.1, F, p3.2.2, RT t) := by
        intro p4 hr
        have hr := hr.trans hX1
        have he := bx_eq hr he
        have hg := bx_un hr hg
        refine bk_201_45 ?_
        exact ih p4 p3.2.1 p3.2.2 hg (fun r hr => hx r (hr.trans he))
      have he := hX1.symm
      refine bk_201_31 (fun h6 => ?_) (fun h6 => ?_)
      · have he := ite_p h6 he
        refine bk_201_44 ?_
        exact J1 0 he
      · have he := ite_n h6 he
        refine bk_201_36 (fun h7 => ?_) (fun h7 => ?_)
        · have he := ite_p h7 he
          refine bk_201_44 ?_
          exact J1 0 he
        · have he := ite_n h7 he
          refine bk_201_40 ?_
          exact J1 1 he
/-- VectorShelfModel.both()I -/
def v_201 (rec : RECTR) (I : WI) (L : WL) : Int32 × WI × WL := (bx ((v_202 rec I L) : Int32 × WI × WL) (fun p1 => (bx ((lp_201_5 rec 400 p1.1 p1.2.1 p1.2.2) : Int32 × WI × WL) (fun p5 => (p5.1, p5.2.1, p5.2.2)))))
def g_201 (rec : RECTR) (okr : OKRTR) (I : WI) (L : WL) : Prop := ((g_202 rec okr I L) ∧ (bx ((v_202 rec I L) : Int32 × WI × WL) (fun p1 => (gl_201_5 rec okr 400 p1.1 p1.2.1 p1.2.2))))
theorem cc_201 {l : LX} {d : Nat} {I : WI} {F : WF} {L : WL} {t : Nat} {rec : RECTR} {okr : OKRTR} {dr : Nat} (hrec : HRECR l dr rec okr) (hd : dr ≤ d) (hg : g_201 rec okr I L) : Con l 201 (d + 8) 0 0 [.ref 74] SH (I, F, L, RT t) (po_I_IL F t (v_201 rec I L)) := by
  refine cn_201 ?_
  obtain ⟨T1, hT1⟩ : ∃ r : Int32 × WI × WL, r = (v_201 rec I L) := ⟨_, rfl⟩
  rw [← hT1]
  have he := (hT1.trans (v_201.eq_1 ..)).symm
  have hg := Eq.mp (g_201.eq_1 ..) hg
  obtain ⟨k1, hg⟩ := hg
  refine bk_201_0 (cq_I_IL (cc_202 (d := d + 0) hrec (by omega)  k1)) ?_
  rintro _ _ _ _ _ ⟨p1, hr, rfl, rfl, rfl, rfl, rfl⟩
  have he := bx_eq hr he
  have hg := bx_un hr hg
  refine bk_201_4 ?_
  have hgX := hg
  refine lw_201_5 (d := d) hrec (by omega) 400 p1.1 p1.2.1 p1.2.2 hgX (fun p5 hr => ?_)
  have he := bx_eq hr he
  exact bk_201_49 (rl_I_IL he)
/-- the loop at 5 of VectorShelfModel.either -/
def lp_200_5 (rec : RECTR) : Nat → Int32 → WI → WL → Int32 × WI × WL
  | 0, x1, I, L => (x1, I, L)
  | k + 1, x1, I, L => (if (v_196 I (111 : Int32) (114 : Int32) (0 : Int32) (0 : Int32) (0 : Int32) (0 : Int32) (0 : Int32) (0 : Int32)) = 0 then (x1, I, L) else (bx ((v_194 I L) : WI × WL) (fun p2 => (bx ((v_201 rec p2.1 p2.2) : Int32 × WI × WL) (fun p3 => (bx ((if ¬ x1 = 0 then 1 else (if p3.1 = 0 then 0 else 1)) : Int32) (fun p4 => (lp_200_5 rec k p4 p3.2.1 p3.2.2))))))))
def gl_200_5 (rec : RECTR) (okr : OKRTR) : Nat → Int32 → WI → WL → Prop
  | 0, _, _, _ => False
  | k + 1, x1, I, L => ((g_196 I (111 : Int32) (114 : Int32) (0 : Int32) (0 : Int32) (0 : Int32) (0 : Int32) (0 : Int32)) ∧ (¬ ((v_196 I (111 : Int32) (114 : Int32) (0 : Int32) (0 : Int32) (0 : Int32) (0 : Int32) (0 : Int32) (0 : Int32)) = 0) → ((g_194 I L) ∧ (bx ((v_194 I L) : WI × WL) (fun p2 => ((g_201 rec okr p2.1 p2.2) ∧ (bx ((v_201 rec p2.1 p2.2) : Int32 × WI × WL) (fun p3 => (bx ((if ¬ x1 = 0 then 1 else (if p3.1 = 0 then 0 else 1)) : Int32) (fun p4 => (gl_200_5 rec okr k p4 p3.2.1 p3.2.2)))))))))))
theorem lw_200_5 {l : LX} {d : Nat} {P : RP} {rec : RECTR} {okr : OKRTR} {F : WF} {t : Nat} {dr : Nat} (hrec : HRECR l dr rec okr) (hd : dr ≤ d) : ∀ k : Nat, ∀ (x1 : Int32) (I : WI) (L : WL), gl_200_5 rec okr k x1 I L → (∀ r : Int32 × WI × WL, r = lp_200_5 rec k x1 I L → Wp l 200 (d + 9) 0 0 P 0 0 48 [(1, .int r.1)] [] SH (r.2.1, F, r.2.2, RT t)) → Wp l 200 (d + 9) 0 0 P 0 0 5 [(0, .ref 74), (1, .int x1)] [] SH (I, F, L, RT t) := by
  intro k
  induction k with
  | zero =>
    intro x1 I L hg hx
    exact hg.elim
  | succ k ih =>
    intro x1 I L hg hx
    have hg := Eq.mp (gl_200_5.eq_2 ..) hg
    obtain ⟨T1, hT1⟩ : ∃ r : Int32 × WI × WL, r = lp_200_5 rec (k + 1) x1 I L := ⟨_, rfl⟩
    have hx : ∀ r : Int32 × WI × WL, r = T1 → Wp l 200 (d + 9) 0 0 P 0 0 48 [(1, .int r.1)] [] SH (r.2.1, F, r.2.2, RT t) := fun r hr => hx r (hr.trans hT1)
    have he := (hT1.trans (lp_200_5.eq_2 ..)).symm
    obtain ⟨k2, hg⟩ := hg
    refine bk_200_5 (cc_196 (d := d + 6)  k2) ?_
    refine bk_200_19 (fun h3 => ?_) (fun h3 => ?_)
    · have he := ite_p h3 he
      exact hx (x1, I, L) he
    · have he := ite_n h3 he
      have hg := hg h3
      obtain ⟨k4, hg⟩ := hg
      refine bk_200_22 (cq_V_IL (cc_194 (d := d + 7)  k4)) ?_
      rintro _ _ _ _ ⟨p2, hr, rfl, rfl, rfl, rfl⟩
      have he := bx_eq hr he
      have hg := bx_un hr hg
      obtain ⟨k5, hg⟩ := hg
      refine bk_200_26 (cq_I_IL (cc_201 (d := d + 0) hrec (by omega)  k5)) ?_
      rintro _ _ _ _ _ ⟨p3, hr, rfl, rfl, rfl, rfl, rfl⟩
      have he := bx_eq hr he
      have hg := bx_un hr hg
      obtain ⟨X1, hX1⟩ : ∃ r : Int32, r = (if ¬ x1 = 0 then 1 else (if p3.1 = 0 then 0 else 1)) := ⟨_, rfl⟩
      have J1 : ∀ p4 : Int32, p4 = X1 → Wp l 200 (d + 9) 0 0 P 0 0 44 [(0, .ref 74)] [.int p4] SH (p3.2.1, F, p3.2.2, RT t) := by
        intro p4 hr
        have hr := hr.trans hX1
        have he := bx_eq hr he
        have hg := bx_un hr hg
        refine bk_200_44 ?_
        exact ih p4 p3.2.1 p3.2.2 hg (fun r hr => hx r (hr.trans he))
      have he := hX1.symm
      refine bk_200_30 (fun h6 => ?_) (fun h6 => ?_)
      · have he := ite_p h6 he
        refine bk_200_39 ?_
        exact J1 1 he
      · have he := ite_n h6 he
        refine bk_200_35 (fun h7 => ?_) (fun h7 => ?_)
        · have he := ite_p h7 he
          refine bk_200_43 ?_
          exact J1 0 he
        · have he := ite_n h7 he
          refine bk_200_39 ?_
          exact J1 1 he
/-- VectorShelfModel.either()I -/
def v_200 (rec : RECTR) (I : WI) (L : WL) : Int32 × WI × WL := (bx ((v_201 rec I L) : Int32 × WI × WL) (fun p1 => (bx ((lp_200_5 rec 400 p1.1 p1.2.1 p1.2.2) : Int32 × WI × WL) (fun p5 => (p5.1, p5.2.1, p5.2.2)))))
def g_200 (rec : RECTR) (okr : OKRTR) (I : WI) (L : WL) : Prop := ((g_201 rec okr I L) ∧ (bx ((v_201 rec I L) : Int32 × WI × WL) (fun p1 => (gl_200_5 rec okr 400 p1.1 p1.2.1 p1.2.2))))
theorem cc_200 {l : LX} {d : Nat} {I : WI} {F : WF} {L : WL} {t : Nat} {rec : RECTR} {okr : OKRTR} {dr : Nat} (hrec : HRECR l dr rec okr) (hd : dr ≤ d) (hg : g_200 rec okr I L) : Con l 200 (d + 9) 0 0 [.ref 74] SH (I, F, L, RT t) (po_I_IL F t (v_200 rec I L)) := by
  refine cn_200 ?_
  obtain ⟨T1, hT1⟩ : ∃ r : Int32 × WI × WL, r = (v_200 rec I L) := ⟨_, rfl⟩
  rw [← hT1]
  have he := (hT1.trans (v_200.eq_1 ..)).symm
  have hg := Eq.mp (g_200.eq_1 ..) hg
  obtain ⟨k1, hg⟩ := hg
  refine bk_200_0 (cq_I_IL (cc_201 (d := d + 0) hrec (by omega)  k1)) ?_
  rintro _ _ _ _ _ ⟨p1, hr, rfl, rfl, rfl, rfl, rfl⟩
  have he := bx_eq hr he
  have hg := bx_un hr hg
  refine bk_200_4 ?_
  have hgX := hg
  refine lw_200_5 (d := d) hrec (by omega) 400 p1.1 p1.2.1 p1.2.2 hgX (fun p5 hr => ?_)
  have he := bx_eq hr he
  exact bk_200_48 (rl_I_IL he)
end
