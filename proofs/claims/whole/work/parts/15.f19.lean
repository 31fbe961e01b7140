section
/-- the loop at 5 of VectorShelfModel.term -/
def lp_205_5 (rec : RECTR) : Nat → Int32 → WI → WL → Int32 × WI × WL
  | 0, x1, I, L => (x1, I, L)
  | k + 1, x1, I, L => (if (v_207 I L (42 : Int32)) = 0 then (x1, I, L) else (bx ((v_194 I L) : WI × WL) (fun p2 => (bx ((v_206 rec p2.1 p2.2) : Int32 × WI × WL) (fun p3 => (lp_205_5 rec k (x1 * p3.1) p3.2.1 p3.2.2))))))
def gl_205_5 (rec : RECTR) (okr : OKRTR) : Nat → Int32 → WI → WL → Prop
  | 0, _, _, _ => False
  | k + 1, x1, I, L => (¬ ((v_207 I L (42 : Int32)) = 0) → ((g_194 I L) ∧ (bx ((v_194 I L) : WI × WL) (fun p2 => ((g_206 rec okr p2.1 p2.2) ∧ (bx ((v_206 rec p2.1 p2.2) : Int32 × WI × WL) (fun p3 => (gl_205_5 rec okr k (x1 * p3.1) p3.2.1 p3.2.2))))))))
theorem lw_205_5 {l : LX} {d : Nat} {P : RP} {rec : RECTR} {okr : OKRTR} {F : WF} {t : Nat} {dr : Nat} (hrec : HRECR l dr rec okr) (hd : dr ≤ d) : ∀ k : Nat, ∀ (x1 : Int32) (I : WI) (L : WL), gl_205_5 rec okr k x1 I L → (∀ r : Int32 × WI × WL, r = lp_205_5 rec k x1 I L → Wp l 205 (d + 5) 0 0 P 0 0 28 [(1, .int r.1)] [] SH (r.2.1, F, r.2.2, RT t)) → Wp l 205 (d + 5) 0 0 P 0 0 5 [(0, .ref 74), (1, .int x1)] [] SH (I, F, L, RT t) := by
  intro k
  induction k with
  | zero =>
    intro x1 I L hg hx
    exact hg.elim
  | succ k ih =>
    intro x1 I L hg hx
    have hg := Eq.mp (gl_205_5.eq_2 ..) hg
    obtain ⟨T1, hT1⟩ : ∃ r : Int32 × WI × WL, r = lp_205_5 rec (k + 1) x1 I L := ⟨_, rfl⟩
    have hx : ∀ r : Int32 × WI × WL, r = T1 → Wp l 205 (d + 5) 0 0 P 0 0 28 [(1, .int r.1)] [] SH (r.2.1, F, r.2.2, RT t) := fun r hr => hx r (hr.trans hT1)
    have he := (hT1.trans (lp_205_5.eq_2 ..)).symm
    refine bk_205_5 (cc_207 (d := d + 4) ) ?_
    refine bk_205_11 (fun h3 => ?_) (fun h3 => ?_)
    · have he := ite_p h3 he
      exact hx _ he
    · have he := ite_n h3 he
      have hg := hg h3
      obtain ⟨k4, hg⟩ := hg
      refine bk_205_14 (cq_V_IL (cc_194 (d := d + 3)  k4)) ?_
      rintro _ _ _ _ ⟨p2, hr, rfl, rfl, rfl, rfl⟩
      have he := bx_eq hr he
      have hg := bx_un hr hg
      obtain ⟨k5, hg⟩ := hg
      refine bk_205_18 (cq_I_IL (cc_206 (d := d + 0) hrec (by omega)  k5)) ?_
      rintro _ _ _ _ _ ⟨p3, hr, rfl, rfl, rfl, rfl, rfl⟩
      have he := bx_eq hr he
      have hg := bx_un hr hg
      refine bk_205_23 ?_
      exact ih _ _ _ hg (fun r hr => hx r (hr.trans he))
/-- VectorShelfModel.term()I -/
def v_205 (rec : RECTR) (I : WI) (L : WL) : Int32 × WI × WL := (bx ((v_206 rec I L) : Int32 × WI × WL) (fun p1 => (bx ((lp_205_5 rec 400 p1.1 p1.2.1 p1.2.2) : Int32 × WI × WL) (fun p4 => (p4.1, p4.2.1, p4.2.2)))))
def g_205 (rec : RECTR) (okr : OKRTR) (I : WI) (L : WL) : Prop := ((g_206 rec okr I L) ∧ (bx ((v_206 rec I L) : Int32 × WI × WL) (fun p1 => (gl_205_5 rec okr 400 p1.1 p1.2.1 p1.2.2))))
theorem cc_205 {l : LX} {d : Nat} {I : WI} {F : WF} {L : WL} {t : Nat} {rec : RECTR} {okr : OKRTR} {dr : Nat} (hrec : HRECR l dr rec okr) (hd : dr ≤ d) (hg : g_205 rec okr I L) : Con l 205 (d + 5) 0 0 [.ref 74] SH (I, F, L, RT t) (po_I_IL F t (v_205 rec I L)) := by
  refine cn_205 ?_
  obtain ⟨T1, hT1⟩ : ∃ r : Int32 × WI × WL, r = (v_205 rec I L) := ⟨_, rfl⟩
  rw [← hT1]
  have he := (hT1.trans (v_205.eq_1 ..)).symm
  have hg := Eq.mp (g_205.eq_1 ..) hg
  obtain ⟨k1, hg⟩ := hg
  refine bk_205_0 (cq_I_IL (cc_206 (d := d + 0) hrec (by omega)  k1)) ?_
  rintro _ _ _ _ _ ⟨p1, hr, rfl, rfl, rfl, rfl, rfl⟩
  have he := bx_eq hr he
  have hg := bx_un hr hg
  refine bk_205_4 ?_
  have hgX := hg
  refine lw_205_5 (d := d) hrec (by omega) 400 _ _ _ hgX (fun p4 hr => ?_)
  have he := bx_eq hr he
  exact bk_205_28 (rl_I_IL he)
/-- the loop at 5 of VectorShelfModel.added -/
def lp_204_5 (rec : RECTR) : Nat → Int32 → WI → WL → Int32 × WI × WL
  | 0, x1, I, L => (x1, I, L)
  | k + 1, x1, I, L => (if ¬ (v_207 I L (43 : Int32)) = 0 then (bx ((if ¬ (lg_cmp (L 74 30) 43) = 0 then 0 else 1) : Int32) (fun p2 => (bx ((v_194 I L) : WI × WL) (fun p3 => (bx ((v_205 rec p3.1 p3.2) : Int32 × WI × WL) (fun p4 => (bx ((if p2 = 0 then (x1 - p4.1) else (x1 + p4.1)) : Int32) (fun p5 => (lp_204_5 rec k p5 p4.2.1 p4.2.2))))))))) else (if (v_207 I L (45 : Int32)) = 0 then (x1, I, L) else (bx ((if ¬ (lg_cmp (L 74 30) 43) = 0 then 0 else 1) : Int32) (fun p6 => (bx ((v_194 I L) : WI × WL) (fun p7 => (bx ((v_205 rec p7.1 p7.2) : Int32 × WI × WL) (fun p8 => (bx ((if p6 = 0 then (x1 - p8.1) else (x1 + p8.1)) : Int32) (fun p9 => (lp_204_5 rec k p9 p8.2.1 p8.2.2)))))))))))
def gl_204_5 (rec : RECTR) (okr : OKRTR) : Nat → Int32 → WI → WL → Prop
  | 0, _, _, _ => False
  | k + 1, x1, I, L => (((¬ (v_207 I L (43 : Int32)) = 0) → (bx ((if ¬ (lg_cmp (L 74 30) 43) = 0 then 0 else 1) : Int32) (fun p2 => ((g_194 I L) ∧ (bx ((v_194 I L) : WI × WL) (fun p3 => ((g_205 rec okr p3.1 p3.2) ∧ (bx ((v_205 rec p3.1 p3.2) : Int32 × WI × WL) (fun p4 => (bx ((if p2 = 0 then (x1 - p4.1) else (x1 + p4.1)) : Int32) (fun p5 => (gl_204_5 rec okr k p5 p4.2.1 p4.2.2)))))))))))) ∧ (¬ (¬ (v_207 I L (43 : Int32)) = 0) → (¬ ((v_207 I L (45 : Int32)) = 0) → (bx ((if ¬ (lg_cmp (L 74 30) 43) = 0 then 0 else 1) : Int32) (fun p6 => ((g_194 I L) ∧ (bx ((v_194 I L) : WI × WL) (fun p7 => ((g_205 rec okr p7.1 p7.2) ∧ (bx ((v_205 rec p7.1 p7.2) : Int32 × WI × WL) (fun p8 => (bx ((if p6 = 0 then (x1 - p8.1) else (x1 + p8.1)) : Int32) (fun p9 => (gl_204_5 rec okr k p9 p8.2.1 p8.2.2))))))))))))))
theorem lw_204_5 {l : LX} {d : Nat} {P : RP} {rec : RECTR} {okr : OKRTR} {F : WF} {t : Nat} {dr : Nat} (hrec : HRECR l dr rec okr) (hd : dr ≤ d) : ∀ k : Nat, ∀ (x1 : Int32) (I : WI) (L : WL), gl_204_5 rec okr k x1 I L → (∀ r : Int32 × WI × WL, r = lp_204_5 rec k x1 I L → Wp l 204 (d + 6) 0 0 P 0 0 66 [(1, .int r.1)] [] SH (r.2.1, F, r.2.2, RT t)) → Wp l 204 (d + 6) 0 0 P 0 0 5 [(0, .ref 74), (1, .int x1)] [] SH (I, F, L, RT t) := by
  intro k
  induction k with
  | zero =>
    intro x1 I L hg hx
    exact hg.elim
  | succ k ih =>
    intro x1 I L hg hx
    have hg := Eq.mp (gl_204_5.eq_2 ..) hg
    obtain ⟨T1, hT1⟩ : ∃ r : Int32 × WI × WL, r = lp_204_5 rec (k + 1) x1 I L := ⟨_, rfl⟩
    have hx : ∀ r : Int32 × WI × WL, r = T1 → Wp l 204 (d + 6) 0 0 P 0 0 66 [(1, .int r.1)] [] SH (r.2.1, F, r.2.2, RT t) := fun r hr => hx r (hr.trans hT1)
    have he := (hT1.trans (lp_204_5.eq_2 ..)).symm
    refine bk_204_5 (cc_207 (d := d + 5) ) ?_
    refine bk_204_11 (fun h3 => ?_) (fun h3 => ?_)
    · have he := ite_p h3 he
      have hg := hg.1 h3
      obtain ⟨X4, hX4⟩ : ∃ r : Int32, r = (if ¬ (lg_cmp (L 74 30) 43) = 0 then 0 else 1) := ⟨_, rfl⟩
      have J4 : ∀ p2 : Int32, p2 = X4 → Wp l 204 (d + 6) 0 0 P 0 0 39 [(0, .ref 74), (1, .int x1)] [.int p2] SH (I, F, L, RT t) := by
        intro p2 hr
        have hr := hr.trans hX4
        have he := bx_eq hr he
        have hg := bx_un hr hg
        obtain ⟨k5, hg⟩ := hg
        refine bk_204_39 (cq_V_IL (cc_194 (d := d + 4)  k5)) ?_
        rintro _ _ _ _ ⟨p3, hr, rfl, rfl, rfl, rfl⟩
        have he := bx_eq hr he
        have hg := bx_un hr hg
        obtain ⟨k6, hg⟩ := hg
        refine bk_204_44 (cq_I_IL (cc_205 (d := d + 0) hrec (by omega)  k6)) ?_
        rintro _ _ _ _ _ ⟨p4, hr, rfl, rfl, rfl, rfl, rfl⟩
        have he := bx_eq hr he
        have hg := bx_un hr hg
        obtain ⟨X5, hX5⟩ : ∃ r : Int32, r = (if p2 = 0 then (x1 - p4.1) else (x1 + p4.1)) := ⟨_, rfl⟩
        have J5 : ∀ p5 : Int32, p5 = X5 → Wp l 204 (d + 6) 0 0 P 0 0 62 [(0, .ref 74)] [.int p5] SH (p4.2.1, F, p4.2.2, RT t) := by
          intro p5 hr
          have hr := hr.trans hX5
          have he := bx_eq hr he
          have hg := bx_un hr hg
          refine bk_204_62 ?_
          exact ih _ _ _ hg (fun r hr => hx r (hr.trans he))
        have he := hX5.symm
        refine bk_204_48 (fun h7 => ?_) (fun h7 => ?_)
        · have he := ite_p h7 he
          refine bk_204_59 ?_
          exact J5 _ he
        · have he := ite_n h7 he
          refine bk_204_53 ?_
          exact J5 _ he
      have he := hX4.symm
      refine bk_204_23 (fun h4 => ?_) (fun h4 => ?_)
      · have he := ite_p h4 he
        refine bk_204_38 ?_
        exact J4 _ he
      · have he := ite_n h4 he
        refine bk_204_34 ?_
        exact J4 _ he
    · have he := ite_n h3 he
      have hg := hg.2 h3
      refine bk_204_14 (cc_207 (d := d + 5) ) ?_
      refine bk_204_20 (fun h9 => ?_) (fun h9 => ?_)
      · have he := ite_p h9 he
        exact hx _ he
      · have he := ite_n h9 he
        have hg := hg h9
        obtain ⟨X6, hX6⟩ : ∃ r : Int32, r = (if ¬ (lg_cmp (L 74 30) 43) = 0 then 0 else 1) := ⟨_, rfl⟩
        have J6 : ∀ p6 : Int32, p6 = X6 → Wp l 204 (d + 6) 0 0 P 0 0 39 [(0, .ref 74), (1, .int x1)] [.int p6] SH (I, F, L, RT t) := by
          intro p6 hr
          have hr := hr.trans hX6
          have he := bx_eq hr he
          have hg := bx_un hr hg
          obtain ⟨k11, hg⟩ := hg
          refine bk_204_39 (cq_V_IL (cc_194 (d := d + 4)  k11)) ?_
          rintro _ _ _ _ ⟨p7, hr, rfl, rfl, rfl, rfl⟩
          have he := bx_eq hr he
          have hg := bx_un hr hg
          obtain ⟨k12, hg⟩ := hg
          refine bk_204_44 (cq_I_IL (cc_205 (d := d + 0) hrec (by omega)  k12)) ?_
          rintro _ _ _ _ _ ⟨p8, hr, rfl, rfl, rfl, rfl, rfl⟩
          have he := bx_eq hr he
          have hg := bx_un hr hg
          obtain ⟨X7, hX7⟩ : ∃ r : Int32, r = (if p6 = 0 then (x1 - p8.1) else (x1 + p8.1)) := ⟨_, rfl⟩
          have J7 : ∀ p9 : Int32, p9 = X7 → Wp l 204 (d + 6) 0 0 P 0 0 62 [(0, .ref 74)] [.int p9] SH (p8.2.1, F, p8.2.2, RT t) := by
            intro p9 hr
            have hr := hr.trans hX7
            have he := bx_eq hr he
            have hg := bx_un hr hg
            refine bk_204_62 ?_
            exact ih _ _ _ hg (fun r hr => hx r (hr.trans he))
          have he := hX7.symm
          refine bk_204_48 (fun h13 => ?_) (fun h13 => ?_)
          · have he := ite_p h13 he
            refine bk_204_59 ?_
            exact J7 _ he
          · have he := ite_n h13 he
            refine bk_204_53 ?_
            exact J7 _ he
        have he := hX6.symm
        refine bk_204_23 (fun h10 => ?_) (fun h10 => ?_)
        · have he := ite_p h10 he
          refine bk_204_38 ?_
          exact J6 _ he
        · have he := ite_n h10 he
          refine bk_204_34 ?_
          exact J6 _ he
/-- VectorShelfModel.added()I -/
def v_204 (rec : RECTR) (I : WI) (L : WL) : Int32 × WI × WL := (bx ((v_205 rec I L) : Int32 × WI × WL) (fun p1 => (bx ((lp_204_5 rec 400 p1.1 p1.2.1 p1.2.2) : Int32 × WI × WL) (fun p10 => (p10.1, p10.2.1, p10.2.2)))))
def g_204 (rec : RECTR) (okr : OKRTR) (I : WI) (L : WL) : Prop := ((g_205 rec okr I L) ∧ (bx ((v_205 rec I L) : Int32 × WI × WL) (fun p1 => (gl_204_5 rec okr 400 p1.1 p1.2.1 p1.2.2))))
theorem cc_204 {l : LX} {d : Nat} {I : WI} {F : WF} {L : WL} {t : Nat} {rec : RECTR} {okr : OKRTR} {dr : Nat} (hrec : HRECR l dr rec okr) (hd : dr ≤ d) (hg : g_204 rec okr I L) : Con l 204 (d + 6) 0 0 [.ref 74] SH (I, F, L, RT t) (po_I_IL F t (v_204 rec I L)) := by
  refine cn_204 ?_
  obtain ⟨T1, hT1⟩ : ∃ r : Int32 × WI × WL, r = (v_204 rec I L) := ⟨_, rfl⟩
  rw [← hT1]
  have he := (hT1.trans (v_204.eq_1 ..)).symm
  have hg := Eq.mp (g_204.eq_1 ..) hg
  obtain ⟨k1, hg⟩ := hg
  refine bk_204_0 (cq_I_IL (cc_205 (d := d + 0) hrec (by omega)  k1)) ?_
  rintro _ _ _ _ _ ⟨p1, hr, rfl, rfl, rfl, rfl, rfl⟩
  have he := bx_eq hr he
  have hg := bx_un hr hg
  refine bk_204_4 ?_
  have hgX := hg
  refine lw_204_5 (d := d) hrec (by omega) 400 _ _ _ hgX (fun p10 hr => ?_)
  have he := bx_eq hr he
  exact bk_204_66 (rl_I_IL he)
/-- VectorShelfModel.not()I -/
def v_202 (rec : RECTR) (I : WI) (L : WL) : Int32 × WI × WL := (if (v_196 I (110 : Int32) (111 : Int32) (116 : Int32) (0 : Int32) (0 : Int32) (0 : Int32) (0 : Int32) (0 : Int32)) = 0 then (bx ((v_204 rec I L) : Int32 × WI × WL) (fun p1 => (if ¬ (v_207 p1.2.1 p1.2.2 (60 : Int32)) = 0 then (bx ((if ¬ (lg_cmp (p1.2.2 74 30) 60) = 0 then 0 else 1) : Int32) (fun p2 => (bx ((v_194 p1.2.1 p1.2.2) : WI × WL) (fun p3 => (bx ((v_204 rec p3.1 p3.2) : Int32 × WI × WL) (fun p4 => (if p2 = 0 then (if ¬ p1.1 = p4.1 then (0, p4.2.1, p4.2.2) else (1, p4.2.1, p4.2.2)) else (if p4.1 ≤ p1.1 then (0, p4.2.1, p4.2.2) else (1, p4.2.1, p4.2.2))))))))) else (if ¬ (v_207 p1.2.1 p1.2.2 (61 : Int32)) = 0 then (bx ((if ¬ (lg_cmp (p1.2.2 74 30) 60) = 0 then 0 else 1) : Int32) (fun p5 => (bx ((v_194 p1.2.1 p1.2.2) : WI × WL) (fun p6 => (bx ((v_204 rec p6.1 p6.2) : Int32 × WI × WL) (fun p7 => (if p5 = 0 then (if ¬ p1.1 = p7.1 then (0, p7.2.1, p7.2.2) else (1, p7.2.1, p7.2.2)) else (if p7.1 ≤ p1.1 then (0, p7.2.1, p7.2.2) else (1, p7.2.1, p7.2.2))))))))) else (p1.1, p1.2.1, p1.2.2))))) else (bx ((v_203 I L) : Int32 × WI × WL) (fun p8 => (if ¬ p8.1 = 0 then (bx ((rec 202 p8.2.1 p8.2.2) : Int32 × WI × WL) (fun p9 => (if ¬ p9.1 = 0 then (0, (up2 p9.2.1 74 31 ((p9.2.1 74 31) - 1)), p9.2.2) else (1, (up2 p9.2.1 74 31 ((p9.2.1 74 31) - 1)), p9.2.2)))) else (0, p8.2.1, p8.2.2)))))
def g_202 (rec : RECTR) (okr : OKRTR) (I : WI) (L : WL) : Prop := ((g_196 I (110 : Int32) (111 : Int32) (116 : Int32) (0 : Int32) (0 : Int32) (0 : Int32) (0 : Int32)) ∧ ((((v_196 I (110 : Int32) (111 : Int32) (116 : Int32) (0 : Int32) (0 : Int32) (0 : Int32) (0 : Int32) (0 : Int32)) = 0) → ((g_204 rec okr I L) ∧ (bx ((v_204 rec I L) : Int32 × WI × WL) (fun p1 => (((¬ (v_207 p1.2.1 p1.2.2 (60 : Int32)) = 0) → (bx ((if ¬ (lg_cmp (p1.2.2 74 30) 60) = 0 then 0 else 1) : Int32) (fun p2 => ((g_194 p1.2.1 p1.2.2) ∧ (bx ((v_194 p1.2.1 p1.2.2) : WI × WL) (fun p3 => (g_204 rec okr p3.1 p3.2))))))) ∧ (¬ (¬ (v_207 p1.2.1 p1.2.2 (60 : Int32)) = 0) → ((¬ (v_207 p1.2.1 p1.2.2 (61 : Int32)) = 0) → (bx ((if ¬ (lg_cmp (p1.2.2 74 30) 60) = 0 then 0 else 1) : Int32) (fun p5 => ((g_194 p1.2.1 p1.2.2) ∧ (bx ((v_194 p1.2.1 p1.2.2) : WI × WL) (fun p6 => (g_204 rec okr p6.1 p6.2))))))))))))) ∧ (¬ ((v_196 I (110 : Int32) (111 : Int32) (116 : Int32) (0 : Int32) (0 : Int32) (0 : Int32) (0 : Int32) (0 : Int32)) = 0) → ((g_203 I L) ∧ (bx ((v_203 I L) : Int32 × WI × WL) (fun p8 => ((¬ p8.1 = 0) → (okr 202 p8.2.1 p8.2.2))))))))
theorem cc_202 {l : LX} {d : Nat} {I : WI} {F : WF} {L : WL} {t : Nat} {rec : RECTR} {okr : OKRTR} {dr : Nat} (hrec : HRECR l dr rec okr) (hd : dr ≤ d) (hg : g_202 rec okr I L) : Con l 202 (d + 7) 0 0 [.ref 74] SH (I, F, L, RT t) (po_I_IL F t (v_202 rec I L)) := by
  refine cn_202 ?_
  obtain ⟨T1, hT1⟩ : ∃ r : Int32 × WI × WL, r = (v_202 rec I L) := ⟨_, rfl⟩
  rw [← hT1]
  have he := (hT1.trans (v_202.eq_1 ..)).symm
  have hg := Eq.mp (g_202.eq_1 ..) hg
  obtain ⟨k1, hg⟩ := hg
  refine bk_202_0 (cc_196 (d := d + 4)  k1) ?_
  refine bk_202_15 (fun h2 => ?_) (fun h2 => ?_)
  · have he := ite_p h2 he
    have hg := hg.1 h2
    obtain ⟨k3, hg⟩ := hg
    refine bk_202_52 (cq_I_IL (cc_204 (d := d + 0) hrec (by omega)  k3)) ?_
    rintro _ _ _ _ _ ⟨p1, hr, rfl, rfl, rfl, rfl, rfl⟩
    have he := bx_eq hr he
    have hg := bx_un hr hg
    refine bk_202_56 (cc_207 (d := d + 6) ) ?_
    refine bk_202_63 (fun h5 => ?_) (fun h5 => ?_)
    · have he := ite_p h5 he
      have hg := hg.1 h5
      obtain ⟨X1, hX1⟩ : ∃ r : Int32, r = (if ¬ (lg_cmp (p1.2.2 74 30) 60) = 0 then 0 else 1) := ⟨_, rfl⟩
      have J1 : ∀ p2 : Int32, p2 = X1 → Wp l 202 (d + 7) 0 0 (po_I_IL F t T1) 0 0 93 [(0, .ref 74), (1, .int p1.1)] [.int p2] SH (p1.2.1, F, p1.2.2, RT t) := by
        intro p2 hr
        have hr := hr.trans hX1
        have he := bx_eq hr he
        have hg := bx_un hr hg
        obtain ⟨k7, hg⟩ := hg
        refine bk_202_93 (cq_V_IL (cc_194 (d := d + 5)  k7)) ?_
        rintro _ _ _ _ ⟨p3, hr, rfl, rfl, rfl, rfl⟩
        have he := bx_eq hr he
        have hg := bx_un hr hg
        have k8 := hg
        refine bk_202_98 (cq_I_IL (cc_204 (d := d + 0) hrec (by omega)  k8)) ?_
        rintro _ _ _ _ _ ⟨p4, hr, rfl, rfl, rfl, rfl, rfl⟩
        have he := bx_eq hr he
        refine bk_202_102 (fun h9 => ?_) (fun h9 => ?_)
        · have he := ite_p h9 he
          refine bk_202_115 (fun h10 => ?_) (fun h10 => ?_)
          · have he := ite_p h10 he
            refine bk_202_124 ?_
            exact bk_202_125 (rl_I_IL he)
          · have he := ite_n h10 he
            refine bk_202_120 ?_
            exact bk_202_125 (rl_I_IL he)
        · have he := ite_n h9 he
          refine bk_202_107 (fun h11 => ?_) (fun h11 => ?_)
          · have he := ite_p h11 he
            refine bk_202_124 ?_
            exact bk_202_125 (rl_I_IL he)
          · have he := ite_n h11 he
            refine bk_202_112 ?_
            refine bk_202_120 ?_
            exact bk_202_125 (rl_I_IL he)
      have he := hX1.symm
      refine bk_202_77 (fun h6 => ?_) (fun h6 => ?_)
      · have he := ite_p h6 he
        refine bk_202_92 ?_
        exact J1 _ he
      · have he := ite_n h6 he
        refine bk_202_88 ?_
        exact J1 _ he
    · have he := ite_n h5 he
      have hg := hg.2 h5
      refine bk_202_66 (cc_207 (d := d + 6) ) ?_
      refine bk_202_72 (fun h13 => ?_) (fun h13 => ?_)
      · have he := ite_p h13 he
        have hg := hg h13
        obtain ⟨X2, hX2⟩ : ∃ r : Int32, r = (if ¬ (lg_cmp (p1.2.2 74 30) 60) = 0 then 0 else 1) := ⟨_, rfl⟩
        have J2 : ∀ p5 : Int32, p5 = X2 → Wp l 202 (d + 7) 0 0 (po_I_IL F t T1) 0 0 93 [(0, .ref 74), (1, .int p1.1)] [.int p5] SH (p1.2.1, F, p1.2.2, RT t) := by
          intro p5 hr
          have hr := hr.trans hX2
          have he := bx_eq hr he
          have hg := bx_un hr hg
          obtain ⟨k15, hg⟩ := hg
          refine bk_202_93 (cq_V_IL (cc_194 (d := d + 5)  k15)) ?_
          rintro _ _ _ _ ⟨p6, hr, rfl, rfl, rfl, rfl⟩
          have he := bx_eq hr he
          have hg := bx_un hr hg
          have k16 := hg
          refine bk_202_98 (cq_I_IL (cc_204 (d := d + 0) hrec (by omega)  k16)) ?_
          rintro _ _ _ _ _ ⟨p7, hr, rfl, rfl, rfl, rfl, rfl⟩
          have he := bx_eq hr he
          refine bk_202_102 (fun h17 => ?_) (fun h17 => ?_)
          · have he := ite_p h17 he
            refine bk_202_115 (fun h18 => ?_) (fun h18 => ?_)
            · have he := ite_p h18 he
              refine bk_202_124 ?_
              exact bk_202_125 (rl_I_IL he)
            · have he := ite_n h18 he
              refine bk_202_120 ?_
              exact bk_202_125 (rl_I_IL he)
          · have he := ite_n h17 he
            refine bk_202_107 (fun h19 => ?_) (fun h19 => ?_)
            · have he := ite_p h19 he
              refine bk_202_124 ?_
              exact bk_202_125 (rl_I_IL he)
            · have he := ite_n h19 he
              refine bk_202_112 ?_
              refine bk_202_120 ?_
              exact bk_202_125 (rl_I_IL he)
        have he := hX2.symm
        refine bk_202_77 (fun h14 => ?_) (fun h14 => ?_)
        · have he := ite_p h14 he
          refine bk_202_92 ?_
          exact J2 _ he
        · have he := ite_n h14 he
          refine bk_202_88 ?_
          exact J2 _ he
      · have he := ite_n h13 he
        exact bk_202_75 (rl_I_IL he)
  · have he := ite_n h2 he
    have hg := hg.2 h2
    obtain ⟨k20, hg⟩ := hg
    refine bk_202_18 (cq_I_IL (cc_203 (d := d + 4)  k20)) ?_
    rintro _ _ _ _ _ ⟨p8, hr, rfl, rfl, rfl, rfl, rfl⟩
    have he := bx_eq hr he
    have hg := bx_un hr hg
    refine bk_202_22 (fun h21 => ?_) (fun h21 => ?_)
    · have he := ite_p h21 he
      have hg := hg h21
      have k22 := hg
      refine bk_202_27 (cq_I_IL (hrec (d + 6) (by omega) 202 _ F _ t (by simp) k22)) ?_
      rintro _ _ _ _ _ ⟨p9, hr, rfl, rfl, rfl, rfl, rfl⟩
      have he := bx_eq hr he
      refine bk_202_31 (fun h23 => ?_) (fun h23 => ?_)
      · have he := ite_p h23 he
        refine bk_202_50 ?_
        exact bk_202_51 (rl_I_IL he)
      · have he := ite_n h23 he
        refine bk_202_46 ?_
        exact bk_202_51 (rl_I_IL he)
    · have he := ite_n h21 he
      exact bk_202_25 (rl_I_IL he)
/-- the loop at 5 of VectorShelfModel.both -/
def lp_201_5 (rec : RECTR) : Nat → Int32 → WI → WL → Int32 × WI × WL
  | 0, x1, I, L => (x1, I, L)
  | k + 1, x1, I, L => (if (v_196 I (97 : Int32) (110 : Int32) (100 : Int32) (0 : Int32) (0 : Int32) (0 : Int32) (0 : Int32) (0 : Int32)) = 0 then (x1, I, L) else (bx ((v_194 I L) : WI × WL) (fun p2 => (bx ((v_202 rec p2.1 p2.2) : Int32 × WI × WL) (fun p3 => (bx ((if x1 = 0 then 0 else (if p3.1 = 0 then 0 else 1)) : Int32) (fun p4 => (lp_201_5 rec k p4 p3.2.1 p3.2.2))))))))
def gl_201_5 (rec : RECTR) (okr : OKRTR) : Nat → Int32 → WI → WL → Prop
  | 0, _, _, _ => False
  | k + 1, x1, I, L => ((g_196 I (97 : Int32) (110 : Int32) (100 : Int32) (0 : Int32) (0 : Int32) (0 : Int32) (0 : Int32)) ∧ (¬ ((v_196 I (97 : Int32) (110 : Int32) (100 : Int32) (0 : Int32) (0 : Int32) (0 : Int32) (0 : Int32) (0 : Int32)) = 0) → ((g_194 I L) ∧ (bx ((v_194 I L) : WI × WL) (fun p2 => ((g_202 rec okr p2.1 p2.2) ∧ (bx ((v_202 rec p2.1 p2.2) : Int32 × WI × WL) (fun p3 => (bx ((if x1 = 0 then 0 else (if p3.1 = 0 then 0 else 1)) : Int32) (fun p4 => (gl_201_5 rec okr k p4 p3.2.1 p3.2.2)))))))))))
theorem lw_201_5 {l : LX} {d : Nat} {P : RP} {rec : RECTR} {okr : OKRTR} {F : WF} {t : Nat} {dr : Nat} (hrec : HRECR l dr rec okr) (hd : dr ≤ d) : ∀ k : Nat, ∀ (x1 : Int32) (I : WI) (L : WL), gl_201_5 rec okr k x1 I L → (∀ r : Int32 × WI × WL, r = lp_201_5 rec k x1 I L → Wp l 201 (d + 8) 0 0 P 0 0 49 [(1, .int r.1)] [] SH (r.2.1, F, r.2.2, RT t)) → Wp l 201 (d + 8) 0 0 P 0 0 5 [(0, .ref 74), (1, .int x1)] [] SH (I, F, L, RT t) := by
  intro k
  induction k with
  | zero =>
    intro x1 I L hg hx
    exact hg.elim
  | succ k ih =>
    intro x1 I L hg hx
    have hg := Eq.mp (gl_201_5.eq_2 ..) hg
    obtain ⟨T1, hT1⟩ : ∃ r : Int32 × WI × WL, r = lp_201_5 rec (k + 1) x1 I L := ⟨_, rfl⟩
    have hx : ∀ r : Int32 × WI × WL, r = T1 → Wp l 201 (d + 8) 0 0 P 0 0 49 [(1, .int r.1)] [] SH (r.2.1, F, r.2.2, RT t) := fun r hr => hx r (hr.trans hT1)
    have he := (hT1.trans (lp_201_5.eq_2 ..)).symm
    obtain ⟨k2, hg⟩ := hg
    refine bk_201_5 (cc_196 (d := d + 5)  k2) ?_
    refine bk_201_20 (fun h3 => ?_) (fun h3 => ?_)
    · have he := ite_p h3 he
      exact hx _ he
    · have he := ite_n h3 he
      have hg := hg h3
      obtain ⟨k4, hg⟩ := hg
      refine bk_201_23 (cq_V_IL (cc_194 (d := d + 6)  k4)) ?_
      rintro _ _ _ _ ⟨p2, hr, rfl, rfl, rfl, rfl⟩
      have he := bx_eq hr he
      have hg := bx_un hr hg
      obtain ⟨k5, hg⟩ := hg
      refine bk_201_27 (cq_I_IL (cc_202 (d := d + 0) hrec (by omega)  k5)) ?_
      rintro _ _ _ _ _ ⟨p3, hr, rfl, rfl, rfl, rfl, rfl⟩
      have he := bx_eq hr he
      have hg := bx_un hr hg
      obtain ⟨X1, hX1⟩ : ∃ r : Int32, r = (if x1 = 0 then 0 else (if p3.1 = 0 then 0 else 1)) := ⟨_, rfl⟩
      have J1 : ∀ p4 : Int32, p4 = X1 → Wp l 201 (d + 8) 0 0 P 0 0 45 [(0, .ref 74)] [.int p4] SH (p3.2.1, F, p3.2.2, RT t) := by
        intro p4 hr
        have hr := hr.trans hX1
        have he := bx_eq hr he
        have hg := bx_un hr hg
        refine bk_201_45 ?_
        exact ih _ _ _ hg (fun r hr => hx r (hr.trans he))
      have he := hX1.symm
      refine bk_201_31 (fun h6 => ?_) (fun h6 => ?_)
      · have he := ite_p h6 he
        refine bk_201_44 ?_
        exact J1 _ he
      · have he := ite_n h6 he
        refine bk_201_36 (fun h7 => ?_) (fun h7 => ?_)
        · have he := ite_p h7 he
          refine bk_201_44 ?_
          exact J1 _ he
        · have he := ite_n h7 he
          refine bk_201_40 ?_
          exact J1 _ he
/-- VectorShelfModel.both()I -/
def v_201 (rec : RECTR) (I : WI) (L : WL) : Int32 × WI × WL := (bx ((v_202 rec I L) : Int32 × WI × WL) (fun p1 => (bx ((lp_201_5 rec 400 p1.1 p1.2.1 p1.2.2) : Int32 × WI × WL) (fun p5 => (p5.1, p5.2.1, p5.2.2)))))
def g_201 (rec : RECTR) (okr : OKRTR) (I : WI) (L : WL) : Prop := ((g_202 rec okr I L) ∧ (bx ((v_202 rec I L) : Int32 × WI × WL) (fun p1 => (gl_201_5 rec okr 400 p1.1 p1.2.1 p1.2.2))))
theorem cc_201 {l : LX} {d : Nat} {I : WI} {F : WF} {L : WL} {t : Nat} {rec : RECTR} {okr : OKRTR} {dr : Nat} (hrec : HRECR l dr rec okr) (hd : dr ≤ d) (hg : g_201 rec okr I L) : Con l 201 (d + 8) 0 0 [.ref 74] SH (I, F, L, RT t) (po_I_IL F t (v_201 rec I L)) := by
  refine cn_201 ?_
  obtain ⟨T1, hT1⟩ : ∃ r : Int32 × WI × WL, r = (v_201 rec I L) := ⟨_, rfl⟩
  rw [← hT1]
  have he := (hT1.trans (v_201.eq_1 ..)).symm
  have hg := Eq.mp (g_201.eq_1 ..) hg
  obtain ⟨k1, hg⟩ := hg
  refine bk_201_0 (cq_I_IL (cc_202 (d := d + 0) hrec (by omega)  k1)) ?_
  rintro _ _ _ _ _ ⟨p1, hr, rfl, rfl, rfl, rfl, rfl⟩
  have he := bx_eq hr he
  have hg := bx_un hr hg
  refine bk_201_4 ?_
  have hgX := hg
  refine lw_201_5 (d := d) hrec (by omega) 400 _ _ _ hgX (fun p5 hr => ?_)
  have he := bx_eq hr he
  exact bk_201_49 (rl_I_IL he)
/-- the loop at 5 of VectorShelfModel.either -/
def lp_200_5 (rec : RECTR) : Nat → Int32 → WI → WL → Int32 × WI × WL
  | 0, x1, I, L => (x1, I, L)
  | k + 1, x1, I, L => (if (v_196 I (111 : Int32) (114 : Int32) (0 : Int32) (0 : Int32) (0 : Int32) (0 : Int32) (0 : Int32) (0 : Int32)) = 0 then (x1, I, L) else (bx ((v_194 I L) : WI × WL) (fun p2 => (bx ((v_201 rec p2.1 p2.2) : Int32 × WI × WL) (fun p3 => (bx ((if ¬ x1 = 0 then 1 else (if p3.1 = 0 then 0 else 1)) : Int32) (fun p4 => (lp_200_5 rec k p4 p3.2.1 p3.2.2))))))))
def gl_200_5 (rec : RECTR) (okr : OKRTR) : Nat → Int32 → WI → WL → Prop
  | 0, _, _, _ => False
  | k + 1, x1, I, L => ((g_196 I (111 : Int32) (114 : Int32) (0 : Int32) (0 : Int32) (0 : Int32) (0 : Int32) (0 : Int32)) ∧ (¬ ((v_196 I (111 : Int32) (114 : Int32) (0 : Int32) (0 : Int32) (0 : Int32) (0 : Int32) (0 : Int32) (0 : Int32)) = 0) → ((g_194 I L) ∧ (bx ((v_194 I L) : WI × WL) (fun p2 => ((g_201 rec okr p2.1 p2.2) ∧ (bx ((v_201 rec p2.1 p2.2) : Int32 × WI × WL) (fun p3 => (bx ((if ¬ x1 = 0 then 1 else (if p3.1 = 0 then 0 else 1)) : Int32) (fun p4 => (gl_200_5 rec okr k p4 p3.2.1 p3.2.2)))))))))))
theorem lw_200_5 {l : LX} {d : Nat} {P : RP} {rec : RECTR} {okr : OKRTR} {F : WF} {t : Nat} {dr : Nat} (hrec : HRECR l dr rec okr) (hd : dr ≤ d) : ∀ k : Nat, ∀ (x1 : Int32) (I : WI) (L : WL), gl_200_5 rec okr k x1 I L → (∀ r : Int32 × WI × WL, r = lp_200_5 rec k x1 I L → Wp l 200 (d + 9) 0 0 P 0 0 48 [(1, .int r.1)] [] SH (r.2.1, F, r.2.2, RT t)) → Wp l 200 (d + 9) 0 0 P 0 0 5 [(0, .ref 74), (1, .int x1)] [] SH (I, F, L, RT t) := by
  intro k
  induction k with
  | zero =>
    intro x1 I L hg hx
    exact hg.elim
  | succ k ih =>
    intro x1 I L hg hx
    have hg := Eq.mp (gl_200_5.eq_2 ..) hg
    obtain ⟨T1, hT1⟩ : ∃ r : Int32 × WI × WL, r = lp_200_5 rec (k + 1) x1 I L := ⟨_, rfl⟩
    have hx : ∀ r : Int32 × WI × WL, r = T1 → Wp l 200 (d + 9) 0 0 P 0 0 48 [(1, .int r.1)] [] SH (r.2.1, F, r.2.2, RT t) := fun r hr => hx r (hr.trans hT1)
    have he := (hT1.trans (lp_200_5.eq_2 ..)).symm
    obtain ⟨k2, hg⟩ := hg
    refine bk_200_5 (cc_196 (d := d + 6)  k2) ?_
    refine bk_200_19 (fun h3 => ?_) (fun h3 => ?_)
    · have he := ite_p h3 he
      exact hx _ he
    · have he := ite_n h3 he
      have hg := hg h3
      obtain ⟨k4, hg⟩ := hg
      refine bk_200_22 (cq_V_IL (cc_194 (d := d + 7)  k4)) ?_
      rintro _ _ _ _ ⟨p2, hr, rfl, rfl, rfl, rfl⟩
      have he := bx_eq hr he
      have hg := bx_un hr hg
      obtain ⟨k5, hg⟩ := hg
      refine bk_200_26 (cq_I_IL (cc_201 (d := d + 0) hrec (by omega)  k5)) ?_
      rintro _ _ _ _ _ ⟨p3, hr, rfl, rfl, rfl, rfl, rfl⟩
      have he := bx_eq hr he
      have hg := bx_un hr hg
      obtain ⟨X1, hX1⟩ : ∃ r : Int32, r = (if ¬ x1 = 0 then 1 else (if p3.1 = 0 then 0 else 1)) := ⟨_, rfl⟩
      have J1 : ∀ p4 : Int32, p4 = X1 → Wp l 200 (d + 9) 0 0 P 0 0 44 [(0, .ref 74)] [.int p4] SH (p3.2.1, F, p3.2.2, RT t) := by
        intro p4 hr
        have hr := hr.trans hX1
        have he := bx_eq hr he
        have hg := bx_un hr hg
        refine bk_200_44 ?_
        exact ih _ _ _ hg (fun r hr => hx r (hr.trans he))
      have he := hX1.symm
      refine bk_200_30 (fun h6 => ?_) (fun h6 => ?_)
      · have he := ite_p h6 he
        refine bk_200_39 ?_
        exact J1 _ he
      · have he := ite_n h6 he
        refine bk_200_35 (fun h7 => ?_) (fun h7 => ?_)
        · have he := ite_p h7 he
          refine bk_200_43 ?_
          exact J1 _ he
        · have he := ite_n h7 he
          refine bk_200_39 ?_
          exact J1 _ he
/-- VectorShelfModel.either()I -/
def v_200 (rec : RECTR) (I : WI) (L : WL) : Int32 × WI × WL := (bx ((v_201 rec I L) : Int32 × WI × WL) (fun p1 => (bx ((lp_200_5 rec 400 p1.1 p1.2.1 p1.2.2) : Int32 × WI × WL) (fun p5 => (p5.1, p5.2.1, p5.2.2)))))
def g_200 (rec : RECTR) (okr : OKRTR) (I : WI) (L : WL) : Prop := ((g_201 rec okr I L) ∧ (bx ((v_201 rec I L) : Int32 × WI × WL) (fun p1 => (gl_200_5 rec okr 400 p1.1 p1.2.1 p1.2.2))))
theorem cc_200 {l : LX} {d : Nat} {I : WI} {F : WF} {L : WL} {t : Nat} {rec : RECTR} {okr : OKRTR} {dr : Nat} (hrec : HRECR l dr rec okr) (hd : dr ≤ d) (hg : g_200 rec okr I L) : Con l 200 (d + 9) 0 0 [.ref 74] SH (I, F, L, RT t) (po_I_IL F t (v_200 rec I L)) := by
  refine cn_200 ?_
  obtain ⟨T1, hT1⟩ : ∃ r : Int32 × WI × WL, r = (v_200 rec I L) := ⟨_, rfl⟩
  rw [← hT1]
  have he := (hT1.trans (v_200.eq_1 ..)).symm
  have hg := Eq.mp (g_200.eq_1 ..) hg
  obtain ⟨k1, hg⟩ := hg
  refine bk_200_0 (cq_I_IL (cc_201 (d := d + 0) hrec (by omega)  k1)) ?_
  rintro _ _ _ _ _ ⟨p1, hr, rfl, rfl, rfl, rfl, rfl⟩
  have he := bx_eq hr he
  have hg := bx_un hr hg
  refine bk_200_4 ?_
  have hgX := hg
  refine lw_200_5 (d := d) hrec (by omega) 400 _ _ _ hgX (fun p5 hr => ?_)
  have he := bx_eq hr he
  exact bk_200_48 (rl_I_IL he)
def prl : Nat → RECTR
  | 0, _, I, L => (0, I, L)
  | n + 1, s, I, L => if s = 200 then v_200 (prl n) I L else if s = 202 then v_202 (prl n) I L else v_206 (prl n) I L
def okrl : Nat → OKRTR
  | 0, _, _, _ => False
  | n + 1, s, I, L => if s = 200 then g_200 (prl n) (okrl n) I L else if s = 202 then g_202 (prl n) (okrl n) I L else g_206 (prl n) (okrl n) I L
theorem prl_200 {n : Nat} {I : WI} {L : WL} : prl (n + 1) 200 I L = v_200 (prl n) I L := by simp [prl]
theorem okrl_200 {n : Nat} {I : WI} {L : WL} : okrl (n + 1) 200 I L ↔ g_200 (prl n) (okrl n) I L := by simp [okrl]
theorem prl_202 {n : Nat} {I : WI} {L : WL} : prl (n + 1) 202 I L = v_202 (prl n) I L := by simp [prl]
theorem okrl_202 {n : Nat} {I : WI} {L : WL} : okrl (n + 1) 202 I L ↔ g_202 (prl n) (okrl n) I L := by simp [okrl]
theorem prl_206 {n : Nat} {I : WI} {L : WL} : prl (n + 1) 206 I L = v_206 (prl n) I L := by simp [prl]
theorem okrl_206 {n : Nat} {I : WI} {L : WL} : okrl (n + 1) 206 I L ↔ g_206 (prl n) (okrl n) I L := by simp [okrl]
theorem hrec_R {l : LX} : ∀ n, HRECR l (20 * n) (prl n) (okrl n) := by
  intro n
  induction n with
  | zero => intro d _ s I F L t _ h; exact h.elim
  | succ n ih =>
    intro d hd s I F L t hs hk
    obtain ⟨e, rfl⟩ : ∃ e, d = e + 20 := ⟨d - 20, by omega⟩
    rcases hs with rfl | rfl | rfl
    · rw [prl_200]
      have hk := okrl_200.mp hk
      exact cc_200 (d := e + 11) ih (by omega) hk
    · rw [prl_202]
      have hk := okrl_202.mp hk
      exact cc_202 (d := e + 13) ih (by omega) hk
    · rw [prl_206]
      have hk := okrl_206.mp hk
      exact cc_206 (d := e + 16) ih (by omega) hk
theorem cp_200 {l : LX} {d : Nat} {I : WI} {F : WF} {L : WL} {t : Nat} (hg : okrl 8 200 I L) : Con l 200 (d + 170) 0 0 [.ref 74] SH (I, F, L, RT t) (po_I_IL F t (prl 8 200 I L)) := hrec_R 8 (d + 170) (by omega) 200 I F L t (by simp) hg
/-- VectorShelfModel.part(Z)I -/
def v_198 (I : WI) (L : WL) (x1 : Int32) : Int32 × WI × WL := (bx ((if ¬ x1 = 0 then I else (bx ((v_199 I) : WI) (fun p1 => p1))) : WI) (fun p2 => (bx ((if ¬ (p2 74 32) = 0 then (p2, L) else (bx ((v_194 p2 L) : WI × WL) (fun p3 => (p3.1, p3.2)))) : WI × WL) (fun p4 => (bx ((if (p4.1 74 32) = 0 then (bx ((prl 8 200 p4.1 p4.2) : Int32 × WI × WL) (fun p5 => (p5.1, p5.2.1, p5.2.2))) else (0, p4.1, p4.2)) : Int32 × WI × WL) (fun p6 => (bx ((if ¬ (v_207 p6.2.1 p6.2.2 (59 : Int32)) = 0 then p6.2.1 else (bx ((v_199 p6.2.1) : WI) (fun p7 => p7))) : WI) (fun p8 => (if ¬ (p8 74 32) = 0 then (p6.1, p8, p6.2.2) else (bx ((v_194 p8 p6.2.2) : WI × WL) (fun p9 => (p6.1, p9.1, p9.2))))))))))))
def g_198 (I : WI) (L : WL) (x1 : Int32) : Prop := (bx ((if ¬ x1 = 0 then I else (bx ((v_199 I) : WI) (fun p1 => p1))) : WI) (fun p2 => ((¬ (¬ (p2 74 32) = 0) → (g_194 p2 L)) ∧ (bx ((if ¬ (p2 74 32) = 0 then (p2, L) else (bx ((v_194 p2 L) : WI × WL) (fun p3 => (p3.1, p3.2)))) : WI × WL) (fun p4 => ((((p4.1 74 32) = 0) → (okrl 8 200 p4.1 p4.2)) ∧ (bx ((if (p4.1 74 32) = 0 then (bx ((prl 8 200 p4.1 p4.2) : Int32 × WI × WL) (fun p5 => (p5.1, p5.2.1, p5.2.2))) else (0, p4.1, p4.2)) : Int32 × WI × WL) (fun p6 => (bx ((if ¬ (v_207 p6.2.1 p6.2.2 (59 : Int32)) = 0 then p6.2.1 else (bx ((v_199 p6.2.1) : WI) (fun p7 => p7))) : WI) (fun p8 => (¬ (¬ (p8 74 32) = 0) → (g_194 p8 p6.2.2))))))))))))
theorem cc_198 {l : LX} {d : Nat} {I : WI} {F : WF} {L : WL} {t : Nat} {x1 : Int32} (hg : g_198 I L x1) : Con l 198 (d + 171) 0 0 [.ref 74, .int x1] SH (I, F, L, RT t) (po_I_IL F t (v_198 I L x1)) := by
  refine cn_198 ?_
  obtain ⟨T1, hT1⟩ : ∃ r : Int32 × WI × WL, r = (v_198 I L x1) := ⟨_, rfl⟩
  rw [← hT1]
  have he := (hT1.trans (v_198.eq_1 ..)).symm
  have hg := Eq.mp (g_198.eq_1 ..) hg
  obtain ⟨X1, hX1⟩ : ∃ r : WI, r = (if ¬ x1 = 0 then I else (bx ((v_199 I) : WI) (fun p1 => p1))) := ⟨_, rfl⟩
  have J1 : ∀ p2 : WI, p2 = X1 → Wp l 198 (d + 171) 0 0 (po_I_IL F t T1) 0 0 8 [(0, .ref 74)] [] SH (p2, F, L, RT t) := by
    intro p2 hr
    have hr := hr.trans hX1
    have he := bx_eq hr he
    have hg := bx_un hr hg
    obtain ⟨hgX, hg⟩ := hg
    obtain ⟨X2, hX2⟩ : ∃ r : WI × WL, r = (if ¬ (p2 74 32) = 0 then (p2, L) else (bx ((v_194 p2 L) : WI × WL) (fun p3 => (p3.1, p3.2)))) := ⟨_, rfl⟩
    have J2 : ∀ p4 : WI × WL, p4 = X2 → Wp l 198 (d + 171) 0 0 (po_I_IL F t T1) 0 0 19 [(0, .ref 74)] [] SH (p4.1, F, p4.2, RT t) := by
      intro p4 hr
      have hr := hr.trans hX2
      have he := bx_eq hr he
      have hg := bx_un hr hg
      obtain ⟨hgX, hg⟩ := hg
      obtain ⟨X3, hX3⟩ : ∃ r : Int32 × WI × WL, r = (if (p4.1 74 32) = 0 then (bx ((prl 8 200 p4.1 p4.2) : Int32 × WI × WL) (fun p5 => (p5.1, p5.2.1, p5.2.2))) else (0, p4.1, p4.2)) := ⟨_, rfl⟩
      have J3 : ∀ p6 : Int32 × WI × WL, p6 = X3 → Wp l 198 (d + 171) 0 0 (po_I_IL F t T1) 0 0 34 [(0, .ref 74)] [.int p6.1] SH (p6.2.1, F, p6.2.2, RT t) := by
        intro p6 hr
        have hr := hr.trans hX3
        have he := bx_eq hr he
        have hg := bx_un hr hg
        refine bk_198_34 (cc_207 (d := d + 170) ) ?_
        obtain ⟨X4, hX4⟩ : ∃ r : WI, r = (if ¬ (v_207 p6.2.1 p6.2.2 (59 : Int32)) = 0 then p6.2.1 else (bx ((v_199 p6.2.1) : WI) (fun p7 => p7))) := ⟨_, rfl⟩
        have J4 : ∀ p8 : WI, p8 = X4 → Wp l 198 (d + 171) 0 0 (po_I_IL F t T1) 0 0 48 [(0, .ref 74), (2, .int p6.1)] [] SH (p8, F, p6.2.2, RT t) := by
          intro p8 hr
          have hr := hr.trans hX4
          have he := bx_eq hr he
          have hg := bx_un hr hg
          refine bk_198_48 (fun h10 => ?_) (fun h10 => ?_)
          · have he := ite_p h10 he
            exact bk_198_59 (rl_I_IL he)
          · have he := ite_n h10 he
            have hg := hg h10
            have k11 := hg
            refine bk_198_55 (cq_V_IL (cc_194 (d := d + 169)  k11)) ?_
            rintro _ _ _ _ ⟨p9, hr, rfl, rfl, rfl, rfl⟩
            have he := bx_eq hr he
            exact bk_198_59 (rl_I_IL he)
        have he := hX4.symm
        refine bk_198_41 (fun h8 => ?_) (fun h8 => ?_)
        · have he := ite_p h8 he
          exact J4 _ he
        · have he := ite_n h8 he
          refine bk_198_44 (cq_V_I (cc_199 (d := d + 170) )) ?_
          rintro _ _ _ _ ⟨p7, hr, rfl, rfl, rfl, rfl⟩
          have he := bx_eq hr he
          exact J4 _ he
      have he := hX3.symm
      have hg := hgX
      refine bk_198_19 (fun h5 => ?_) (fun h5 => ?_)
      · have he := ite_p h5 he
        have hg := hg h5
        have k6 := hg
        refine bk_198_30 (cq_I_IL (cp_200 (d := d + 0)  k6)) ?_
        rintro _ _ _ _ _ ⟨p5, hr, rfl, rfl, rfl, rfl, rfl⟩
        have he := bx_eq hr he
        exact J3 _ he
      · have he := ite_n h5 he
        refine bk_198_26 ?_
        exact J3 _ he
    have he := hX2.symm
    have hg := hgX
    refine bk_198_8 (fun h3 => ?_) (fun h3 => ?_)
    · have he := ite_p h3 he
      exact J2 _ he
    · have he := ite_n h3 he
      have hg := hg h3
      have k4 := hg
      refine bk_198_15 (cq_V_IL (cc_194 (d := d + 169)  k4)) ?_
      rintro _ _ _ _ ⟨p3, hr, rfl, rfl, rfl, rfl⟩
      have he := bx_eq hr he
      exact J2 _ he
  have he := hX1.symm
  refine bk_198_0 (fun h1 => ?_) (fun h1 => ?_)
  · have he := ite_p h1 he
    exact J1 _ he
  · have he := ite_n h1 he
    refine bk_198_4 (cq_V_I (cc_199 (d := d + 170) )) ?_
    rintro _ _ _ _ ⟨p1, hr, rfl, rfl, rfl, rfl⟩
    have he := bx_eq hr he
    exact J1 _ he
/-- VectorShelfModel.read(II)I -/
def v_193 (I : WI) (L : WL) (x1 : Int32) (x2 : Int32) : Int32 × WI × WL := (bx ((v_194 (up2 (up2 (up2 (up2 (up2 I 74 25 (160 * x1)) 74 26 (I 76 x1.toNatClampNeg)) 74 27 0) 74 31 0) 74 32 0) L) : WI × WL) (fun p1 => (bx ((v_198 p1.1 p1.2 (v_196 p1.1 (102 : Int32) (105 : Int32) (116 : Int32) (115 : Int32) (0 : Int32) (0 : Int32) (0 : Int32) (0 : Int32))) : Int32 × WI × WL) (fun p2 => (bx ((if (p2.2.1 74 32) = 0 then (bx ((v_198 p2.2.1 p2.2.2 (v_196 p2.2.1 (97 : Int32) (100 : Int32) (100 : Int32) (115 : Int32) (0 : Int32) (0 : Int32) (0 : Int32) (0 : Int32))) : Int32 × WI × WL) (fun p3 => (p3.1, p3.2.1, p3.2.2))) else (0, p2.2.1, p2.2.2)) : Int32 × WI × WL) (fun p4 => (bx ((if ¬ (p4.2.1 74 32) = 0 then p4.2.1 else (if (p4.2.1 74 28) = 0 then p4.2.1 else (bx ((v_199 p4.2.1) : WI) (fun p5 => p5)))) : WI) (fun p6 => (if ¬ x2 = 0 then (p4.1, p6, p4.2.2) else (p2.1, p6, p4.2.2))))))))))
def g_193 (I : WI) (L : WL) (x1 : Int32) : Prop := ((vp_in x1 6) ∧ ((g_194 (up2 (up2 (up2 (up2 (up2 I 74 25 (160 * x1)) 74 26 (I 76 x1.toNatClampNeg)) 74 27 0) 74 31 0) 74 32 0) L) ∧ (bx ((v_194 (up2 (up2 (up2 (up2 (up2 I 74 25 (160 * x1)) 74 26 (I 76 x1.toNatClampNeg)) 74 27 0) 74 31 0) 74 32 0) L) : WI × WL) (fun p1 => ((g_196 p1.1 (102 : Int32) (105 : Int32) (116 : Int32) (115 : Int32) (0 : Int32) (0 : Int32) (0 : Int32)) ∧ ((g_198 p1.1 p1.2 (v_196 p1.1 (102 : Int32) (105 : Int32) (116 : Int32) (115 : Int32) (0 : Int32) (0 : Int32) (0 : Int32) (0 : Int32))) ∧ (bx ((v_198 p1.1 p1.2 (v_196 p1.1 (102 : Int32) (105 : Int32) (116 : Int32) (115 : Int32) (0 : Int32) (0 : Int32) (0 : Int32) (0 : Int32))) : Int32 × WI × WL) (fun p2 => (((p2.2.1 74 32) = 0) → ((g_196 p2.2.1 (97 : Int32) (100 : Int32) (100 : Int32) (115 : Int32) (0 : Int32) (0 : Int32) (0 : Int32)) ∧ (g_198 p2.2.1 p2.2.2 (v_196 p2.2.1 (97 : Int32) (100 : Int32) (100 : Int32) (115 : Int32) (0 : Int32) (0 : Int32) (0 : Int32) (0 : Int32)))))))))))))
theorem cc_193 {l : LX} {d : Nat} {I : WI} {F : WF} {L : WL} {t : Nat} {x1 : Int32} {x2 : Int32} (hg : g_193 I L x1) : Con l 193 (d + 172) 0 0 [.ref 74, .int x1, .int x2] SH (I, F, L, RT t) (po_I_IL F t (v_193 I L x1 x2)) := by
  refine cn_193 ?_
  obtain ⟨T1, hT1⟩ : ∃ r : Int32 × WI × WL, r = (v_193 I L x1 x2) := ⟨_, rfl⟩
  rw [← hT1]
  have he := (hT1.trans (v_193.eq_1 ..)).symm
  have hg := Eq.mp (g_193.eq_1 ..) hg
  obtain ⟨k1, k2, hg⟩ := hg
  refine bk_193_0 k1 (cq_V_IL (cc_194 (d := d + 170)  k2)) ?_
  rintro _ _ _ _ ⟨p1, hr, rfl, rfl, rfl, rfl⟩
  have he := bx_eq hr he
  have hg := bx_un hr hg
  obtain ⟨k3, hg⟩ := hg
  refine bk_193_38 (cc_196 (d := d + 169)  k3) ?_
  obtain ⟨k4, hg⟩ := hg
  refine bk_193_55 (cq_I_IL (cc_198 (d := d + 0)  k4)) ?_
  rintro _ _ _ _ _ ⟨p2, hr, rfl, rfl, rfl, rfl, rfl⟩
  have he := bx_eq hr he
  have hg := bx_un hr hg
  have hgX := hg
  obtain ⟨X1, hX1⟩ : ∃ r : Int32 × WI × WL, r = (if (p2.2.1 74 32) = 0 then (bx ((v_198 p2.2.1 p2.2.2 (v_196 p2.2.1 (97 : Int32) (100 : Int32) (100 : Int32) (115 : Int32) (0 : Int32) (0 : Int32) (0 : Int32) (0 : Int32))) : Int32 × WI × WL) (fun p3 => (p3.1, p3.2.1, p3.2.2))) else (0, p2.2.1, p2.2.2)) := ⟨_, rfl⟩
  have J1 : ∀ p4 : Int32 × WI × WL, p4 = X1 → Wp l 193 (d + 172) 0 0 (po_I_IL F t T1) 0 0 90 [(0, .ref 74), (2, .int x2), (3, .int p2.1)] [.int p4.1] SH (p4.2.1, F, p4.2.2, RT t) := by
    intro p4 hr
    have hr := hr.trans hX1
    have he := bx_eq hr he
    obtain ⟨X2, hX2⟩ : ∃ r : WI, r = (if ¬ (p4.2.1 74 32) = 0 then p4.2.1 else (if (p4.2.1 74 28) = 0 then p4.2.1 else (bx ((v_199 p4.2.1) : WI) (fun p5 => p5)))) := ⟨_, rfl⟩
    have J2 : ∀ p6 : WI, p6 = X2 → Wp l 193 (d + 172) 0 0 (po_I_IL F t T1) 0 0 110 [(2, .int x2), (3, .int p2.1), (4, .int p4.1)] [] SH (p6, F, p4.2.2, RT t) := by
      intro p6 hr
      have hr := hr.trans hX2
      have he := bx_eq hr he
      refine bk_193_110 (fun h11 => ?_) (fun h11 => ?_)
      · have he := ite_p h11 he
        refine bk_193_118 ?_
        exact bk_193_120 (rl_I_IL he)
      · have he := ite_n h11 he
        refine bk_193_114 ?_
        exact bk_193_120 (rl_I_IL he)
    have he := hX2.symm
    refine bk_193_90 (fun h8 => ?_) (fun h8 => ?_)
    · have he := ite_p h8 he
      exact J2 _ he
    · have he := ite_n h8 he
      refine bk_193_99 (fun h9 => ?_) (fun h9 => ?_)
      · have he := ite_p h9 he
        exact J2 _ he
      · have he := ite_n h9 he
        refine bk_193_106 (cq_V_I (cc_199 (d := d + 171) )) ?_
        rintro _ _ _ _ ⟨p5, hr, rfl, rfl, rfl, rfl⟩
        have he := bx_eq hr he
        exact J2 _ he
  have he := hX1.symm
  have hg := hgX
  refine bk_193_58 (fun h5 => ?_) (fun h5 => ?_)
  · have he := ite_p h5 he
    have hg := hg h5
    obtain ⟨k6, hg⟩ := hg
    refine bk_193_70 (cc_196 (d := d + 169)  k6) ?_
    have k7 := hg
    refine bk_193_87 (cq_I_IL (cc_198 (d := d + 0)  k7)) ?_
    rintro _ _ _ _ _ ⟨p3, hr, rfl, rfl, rfl, rfl, rfl⟩
    have he := bx_eq hr he
    exact J1 _ he
  · have he := ite_n h5 he
    refine bk_193_66 ?_
    exact J1 _ he
end
