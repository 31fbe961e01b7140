section
/-- VectorShelf$TextReader.single(I)V -/
def v_103 (rec : RECTC) (I : WI) (t : Nat) (x1 : Int32) : WI := (if (I 31 4) = 258 then (bx ((v_81 I t (I 31 5)) : WI) (fun p1 => (bx ((v_85 p1) : WI) (fun p2 => p2)))) else (if ¬ (I 31 4) = 259 then (if ¬ (I 31 4) = 45 then (if ¬ (I 31 4) = 40 then (bx ((v_96 I) : WI) (fun p3 => p3)) else (if 5 ≤ x1 then (bx ((v_96 I) : WI) (fun p4 => p4)) else (bx ((v_85 I) : WI) (fun p5 => (bx ((rec 97 p5 t (x1 + 1)) : WI) (fun p6 => (bx ((v_95 p6 (41 : Int32)) : WI) (fun p7 => p7)))))))) else (if 5 ≤ x1 then (if ¬ (I 31 4) = 40 then (bx ((v_96 I) : WI) (fun p8 => p8)) else (if 5 ≤ x1 then (bx ((v_96 I) : WI) (fun p9 => p9)) else (bx ((v_85 I) : WI) (fun p10 => (bx ((rec 97 p10 t (x1 + 1)) : WI) (fun p11 => (bx ((v_95 p11 (41 : Int32)) : WI) (fun p12 => p12)))))))) else (bx ((v_85 I) : WI) (fun p13 => (bx ((rec 103 p13 t (x1 + 1)) : WI) (fun p14 => (bx ((v_81 p14 t ((-7) : Int32)) : WI) (fun p15 => p15)))))))) else (bx ((v_81 I t (I 31 5)) : WI) (fun p16 => (bx ((v_85 p16) : WI) (fun p17 => p17))))))
def g_103 (rec : RECTC) (okr : OKRTC) (I : WI) (t : Nat) (x1 : Int32) : Prop := ((((I 31 4) = 258) → ((g_81 I t) ∧ (bx ((v_81 I t (I 31 5)) : WI) (fun p1 => (g_85 p1))))) ∧ (¬ ((I 31 4) = 258) → (((¬ (I 31 4) = 259) → (((¬ (I 31 4) = 45) → (¬ (¬ (I 31 4) = 40) → (¬ (5 ≤ x1) → ((g_85 I) ∧ (bx ((v_85 I) : WI) (fun p5 => ((okr 97 p5 t (x1 + 1)) ∧ (bx ((rec 97 p5 t (x1 + 1)) : WI) (fun p6 => (g_95 p6 (41 : Int32))))))))))) ∧ (¬ (¬ (I 31 4) = 45) → (((5 ≤ x1) → (¬ (¬ (I 31 4) = 40) → (¬ (5 ≤ x1) → ((g_85 I) ∧ (bx ((v_85 I) : WI) (fun p10 => ((okr 97 p10 t (x1 + 1)) ∧ (bx ((rec 97 p10 t (x1 + 1)) : WI) (fun p11 => (g_95 p11 (41 : Int32))))))))))) ∧ (¬ (5 ≤ x1) → ((g_85 I) ∧ (bx ((v_85 I) : WI) (fun p13 => ((okr 103 p13 t (x1 + 1)) ∧ (bx ((rec 103 p13 t (x1 + 1)) : WI) (fun p14 => (g_81 p14 t)))))))))))) ∧ (¬ (¬ (I 31 4) = 259) → ((g_81 I t) ∧ (bx ((v_81 I t (I 31 5)) : WI) (fun p16 => (g_85 p16))))))))
theorem cc_103 {l : LX} {d : Nat} {I : WI} {F : WF} {L : WL} {t : Nat} {rec : RECTC} {okr : OKRTC} {dr : Nat} (hrec : HRECC l dr rec okr) (hd : dr ≤ d) {x1 : Int32} (ht : isT t) (hg : g_103 rec okr I t x1) : Con l 103 (d + 13) 0 0 [.ref 31, .int x1] SH (I, F, L, RT t) (po_V_I F L t (v_103 rec I t x1)) := by
  refine cn_103 ?_
  obtain ⟨T1, hT1⟩ : ∃ r : WI, r = (v_103 rec I t x1) := ⟨_, rfl⟩
  rw [← hT1]
  have he := (hT1.trans (v_103.eq_1 ..)).symm
  have hg := Eq.mp (g_103.eq_1 ..) hg
  refine bk_103_0 (fun h1 => ?_) (fun h1 => ?_)
  · have he := ite_p h1 he
    have hg := hg.1 h1
    obtain ⟨k2, hg⟩ := hg
    refine bk_103_20 ht (cq_V_I (cc_81 (d := d + 12) ht k2)) ?_
    rintro _ _ _ _ ⟨p1, hr, rfl, rfl, rfl, rfl⟩
    have he := bx_eq hr he
    have hg := bx_un hr hg
    have k3 := hg
    refine bk_103_31 (cq_V_I (cc_85 (d := d + 1)  k3)) ?_
    rintro _ _ _ _ ⟨p2, hr, rfl, rfl, rfl, rfl⟩
    have he := bx_eq hr he
    refine bk_103_35 ?_
    exact bk_103_113 (rl_V_I he)
  · have he := ite_n h1 he
    have hg := hg.2 h1
    refine bk_103_10 (fun h4 => ?_) (fun h4 => ?_)
    · have he := ite_p h4 he
      have hg := hg.1 h4
      refine bk_103_38 (fun h5 => ?_) (fun h5 => ?_)
      · have he := ite_p h5 he
        have hg := hg.1 h5
        refine bk_103_75 (fun h6 => ?_) (fun h6 => ?_)
        · have he := ite_p h6 he
          refine bk_103_109 (cq_V_I (cc_96 (d := d + 12) )) ?_
          rintro _ _ _ _ ⟨p3, hr, rfl, rfl, rfl, rfl⟩
          have he := bx_eq hr he
          exact bk_103_113 (rl_V_I he)
        · have he := ite_n h6 he
          have hg := hg h6
          refine bk_103_84 (fun h8 => ?_) (fun h8 => ?_)
          · have he := ite_p h8 he
            refine bk_103_109 (cq_V_I (cc_96 (d := d + 12) )) ?_
            rintro _ _ _ _ ⟨p4, hr, rfl, rfl, rfl, rfl⟩
            have he := bx_eq hr he
            exact bk_103_113 (rl_V_I he)
          · have he := ite_n h8 he
            have hg := hg h8
            obtain ⟨k10, hg⟩ := hg
            refine bk_103_89 (cq_V_I (cc_85 (d := d + 1)  k10)) ?_
            rintro _ _ _ _ ⟨p5, hr, rfl, rfl, rfl, rfl⟩
            have he := bx_eq hr he
            have hg := bx_un hr hg
            obtain ⟨k11, hg⟩ := hg
            refine bk_103_93 (cq_V_I (hrec (d + 12) (by omega) 97 _ F L _ _ (by simp) ht k11)) ?_
            rintro _ _ _ _ ⟨p6, hr, rfl, rfl, rfl, rfl⟩
            have he := bx_eq hr he
            have hg := bx_un hr hg
            have k12 := hg
            refine bk_103_100 (cq_V_I (cc_95 (d := d + 0)  k12)) ?_
            rintro _ _ _ _ ⟨p7, hr, rfl, rfl, rfl, rfl⟩
            have he := bx_eq hr he
            refine bk_103_106 ?_
            exact bk_103_113 (rl_V_I he)
      · have he := ite_n h5 he
        have hg := hg.2 h5
        refine bk_103_47 (fun h13 => ?_) (fun h13 => ?_)
        · have he := ite_p h13 he
          have hg := hg.1 h13
          refine bk_103_75 (fun h14 => ?_) (fun h14 => ?_)
          · have he := ite_p h14 he
            refine bk_103_109 (cq_V_I (cc_96 (d := d + 12) )) ?_
            rintro _ _ _ _ ⟨p8, hr, rfl, rfl, rfl, rfl⟩
            have he := bx_eq hr he
            exact bk_103_113 (rl_V_I he)
          · have he := ite_n h14 he
            have hg := hg h14
            refine bk_103_84 (fun h16 => ?_) (fun h16 => ?_)
            · have he := ite_p h16 he
              refine bk_103_109 (cq_V_I (cc_96 (d := d + 12) )) ?_
              rintro _ _ _ _ ⟨p9, hr, rfl, rfl, rfl, rfl⟩
              have he := bx_eq hr he
              exact bk_103_113 (rl_V_I he)
            · have he := ite_n h16 he
              have hg := hg h16
              obtain ⟨k18, hg⟩ := hg
              refine bk_103_89 (cq_V_I (cc_85 (d := d + 1)  k18)) ?_
              rintro _ _ _ _ ⟨p10, hr, rfl, rfl, rfl, rfl⟩
              have he := bx_eq hr he
              have hg := bx_un hr hg
              obtain ⟨k19, hg⟩ := hg
              refine bk_103_93 (cq_V_I (hrec (d + 12) (by omega) 97 _ F L _ _ (by simp) ht k19)) ?_
              rintro _ _ _ _ ⟨p11, hr, rfl, rfl, rfl, rfl⟩
              have he := bx_eq hr he
              have hg := bx_un hr hg
              have k20 := hg
              refine bk_103_100 (cq_V_I (cc_95 (d := d + 0)  k20)) ?_
              rintro _ _ _ _ ⟨p12, hr, rfl, rfl, rfl, rfl⟩
              have he := bx_eq hr he
              refine bk_103_106 ?_
              exact bk_103_113 (rl_V_I he)
        · have he := ite_n h13 he
          have hg := hg.2 h13
          obtain ⟨k21, hg⟩ := hg
          refine bk_103_52 (cq_V_I (cc_85 (d := d + 1)  k21)) ?_
          rintro _ _ _ _ ⟨p13, hr, rfl, rfl, rfl, rfl⟩
          have he := bx_eq hr he
          have hg := bx_un hr hg
          obtain ⟨k22, hg⟩ := hg
          refine bk_103_56 (cq_V_I (hrec (d + 12) (by omega) 103 _ F L _ _ (by simp) ht k22)) ?_
          rintro _ _ _ _ ⟨p14, hr, rfl, rfl, rfl, rfl⟩
          have he := bx_eq hr he
          have hg := bx_un hr hg
          have k23 := hg
          refine bk_103_63 ht (cq_V_I (cc_81 (d := d + 12) ht k23)) ?_
          rintro _ _ _ _ ⟨p15, hr, rfl, rfl, rfl, rfl⟩
          have he := bx_eq hr he
          refine bk_103_72 ?_
          exact bk_103_113 (rl_V_I he)
    · have he := ite_n h4 he
      have hg := hg.2 h4
      obtain ⟨k24, hg⟩ := hg
      refine bk_103_20 ht (cq_V_I (cc_81 (d := d + 12) ht k24)) ?_
      rintro _ _ _ _ ⟨p16, hr, rfl, rfl, rfl, rfl⟩
      have he := bx_eq hr he
      have hg := bx_un hr hg
      have k25 := hg
      refine bk_103_31 (cq_V_I (cc_85 (d := d + 1)  k25)) ?_
      rintro _ _ _ _ ⟨p17, hr, rfl, rfl, rfl, rfl⟩
      have he := bx_eq hr he
      refine bk_103_35 ?_
      exact bk_103_113 (rl_V_I he)
/-- the loop at 7 of VectorShelf$TextReader.product -/
def lp_102_7 (rec : RECTC) (t : Nat) (x1 : Int32) : Nat → Int32 → WI → WI
  | 0, x2, I => I
  | k + 1, x2, I => (if 160 ≤ x2 then I else (if ¬ (I 31 4) = 42 then I else (bx ((v_85 I) : WI) (fun p2 => (bx ((v_103 rec p2 t x1) : WI) (fun p3 => (bx ((v_81 p3 t ((-11) : Int32)) : WI) (fun p4 => (lp_102_7 rec t x1 k (x2 + 1) p4)))))))))
def gl_102_7 (rec : RECTC) (okr : OKRTC) (t : Nat) (x1 : Int32) : Nat → Int32 → WI → Prop
  | 0, _, _ => False
  | k + 1, x2, I => (¬ (160 ≤ x2) → (¬ (¬ (I 31 4) = 42) → ((g_85 I) ∧ (bx ((v_85 I) : WI) (fun p2 => ((g_103 rec okr p2 t x1) ∧ (bx ((v_103 rec p2 t x1) : WI) (fun p3 => ((g_81 p3 t) ∧ (bx ((v_81 p3 t ((-11) : Int32)) : WI) (fun p4 => (gl_102_7 rec okr t x1 k (x2 + 1) p4))))))))))))
theorem lw_102_7 {l : LX} {d : Nat} {P : RP} {rec : RECTC} {okr : OKRTC} {F : WF} {L : WL} {t : Nat} {x1 : Int32} {dr : Nat} (hrec : HRECC l dr rec okr) (hd : dr ≤ d) (ht : isT t) : ∀ k : Nat, ∀ (x2 : Int32) (I : WI), gl_102_7 rec okr t x1 k x2 I → (∀ r : WI, r = lp_102_7 rec t x1 k x2 I → Wp l 102 (d + 14) 0 0 P 0 0 47 [] [] SH (r, F, L, RT t)) → Wp l 102 (d + 14) 0 0 P 0 0 7 [(0, .ref 31), (1, .int x1), (2, .int x2)] [] SH (I, F, L, RT t) := by
  intro k
  induction k with
  | zero =>
    intro x2 I hg hx
    exact hg.elim
  | succ k ih =>
    intro x2 I hg hx
    have hg := Eq.mp (gl_102_7.eq_2 ..) hg
    obtain ⟨T1, hT1⟩ : ∃ r : WI, r = lp_102_7 rec t x1 (k + 1) x2 I := ⟨_, rfl⟩
    have hx : ∀ r : WI, r = T1 → Wp l 102 (d + 14) 0 0 P 0 0 47 [] [] SH (r, F, L, RT t) := fun r hr => hx r (hr.trans hT1)
    have he := (hT1.trans (lp_102_7.eq_2 ..)).symm
    refine bk_102_7 (fun h2 => ?_) (fun h2 => ?_)
    · have he := ite_p h2 he
      exact hx I he
    · have he := ite_n h2 he
      have hg := hg h2
      refine bk_102_14 (fun h3 => ?_) (fun h3 => ?_)
      · have he := ite_p h3 he
        exact hx I he
      · have he := ite_n h3 he
        have hg := hg h3
        obtain ⟨k4, hg⟩ := hg
        refine bk_102_23 (cq_V_I (cc_85 (d := d + 2)  k4)) ?_
        rintro _ _ _ _ ⟨p2, hr, rfl, rfl, rfl, rfl⟩
        have he := bx_eq hr he
        have hg := bx_un hr hg
        obtain ⟨k5, hg⟩ := hg
        refine bk_102_27 (cq_V_I (cc_103 (d := d + 0) hrec (by omega) ht k5)) ?_
        rintro _ _ _ _ ⟨p3, hr, rfl, rfl, rfl, rfl⟩
        have he := bx_eq hr he
        have hg := bx_un hr hg
        obtain ⟨k6, hg⟩ := hg
        refine bk_102_32 ht (cq_V_I (cc_81 (d := d + 13) ht k6)) ?_
        rintro _ _ _ _ ⟨p4, hr, rfl, rfl, rfl, rfl⟩
        have he := bx_eq hr he
        have hg := bx_un hr hg
        refine bk_102_41 ?_
        exact ih (x2 + 1) p4 hg (fun r hr => hx r (hr.trans he))
/-- VectorShelf$TextReader.product(I)V -/
def v_102 (rec : RECTC) (I : WI) (t : Nat) (x1 : Int32) : WI := (bx ((v_103 rec I t x1) : WI) (fun p1 => (bx ((lp_102_7 rec t x1 400 (0 : Int32) p1) : WI) (fun p5 => p5))))
def g_102 (rec : RECTC) (okr : OKRTC) (I : WI) (t : Nat) (x1 : Int32) : Prop := ((g_103 rec okr I t x1) ∧ (bx ((v_103 rec I t x1) : WI) (fun p1 => (gl_102_7 rec okr t x1 400 (0 : Int32) p1))))
theorem cc_102 {l : LX} {d : Nat} {I : WI} {F : WF} {L : WL} {t : Nat} {rec : RECTC} {okr : OKRTC} {dr : Nat} (hrec : HRECC l dr rec okr) (hd : dr ≤ d) {x1 : Int32} (ht : isT t) (hg : g_102 rec okr I t x1) : Con l 102 (d + 14) 0 0 [.ref 31, .int x1] SH (I, F, L, RT t) (po_V_I F L t (v_102 rec I t x1)) := by
  refine cn_102 ?_
  obtain ⟨T1, hT1⟩ : ∃ r : WI, r = (v_102 rec I t x1) := ⟨_, rfl⟩
  rw [← hT1]
  have he := (hT1.trans (v_102.eq_1 ..)).symm
  have hg := Eq.mp (g_102.eq_1 ..) hg
  obtain ⟨k1, hg⟩ := hg
  refine bk_102_0 (cq_V_I (cc_103 (d := d + 0) hrec (by omega) ht k1)) ?_
  rintro _ _ _ _ ⟨p1, hr, rfl, rfl, rfl, rfl⟩
  have he := bx_eq hr he
  have hg := bx_un hr hg
  refine bk_102_5 ?_
  have hgX := hg
  refine lw_102_7 (d := d) hrec (by omega) ht 400 (0 : Int32) p1 hgX (fun p5 hr => ?_)
  have he := bx_eq hr he
  exact bk_102_47 (rl_V_I he)
/-- the loop at 7 of VectorShelf$TextReader.sum -/
def lp_101_7 (rec : RECTC) (t : Nat) (x1 : Int32) : Nat → Int32 → WI → WI
  | 0, x2, I => I
  | k + 1, x2, I => (if 160 ≤ x2 then I else (if (I 31 4) = 43 then (bx ((if ¬ (I 31 4) = 43 then (-10) else (-9)) : Int32) (fun p2 => (bx ((v_85 I) : WI) (fun p3 => (bx ((v_102 rec p3 t x1) : WI) (fun p4 => (bx ((v_81 p4 t p2) : WI) (fun p5 => (lp_101_7 rec t x1 k (x2 + 1) p5))))))))) else (if ¬ (I 31 4) = 45 then I else (bx ((if ¬ (I 31 4) = 43 then (-10) else (-9)) : Int32) (fun p6 => (bx ((v_85 I) : WI) (fun p7 => (bx ((v_102 rec p7 t x1) : WI) (fun p8 => (bx ((v_81 p8 t p6) : WI) (fun p9 => (lp_101_7 rec t x1 k (x2 + 1) p9))))))))))))
def gl_101_7 (rec : RECTC) (okr : OKRTC) (t : Nat) (x1 : Int32) : Nat → Int32 → WI → Prop
  | 0, _, _ => False
  | k + 1, x2, I => (¬ (160 ≤ x2) → ((((I 31 4) = 43) → (bx ((if ¬ (I 31 4) = 43 then (-10) else (-9)) : Int32) (fun p2 => ((g_85 I) ∧ (bx ((v_85 I) : WI) (fun p3 => ((g_102 rec okr p3 t x1) ∧ (bx ((v_102 rec p3 t x1) : WI) (fun p4 => ((g_81 p4 t) ∧ (bx ((v_81 p4 t p2) : WI) (fun p5 => (gl_101_7 rec okr t x1 k (x2 + 1) p5))))))))))))) ∧ (¬ ((I 31 4) = 43) → (¬ (¬ (I 31 4) = 45) → (bx ((if ¬ (I 31 4) = 43 then (-10) else (-9)) : Int32) (fun p6 => ((g_85 I) ∧ (bx ((v_85 I) : WI) (fun p7 => ((g_102 rec okr p7 t x1) ∧ (bx ((v_102 rec p7 t x1) : WI) (fun p8 => ((g_81 p8 t) ∧ (bx ((v_81 p8 t p6) : WI) (fun p9 => (gl_101_7 rec okr t x1 k (x2 + 1) p9))))))))))))))))
theorem lw_101_7 {l : LX} {d : Nat} {P : RP} {rec : RECTC} {okr : OKRTC} {F : WF} {L : WL} {t : Nat} {x1 : Int32} {dr : Nat} (hrec : HRECC l dr rec okr) (hd : dr ≤ d) (ht : isT t) : ∀ k : Nat, ∀ (x2 : Int32) (I : WI), gl_101_7 rec okr t x1 k x2 I → (∀ r : WI, r = lp_101_7 rec t x1 k x2 I → Wp l 101 (d + 15) 0 0 P 0 0 72 [] [] SH (r, F, L, RT t)) → Wp l 101 (d + 15) 0 0 P 0 0 7 [(0, .ref 31), (1, .int x1), (2, .int x2)] [] SH (I, F, L, RT t) := by
  intro k
  induction k with
  | zero =>
    intro x2 I hg hx
    exact hg.elim
  | succ k ih =>
    intro x2 I hg hx
    have hg := Eq.mp (gl_101_7.eq_2 ..) hg
    obtain ⟨T1, hT1⟩ : ∃ r : WI, r = lp_101_7 rec t x1 (k + 1) x2 I := ⟨_, rfl⟩
    have hx : ∀ r : WI, r = T1 → Wp l 101 (d + 15) 0 0 P 0 0 72 [] [] SH (r, F, L, RT t) := fun r hr => hx r (hr.trans hT1)
    have he := (hT1.trans (lp_101_7.eq_2 ..)).symm
    refine bk_101_7 (fun h2 => ?_) (fun h2 => ?_)
    · have he := ite_p h2 he
      exact hx I he
    · have he := ite_n h2 he
      have hg := hg h2
      refine bk_101_14 (fun h3 => ?_) (fun h3 => ?_)
      · have he := ite_p h3 he
        have hg := hg.1 h3
        obtain ⟨X1, hX1⟩ : ∃ r : Int32, r = (if ¬ (I 31 4) = 43 then (-10) else (-9)) := ⟨_, rfl⟩
        have J1 : ∀ p2 : Int32, p2 = X1 → Wp l 101 (d + 15) 0 0 P 0 0 48 [(0, .ref 31), (1, .int x1), (2, .int x2)] [.int p2] SH (I, F, L, RT t) := by
          intro p2 hr
          have hr := hr.trans hX1
          have he := bx_eq hr he
          have hg := bx_un hr hg
          obtain ⟨k5, hg⟩ := hg
          refine bk_101_48 (cq_V_I (cc_85 (d := d + 3)  k5)) ?_
          rintro _ _ _ _ ⟨p3, hr, rfl, rfl, rfl, rfl⟩
          have he := bx_eq hr he
          have hg := bx_un hr hg
          obtain ⟨k6, hg⟩ := hg
          refine bk_101_53 (cq_V_I (cc_102 (d := d + 0) hrec (by omega) ht k6)) ?_
          rintro _ _ _ _ ⟨p4, hr, rfl, rfl, rfl, rfl⟩
          have he := bx_eq hr he
          have hg := bx_un hr hg
          obtain ⟨k7, hg⟩ := hg
          refine bk_101_58 ht (cq_V_I (cc_81 (d := d + 14) ht k7)) ?_
          rintro _ _ _ _ ⟨p5, hr, rfl, rfl, rfl, rfl⟩
          have he := bx_eq hr he
          have hg := bx_un hr hg
          refine bk_101_66 ?_
          exact ih (x2 + 1) p5 hg (fun r hr => hx r (hr.trans he))
        have he := hX1.symm
        refine bk_101_32 (fun h4 => ?_) (fun h4 => ?_)
        · have he := ite_p h4 he
          refine bk_101_46 ?_
          exact J1 (-10) he
        · have he := ite_n h4 he
          refine bk_101_41 ?_
          exact J1 (-9) he
      · have he := ite_n h3 he
        have hg := hg.2 h3
        refine bk_101_23 (fun h8 => ?_) (fun h8 => ?_)
        · have he := ite_p h8 he
          exact hx I he
        · have he := ite_n h8 he
          have hg := hg h8
          obtain ⟨X2, hX2⟩ : ∃ r : Int32, r = (if ¬ (I 31 4) = 43 then (-10) else (-9)) := ⟨_, rfl⟩
          have J2 : ∀ p6 : Int32, p6 = X2 → Wp l 101 (d + 15) 0 0 P 0 0 48 [(0, .ref 31), (1, .int x1), (2, .int x2)] [.int p6] SH (I, F, L, RT t) := by
            intro p6 hr
            have hr := hr.trans hX2
            have he := bx_eq hr he
            have hg := bx_un hr hg
            obtain ⟨k10, hg⟩ := hg
            refine bk_101_48 (cq_V_I (cc_85 (d := d + 3)  k10)) ?_
            rintro _ _ _ _ ⟨p7, hr, rfl, rfl, rfl, rfl⟩
            have he := bx_eq hr he
            have hg := bx_un hr hg
            obtain ⟨k11, hg⟩ := hg
            refine bk_101_53 (cq_V_I (cc_102 (d := d + 0) hrec (by omega) ht k11)) ?_
            rintro _ _ _ _ ⟨p8, hr, rfl, rfl, rfl, rfl⟩
            have he := bx_eq hr he
            have hg := bx_un hr hg
            obtain ⟨k12, hg⟩ := hg
            refine bk_101_58 ht (cq_V_I (cc_81 (d := d + 14) ht k12)) ?_
            rintro _ _ _ _ ⟨p9, hr, rfl, rfl, rfl, rfl⟩
            have he := bx_eq hr he
            have hg := bx_un hr hg
            refine bk_101_66 ?_
            exact ih (x2 + 1) p9 hg (fun r hr => hx r (hr.trans he))
          have he := hX2.symm
          refine bk_101_32 (fun h9 => ?_) (fun h9 => ?_)
          · have he := ite_p h9 he
            refine bk_101_46 ?_
            exact J2 (-10) he
          · have he := ite_n h9 he
            refine bk_101_41 ?_
            exact J2 (-9) he
/-- VectorShelf$TextReader.sum(I)V -/
def v_101 (rec : RECTC) (I : WI) (t : Nat) (x1 : Int32) : WI := (bx ((v_102 rec I t x1) : WI) (fun p1 => (bx ((lp_101_7 rec t x1 400 (0 : Int32) p1) : WI) (fun p10 => p10))))
def g_101 (rec : RECTC) (okr : OKRTC) (I : WI) (t : Nat) (x1 : Int32) : Prop := ((g_102 rec okr I t x1) ∧ (bx ((v_102 rec I t x1) : WI) (fun p1 => (gl_101_7 rec okr t x1 400 (0 : Int32) p1))))
theorem cc_101 {l : LX} {d : Nat} {I : WI} {F : WF} {L : WL} {t : Nat} {rec : RECTC} {okr : OKRTC} {dr : Nat} (hrec : HRECC l dr rec okr) (hd : dr ≤ d) {x1 : Int32} (ht : isT t) (hg : g_101 rec okr I t x1) : Con l 101 (d + 15) 0 0 [.ref 31, .int x1] SH (I, F, L, RT t) (po_V_I F L t (v_101 rec I t x1)) := by
  refine cn_101 ?_
  obtain ⟨T1, hT1⟩ : ∃ r : WI, r = (v_101 rec I t x1) := ⟨_, rfl⟩
  rw [← hT1]
  have he := (hT1.trans (v_101.eq_1 ..)).symm
  have hg := Eq.mp (g_101.eq_1 ..) hg
  obtain ⟨k1, hg⟩ := hg
  refine bk_101_0 (cq_V_I (cc_102 (d := d + 0) hrec (by omega) ht k1)) ?_
  rintro _ _ _ _ ⟨p1, hr, rfl, rfl, rfl, rfl⟩
  have he := bx_eq hr he
  have hg := bx_un hr hg
  refine bk_101_5 ?_
  have hgX := hg
  refine lw_101_7 (d := d) hrec (by omega) ht 400 (0 : Int32) p1 hgX (fun p10 hr => ?_)
  have he := bx_eq hr he
  exact bk_101_72 (rl_V_I he)
/-- VectorShelf$TextReader.compared(I)V -/
def v_100 (rec : RECTC) (I : WI) (t : Nat) (x1 : Int32) : WI := (bx ((v_101 rec I t x1) : WI) (fun p1 => (if (p1 31 4) = 60 then (bx ((if ¬ (p1 31 4) = 60 then (-13) else (-12)) : Int32) (fun p2 => (bx ((v_85 p1) : WI) (fun p3 => (bx ((v_101 rec p3 t x1) : WI) (fun p4 => (bx ((v_81 p4 t p2) : WI) (fun p5 => p5)))))))) else (if ¬ (p1 31 4) = 61 then p1 else (bx ((if ¬ (p1 31 4) = 60 then (-13) else (-12)) : Int32) (fun p6 => (bx ((v_85 p1) : WI) (fun p7 => (bx ((v_101 rec p7 t x1) : WI) (fun p8 => (bx ((v_81 p8 t p6) : WI) (fun p9 => p9))))))))))))
def g_100 (rec : RECTC) (okr : OKRTC) (I : WI) (t : Nat) (x1 : Int32) : Prop := ((g_101 rec okr I t x1) ∧ (bx ((v_101 rec I t x1) : WI) (fun p1 => ((((p1 31 4) = 60) → (bx ((if ¬ (p1 31 4) = 60 then (-13) else (-12)) : Int32) (fun p2 => ((g_85 p1) ∧ (bx ((v_85 p1) : WI) (fun p3 => ((g_101 rec okr p3 t x1) ∧ (bx ((v_101 rec p3 t x1) : WI) (fun p4 => (g_81 p4 t)))))))))) ∧ (¬ ((p1 31 4) = 60) → (¬ (¬ (p1 31 4) = 61) → (bx ((if ¬ (p1 31 4) = 60 then (-13) else (-12)) : Int32) (fun p6 => ((g_85 p1) ∧ (bx ((v_85 p1) : WI) (fun p7 => ((g_101 rec okr p7 t x1) ∧ (bx ((v_101 rec p7 t x1) : WI) (fun p8 => (g_81 p8 t)))))))))))))))
theorem cc_100 {l : LX} {d : Nat} {I : WI} {F : WF} {L : WL} {t : Nat} {rec : RECTC} {okr : OKRTC} {dr : Nat} (hrec : HRECC l dr rec okr) (hd : dr ≤ d) {x1 : Int32} (ht : isT t) (hg : g_100 rec okr I t x1) : Con l 100 (d + 16) 0 0 [.ref 31, .int x1] SH (I, F, L, RT t) (po_V_I F L t (v_100 rec I t x1)) := by
  refine cn_100 ?_
  obtain ⟨T1, hT1⟩ : ∃ r : WI, r = (v_100 rec I t x1) := ⟨_, rfl⟩
  rw [← hT1]
  have he := (hT1.trans (v_100.eq_1 ..)).symm
  have hg := Eq.mp (g_100.eq_1 ..) hg
  obtain ⟨k1, hg⟩ := hg
  refine bk_100_0 (cq_V_I (cc_101 (d := d + 0) hrec (by omega) ht k1)) ?_
  rintro _ _ _ _ ⟨p1, hr, rfl, rfl, rfl, rfl⟩
  have he := bx_eq hr he
  have hg := bx_un hr hg
  refine bk_100_5 (fun h2 => ?_) (fun h2 => ?_)
  · have he := ite_p h2 he
    have hg := hg.1 h2
    obtain ⟨X1, hX1⟩ : ∃ r : Int32, r = (if ¬ (p1 31 4) = 60 then (-13) else (-12)) := ⟨_, rfl⟩
    have J1 : ∀ p2 : Int32, p2 = X1 → Wp l 100 (d + 16) 0 0 (po_V_I F L t T1) 0 0 39 [(0, .ref 31), (1, .int x1)] [.int p2] SH (p1, F, L, RT t) := by
      intro p2 hr
      have hr := hr.trans hX1
      have he := bx_eq hr he
      have hg := bx_un hr hg
      obtain ⟨k4, hg⟩ := hg
      refine bk_100_39 (cq_V_I (cc_85 (d := d + 4)  k4)) ?_
      rintro _ _ _ _ ⟨p3, hr, rfl, rfl, rfl, rfl⟩
      have he := bx_eq hr he
      have hg := bx_un hr hg
      obtain ⟨k5, hg⟩ := hg
      refine bk_100_44 (cq_V_I (cc_101 (d := d + 0) hrec (by omega) ht k5)) ?_
      rintro _ _ _ _ ⟨p4, hr, rfl, rfl, rfl, rfl⟩
      have he := bx_eq hr he
      have hg := bx_un hr hg
      have k6 := hg
      refine bk_100_49 ht (cq_V_I (cc_81 (d := d + 15) ht k6)) ?_
      rintro _ _ _ _ ⟨p5, hr, rfl, rfl, rfl, rfl⟩
      have he := bx_eq hr he
      exact bk_100_57 (rl_V_I he)
    have he := hX1.symm
    refine bk_100_23 (fun h3 => ?_) (fun h3 => ?_)
    · have he := ite_p h3 he
      refine bk_100_37 ?_
      exact J1 (-13) he
    · have he := ite_n h3 he
      refine bk_100_32 ?_
      exact J1 (-12) he
  · have he := ite_n h2 he
    have hg := hg.2 h2
    refine bk_100_14 (fun h7 => ?_) (fun h7 => ?_)
    · have he := ite_p h7 he
      exact bk_100_57 (rl_V_I he)
    · have he := ite_n h7 he
      have hg := hg h7
      obtain ⟨X2, hX2⟩ : ∃ r : Int32, r = (if ¬ (p1 31 4) = 60 then (-13) else (-12)) := ⟨_, rfl⟩
      have J2 : ∀ p6 : Int32, p6 = X2 → Wp l 100 (d + 16) 0 0 (po_V_I F L t T1) 0 0 39 [(0, .ref 31), (1, .int x1)] [.int p6] SH (p1, F, L, RT t) := by
        intro p6 hr
        have hr := hr.trans hX2
        have he := bx_eq hr he
        have hg := bx_un hr hg
        obtain ⟨k9, hg⟩ := hg
        refine bk_100_39 (cq_V_I (cc_85 (d := d + 4)  k9)) ?_
        rintro _ _ _ _ ⟨p7, hr, rfl, rfl, rfl, rfl⟩
        have he := bx_eq hr he
        have hg := bx_un hr hg
        obtain ⟨k10, hg⟩ := hg
        refine bk_100_44 (cq_V_I (cc_101 (d := d + 0) hrec (by omega) ht k10)) ?_
        rintro _ _ _ _ ⟨p8, hr, rfl, rfl, rfl, rfl⟩
        have he := bx_eq hr he
        have hg := bx_un hr hg
        have k11 := hg
        refine bk_100_49 ht (cq_V_I (cc_81 (d := d + 15) ht k11)) ?_
        rintro _ _ _ _ ⟨p9, hr, rfl, rfl, rfl, rfl⟩
        have he := bx_eq hr he
        exact bk_100_57 (rl_V_I he)
      have he := hX2.symm
      refine bk_100_23 (fun h8 => ?_) (fun h8 => ?_)
      · have he := ite_p h8 he
        refine bk_100_37 ?_
        exact J2 (-13) he
      · have he := ite_n h8 he
        refine bk_100_32 ?_
        exact J2 (-12) he
/-- VectorShelf$TextReader.negated(I)V -/
def v_99 (rec : RECTC) (I : WI) (t : Nat) (x1 : Int32) : WI := (if (I 31 4) = 264 then (if x1 < 5 then (bx ((v_85 I) : WI) (fun p1 => (bx ((rec 99 p1 t (x1 + 1)) : WI) (fun p2 => (bx ((v_81 p2 t ((-8) : Int32)) : WI) (fun p3 => p3)))))) else (bx ((v_96 I) : WI) (fun p4 => p4))) else (bx ((v_100 rec I t x1) : WI) (fun p5 => p5)))
def g_99 (rec : RECTC) (okr : OKRTC) (I : WI) (t : Nat) (x1 : Int32) : Prop := ((((I 31 4) = 264) → ((x1 < 5) → ((g_85 I) ∧ (bx ((v_85 I) : WI) (fun p1 => ((okr 99 p1 t (x1 + 1)) ∧ (bx ((rec 99 p1 t (x1 + 1)) : WI) (fun p2 => (g_81 p2 t))))))))) ∧ (¬ ((I 31 4) = 264) → (g_100 rec okr I t x1)))
theorem cc_99 {l : LX} {d : Nat} {I : WI} {F : WF} {L : WL} {t : Nat} {rec : RECTC} {okr : OKRTC} {dr : Nat} (hrec : HRECC l dr rec okr) (hd : dr ≤ d) {x1 : Int32} (ht : isT t) (hg : g_99 rec okr I t x1) : Con l 99 (d + 17) 0 0 [.ref 31, .int x1] SH (I, F, L, RT t) (po_V_I F L t (v_99 rec I t x1)) := by
  refine cn_99 ?_
  obtain ⟨T1, hT1⟩ : ∃ r : WI, r = (v_99 rec I t x1) := ⟨_, rfl⟩
  rw [← hT1]
  have he := (hT1.trans (v_99.eq_1 ..)).symm
  have hg := Eq.mp (g_99.eq_1 ..) hg
  refine bk_99_0 (fun h1 => ?_) (fun h1 => ?_)
  · have he := ite_p h1 he
    have hg := hg.1 h1
    refine bk_99_18 (fun h2 => ?_) (fun h2 => ?_)
    · have he := ite_p h2 he
      have hg := hg h2
      obtain ⟨k3, hg⟩ := hg
      refine bk_99_30 (cq_V_I (cc_85 (d := d + 5)  k3)) ?_
      rintro _ _ _ _ ⟨p1, hr, rfl, rfl, rfl, rfl⟩
      have he := bx_eq hr he
      have hg := bx_un hr hg
      obtain ⟨k4, hg⟩ := hg
      refine bk_99_34 (cq_V_I (hrec (d + 16) (by omega) 99 _ F L _ _ (by simp) ht k4)) ?_
      rintro _ _ _ _ ⟨p2, hr, rfl, rfl, rfl, rfl⟩
      have he := bx_eq hr he
      have hg := bx_un hr hg
      have k5 := hg
      refine bk_99_41 ht (cq_V_I (cc_81 (d := d + 16) ht k5)) ?_
      rintro _ _ _ _ ⟨p3, hr, rfl, rfl, rfl, rfl⟩
      have he := bx_eq hr he
      exact bk_99_50 (rl_V_I he)
    · have he := ite_n h2 he
      refine bk_99_23 (cq_V_I (cc_96 (d := d + 16) )) ?_
      rintro _ _ _ _ ⟨p4, hr, rfl, rfl, rfl, rfl⟩
      have he := bx_eq hr he
      refine bk_99_27 ?_
      exact bk_99_50 (rl_V_I he)
  · have he := ite_n h1 he
    have hg := hg.2 h1
    have k7 := hg
    refine bk_99_10 (cq_V_I (cc_100 (d := d + 0) hrec (by omega) ht k7)) ?_
    rintro _ _ _ _ ⟨p5, hr, rfl, rfl, rfl, rfl⟩
    have he := bx_eq hr he
    refine bk_99_15 ?_
    exact bk_99_50 (rl_V_I he)
/-- the loop at 7 of VectorShelf$TextReader.both -/
def lp_98_7 (rec : RECTC) (t : Nat) (x1 : Int32) : Nat → Int32 → WI → WI
  | 0, x2, I => I
  | k + 1, x2, I => (if 160 ≤ x2 then I else (if ¬ (I 31 4) = 263 then I else (bx ((v_85 I) : WI) (fun p2 => (bx ((v_99 rec p2 t x1) : WI) (fun p3 => (bx ((v_81 p3 t ((-14) : Int32)) : WI) (fun p4 => (lp_98_7 rec t x1 k (x2 + 1) p4)))))))))
def gl_98_7 (rec : RECTC) (okr : OKRTC) (t : Nat) (x1 : Int32) : Nat → Int32 → WI → Prop
  | 0, _, _ => False
  | k + 1, x2, I => (¬ (160 ≤ x2) → (¬ (¬ (I 31 4) = 263) → ((g_85 I) ∧ (bx ((v_85 I) : WI) (fun p2 => ((g_99 rec okr p2 t x1) ∧ (bx ((v_99 rec p2 t x1) : WI) (fun p3 => ((g_81 p3 t) ∧ (bx ((v_81 p3 t ((-14) : Int32)) : WI) (fun p4 => (gl_98_7 rec okr t x1 k (x2 + 1) p4))))))))))))
theorem lw_98_7 {l : LX} {d : Nat} {P : RP} {rec : RECTC} {okr : OKRTC} {F : WF} {L : WL} {t : Nat} {x1 : Int32} {dr : Nat} (hrec : HRECC l dr rec okr) (hd : dr ≤ d) (ht : isT t) : ∀ k : Nat, ∀ (x2 : Int32) (I : WI), gl_98_7 rec okr t x1 k x2 I → (∀ r : WI, r = lp_98_7 rec t x1 k x2 I → Wp l 98 (d + 18) 0 0 P 0 0 48 [] [] SH (r, F, L, RT t)) → Wp l 98 (d + 18) 0 0 P 0 0 7 [(0, .ref 31), (1, .int x1), (2, .int x2)] [] SH (I, F, L, RT t) := by
  intro k
  induction k with
  | zero =>
    intro x2 I hg hx
    exact hg.elim
  | succ k ih =>
    intro x2 I hg hx
    have hg := Eq.mp (gl_98_7.eq_2 ..) hg
    obtain ⟨T1, hT1⟩ : ∃ r : WI, r = lp_98_7 rec t x1 (k + 1) x2 I := ⟨_, rfl⟩
    have hx : ∀ r : WI, r = T1 → Wp l 98 (d + 18) 0 0 P 0 0 48 [] [] SH (r, F, L, RT t) := fun r hr => hx r (hr.trans hT1)
    have he := (hT1.trans (lp_98_7.eq_2 ..)).symm
    refine bk_98_7 (fun h2 => ?_) (fun h2 => ?_)
    · have he := ite_p h2 he
      exact hx I he
    · have he := ite_n h2 he
      have hg := hg h2
      refine bk_98_14 (fun h3 => ?_) (fun h3 => ?_)
      · have he := ite_p h3 he
        exact hx I he
      · have he := ite_n h3 he
        have hg := hg h3
        obtain ⟨k4, hg⟩ := hg
        refine bk_98_24 (cq_V_I (cc_85 (d := d + 6)  k4)) ?_
        rintro _ _ _ _ ⟨p2, hr, rfl, rfl, rfl, rfl⟩
        have he := bx_eq hr he
        have hg := bx_un hr hg
        obtain ⟨k5, hg⟩ := hg
        refine bk_98_28 (cq_V_I (cc_99 (d := d + 0) hrec (by omega) ht k5)) ?_
        rintro _ _ _ _ ⟨p3, hr, rfl, rfl, rfl, rfl⟩
        have he := bx_eq hr he
        have hg := bx_un hr hg
        obtain ⟨k6, hg⟩ := hg
        refine bk_98_33 ht (cq_V_I (cc_81 (d := d + 17) ht k6)) ?_
        rintro _ _ _ _ ⟨p4, hr, rfl, rfl, rfl, rfl⟩
        have he := bx_eq hr he
        have hg := bx_un hr hg
        refine bk_98_42 ?_
        exact ih (x2 + 1) p4 hg (fun r hr => hx r (hr.trans he))
/-- VectorShelf$TextReader.both(I)V -/
def v_98 (rec : RECTC) (I : WI) (t : Nat) (x1 : Int32) : WI := (bx ((v_99 rec I t x1) : WI) (fun p1 => (bx ((lp_98_7 rec t x1 400 (0 : Int32) p1) : WI) (fun p5 => p5))))
def g_98 (rec : RECTC) (okr : OKRTC) (I : WI) (t : Nat) (x1 : Int32) : Prop := ((g_99 rec okr I t x1) ∧ (bx ((v_99 rec I t x1) : WI) (fun p1 => (gl_98_7 rec okr t x1 400 (0 : Int32) p1))))
theorem cc_98 {l : LX} {d : Nat} {I : WI} {F : WF} {L : WL} {t : Nat} {rec : RECTC} {okr : OKRTC} {dr : Nat} (hrec : HRECC l dr rec okr) (hd : dr ≤ d) {x1 : Int32} (ht : isT t) (hg : g_98 rec okr I t x1) : Con l 98 (d + 18) 0 0 [.ref 31, .int x1] SH (I, F, L, RT t) (po_V_I F L t (v_98 rec I t x1)) := by
  refine cn_98 ?_
  obtain ⟨T1, hT1⟩ : ∃ r : WI, r = (v_98 rec I t x1) := ⟨_, rfl⟩
  rw [← hT1]
  have he := (hT1.trans (v_98.eq_1 ..)).symm
  have hg := Eq.mp (g_98.eq_1 ..) hg
  obtain ⟨k1, hg⟩ := hg
  refine bk_98_0 (cq_V_I (cc_99 (d := d + 0) hrec (by omega) ht k1)) ?_
  rintro _ _ _ _ ⟨p1, hr, rfl, rfl, rfl, rfl⟩
  have he := bx_eq hr he
  have hg := bx_un hr hg
  refine bk_98_5 ?_
  have hgX := hg
  refine lw_98_7 (d := d) hrec (by omega) ht 400 (0 : Int32) p1 hgX (fun p5 hr => ?_)
  have he := bx_eq hr he
  exact bk_98_48 (rl_V_I he)
/-- the loop at 7 of VectorShelf$TextReader.either -/
def lp_97_7 (rec : RECTC) (t : Nat) (x1 : Int32) : Nat → Int32 → WI → WI
  | 0, x2, I => I
  | k + 1, x2, I => (if 160 ≤ x2 then I else (if ¬ (I 31 4) = 262 then I else (bx ((v_85 I) : WI) (fun p2 => (bx ((v_98 rec p2 t x1) : WI) (fun p3 => (bx ((v_81 p3 t ((-15) : Int32)) : WI) (fun p4 => (lp_97_7 rec t x1 k (x2 + 1) p4)))))))))
def gl_97_7 (rec : RECTC) (okr : OKRTC) (t : Nat) (x1 : Int32) : Nat → Int32 → WI → Prop
  | 0, _, _ => False
  | k + 1, x2, I => (¬ (160 ≤ x2) → (¬ (¬ (I 31 4) = 262) → ((g_85 I) ∧ (bx ((v_85 I) : WI) (fun p2 => ((g_98 rec okr p2 t x1) ∧ (bx ((v_98 rec p2 t x1) : WI) (fun p3 => ((g_81 p3 t) ∧ (bx ((v_81 p3 t ((-15) : Int32)) : WI) (fun p4 => (gl_97_7 rec okr t x1 k (x2 + 1) p4))))))))))))
theorem lw_97_7 {l : LX} {d : Nat} {P : RP} {rec : RECTC} {okr : OKRTC} {F : WF} {L : WL} {t : Nat} {x1 : Int32} {dr : Nat} (hrec : HRECC l dr rec okr) (hd : dr ≤ d) (ht : isT t) : ∀ k : Nat, ∀ (x2 : Int32) (I : WI), gl_97_7 rec okr t x1 k x2 I → (∀ r : WI, r = lp_97_7 rec t x1 k x2 I → Wp l 97 (d + 19) 0 0 P 0 0 48 [] [] SH (r, F, L, RT t)) → Wp l 97 (d + 19) 0 0 P 0 0 7 [(0, .ref 31), (1, .int x1), (2, .int x2)] [] SH (I, F, L, RT t) := by
  intro k
  induction k with
  | zero =>
    intro x2 I hg hx
    exact hg.elim
  | succ k ih =>
    intro x2 I hg hx
    have hg := Eq.mp (gl_97_7.eq_2 ..) hg
    obtain ⟨T1, hT1⟩ : ∃ r : WI, r = lp_97_7 rec t x1 (k + 1) x2 I := ⟨_, rfl⟩
    have hx : ∀ r : WI, r = T1 → Wp l 97 (d + 19) 0 0 P 0 0 48 [] [] SH (r, F, L, RT t) := fun r hr => hx r (hr.trans hT1)
    have he := (hT1.trans (lp_97_7.eq_2 ..)).symm
    refine bk_97_7 (fun h2 => ?_) (fun h2 => ?_)
    · have he := ite_p h2 he
      exact hx I he
    · have he := ite_n h2 he
      have hg := hg h2
      refine bk_97_14 (fun h3 => ?_) (fun h3 => ?_)
      · have he := ite_p h3 he
        exact hx I he
      · have he := ite_n h3 he
        have hg := hg h3
        obtain ⟨k4, hg⟩ := hg
        refine bk_97_24 (cq_V_I (cc_85 (d := d + 7)  k4)) ?_
        rintro _ _ _ _ ⟨p2, hr, rfl, rfl, rfl, rfl⟩
        have he := bx_eq hr he
        have hg := bx_un hr hg
        obtain ⟨k5, hg⟩ := hg
        refine bk_97_28 (cq_V_I (cc_98 (d := d + 0) hrec (by omega) ht k5)) ?_
        rintro _ _ _ _ ⟨p3, hr, rfl, rfl, rfl, rfl⟩
        have he := bx_eq hr he
        have hg := bx_un hr hg
        obtain ⟨k6, hg⟩ := hg
        refine bk_97_33 ht (cq_V_I (cc_81 (d := d + 18) ht k6)) ?_
        rintro _ _ _ _ ⟨p4, hr, rfl, rfl, rfl, rfl⟩
        have he := bx_eq hr he
        have hg := bx_un hr hg
        refine bk_97_42 ?_
        exact ih (x2 + 1) p4 hg (fun r hr => hx r (hr.trans he))
/-- VectorShelf$TextReader.either(I)V -/
def v_97 (rec : RECTC) (I : WI) (t : Nat) (x1 : Int32) : WI := (bx ((v_98 rec I t x1) : WI) (fun p1 => (bx ((lp_97_7 rec t x1 400 (0 : Int32) p1) : WI) (fun p5 => p5))))
def g_97 (rec : RECTC) (okr : OKRTC) (I : WI) (t : Nat) (x1 : Int32) : Prop := ((g_98 rec okr I t x1) ∧ (bx ((v_98 rec I t x1) : WI) (fun p1 => (gl_97_7 rec okr t x1 400 (0 : Int32) p1))))
theorem cc_97 {l : LX} {d : Nat} {I : WI} {F : WF} {L : WL} {t : Nat} {rec : RECTC} {okr : OKRTC} {dr : Nat} (hrec : HRECC l dr rec okr) (hd : dr ≤ d) {x1 : Int32} (ht : isT t) (hg : g_97 rec okr I t x1) : Con l 97 (d + 19) 0 0 [.ref 31, .int x1] SH (I, F, L, RT t) (po_V_I F L t (v_97 rec I t x1)) := by
  refine cn_97 ?_
  obtain ⟨T1, hT1⟩ : ∃ r : WI, r = (v_97 rec I t x1) := ⟨_, rfl⟩
  rw [← hT1]
  have he := (hT1.trans (v_97.eq_1 ..)).symm
  have hg := Eq.mp (g_97.eq_1 ..) hg
  obtain ⟨k1, hg⟩ := hg
  refine bk_97_0 (cq_V_I (cc_98 (d := d + 0) hrec (by omega) ht k1)) ?_
  rintro _ _ _ _ ⟨p1, hr, rfl, rfl, rfl, rfl⟩
  have he := bx_eq hr he
  have hg := bx_un hr hg
  refine bk_97_5 ?_
  have hgX := hg
  refine lw_97_7 (d := d) hrec (by omega) ht 400 (0 : Int32) p1 hgX (fun p5 hr => ?_)
  have he := bx_eq hr he
  exact bk_97_48 (rl_V_I he)
def pcl : Nat → RECTC
  | 0, _, I, _, _ => I
  | n + 1, s, I, t, x => if s = 97 then v_97 (pcl n) I t x else if s = 99 then v_99 (pcl n) I t x else v_103 (pcl n) I t x
def okcl : Nat → OKRTC
  | 0, _, _, _, _ => False
  | n + 1, s, I, t, x => if s = 97 then g_97 (pcl n) (okcl n) I t x else if s = 99 then g_99 (pcl n) (okcl n) I t x else g_103 (pcl n) (okcl n) I t x
theorem pcl_97 {n : Nat} {I : WI} {t : Nat} {x : Int32} : pcl (n + 1) 97 I t x = v_97 (pcl n) I t x := by simp [pcl]
theorem okcl_97 {n : Nat} {I : WI} {t : Nat} {x : Int32} : okcl (n + 1) 97 I t x ↔ g_97 (pcl n) (okcl n) I t x := by simp [okcl]
theorem pcl_99 {n : Nat} {I : WI} {t : Nat} {x : Int32} : pcl (n + 1) 99 I t x = v_99 (pcl n) I t x := by simp [pcl]
theorem okcl_99 {n : Nat} {I : WI} {t : Nat} {x : Int32} : okcl (n + 1) 99 I t x ↔ g_99 (pcl n) (okcl n) I t x := by simp [okcl]
theorem pcl_103 {n : Nat} {I : WI} {t : Nat} {x : Int32} : pcl (n + 1) 103 I t x = v_103 (pcl n) I t x := by simp [pcl]
theorem okcl_103 {n : Nat} {I : WI} {t : Nat} {x : Int32} : okcl (n + 1) 103 I t x ↔ g_103 (pcl n) (okcl n) I t x := by simp [okcl]
theorem hrec_C {l : LX} : ∀ n, HRECC l (20 * n) (pcl n) (okcl n) := by
  intro n
  induction n with
  | zero => intro d _ s I F L t x _ _ h; exact h.elim
  | succ n ih =>
    intro d hd s I F L t x hs ht hk
    obtain ⟨e, rfl⟩ : ∃ e, d = e + 20 := ⟨d - 20, by omega⟩
    rcases hs with rfl | rfl | rfl
    · rw [pcl_97]
      have hk := okcl_97.mp hk
      exact cc_97 (d := e + 1) ih (by omega) ht hk
    · rw [pcl_99]
      have hk := okcl_99.mp hk
      exact cc_99 (d := e + 3) ih (by omega) ht hk
    · rw [pcl_103]
      have hk := okcl_103.mp hk
      exact cc_103 (d := e + 7) ih (by omega) ht hk
/-- the same, closed to unfolding -/
noncomputable def pcc (I : WI) (t : Nat) (x : Int32) : WI := Classical.choose (⟨pcl 8 97 I t x, rfl⟩ : ∃ r : WI, r = pcl 8 97 I t x)
theorem pcc_eq (I : WI) (t : Nat) (x : Int32) : pcc I t x = pcl 8 97 I t x := Classical.choose_spec (⟨pcl 8 97 I t x, rfl⟩ : ∃ r : WI, r = pcl 8 97 I t x)
/-- the same, closed to unfolding -/
noncomputable def okcc (I : WI) (t : Nat) (x : Int32) : Prop := Classical.choose (⟨okcl 8 97 I t x, rfl⟩ : ∃ r : Prop, r = okcl 8 97 I t x)
theorem okcc_eq (I : WI) (t : Nat) (x : Int32) : okcc I t x = okcl 8 97 I t x := Classical.choose_spec (⟨okcl 8 97 I t x, rfl⟩ : ∃ r : Prop, r = okcl 8 97 I t x)
theorem cp_97 {l : LX} {d : Nat} {I : WI} {F : WF} {L : WL} {t : Nat} {x1 : Int32} (hd : 170 ≤ d) (ht : isT t) (hg : okcc I t x1) : Con l 97 d 0 0 [.ref 31, .int x1] SH (I, F, L, RT t) (po_V_I F L t (pcc I t x1)) := by
  rw [pcc_eq]
  rw [okcc_eq] at hg
  exact hrec_C 8 d (by omega) 97 I F L t x1 (by simp) ht hg
/-- VectorShelf$TextReader.readInto(LVectorShelf$Text;)I -/
noncomputable def v_84 (I : WI) (t : Nat) (r1 : Nat) : Int32 × WI × Nat := (bx ((v_80 I r1) : WI) (fun p1 => (bx ((v_85 (up2 (up2 p1 31 6 (-1)) 31 3 0)) : WI) (fun p2 => (bx ((v_95 p2 (260 : Int32)) : WI) (fun p3 => (bx ((pcc p3 r1 (0 : Int32)) : WI) (fun p4 => (bx ((v_95 p4 (59 : Int32)) : WI) (fun p5 => (bx ((v_95 (up2 p5 r1 2 (p5 r1 1)) (261 : Int32)) : WI) (fun p6 => (bx ((pcc p6 r1 (0 : Int32)) : WI) (fun p7 => (bx ((v_95 p7 (59 : Int32)) : WI) (fun p8 => (bx ((if (p8 31 4) = 256 then p8 else (bx ((v_96 p8) : WI) (fun p9 => p9))) : WI) (fun p10 => ((p10 31 6), (up2 p10 31 1 0), r1)))))))))))))))))))
noncomputable def g_84 (I : WI) (r1 : Nat) : Prop := (bx ((v_80 I r1) : WI) (fun p1 => ((g_85 (up2 (up2 p1 31 6 (-1)) 31 3 0)) ∧ (bx ((v_85 (up2 (up2 p1 31 6 (-1)) 31 3 0)) : WI) (fun p2 => ((g_95 p2 (260 : Int32)) ∧ (bx ((v_95 p2 (260 : Int32)) : WI) (fun p3 => ((okcc p3 r1 (0 : Int32)) ∧ (bx ((pcc p3 r1 (0 : Int32)) : WI) (fun p4 => ((g_95 p4 (59 : Int32)) ∧ (bx ((v_95 p4 (59 : Int32)) : WI) (fun p5 => ((g_95 (up2 p5 r1 2 (p5 r1 1)) (261 : Int32)) ∧ (bx ((v_95 (up2 p5 r1 2 (p5 r1 1)) (261 : Int32)) : WI) (fun p6 => ((okcc p6 r1 (0 : Int32)) ∧ (bx ((pcc p6 r1 (0 : Int32)) : WI) (fun p7 => (g_95 p7 (59 : Int32))))))))))))))))))))))
theorem cc_84 {l : LX} {d : Nat} {I : WI} {F : WF} {L : WL} {t : Nat} {r1 : Nat} (hd : 171 ≤ d) (hr1 : isT r1) (hg : g_84 I r1) : Con l 84 d 0 0 [.ref 31, .ref r1] SH (I, F, L, RT t) (po_I_It F L (v_84 I t r1)) := by
  obtain ⟨d, rfl⟩ : ∃ e, d = e + 171 := ⟨d - 171, by omega⟩
  refine cn_84 ?_
  obtain ⟨T1, hT1⟩ : ∃ r : Int32 × WI × Nat, r = (v_84 I t r1) := ⟨_, rfl⟩
  rw [← hT1]
  have he := (hT1.trans (v_84.eq_1 ..)).symm
  have hg := Eq.mp (g_84.eq_1 ..) hg
  refine bk_84_0 hr1 (cq_V_I (cc_80 (d := d + 170) hr1)) ?_
  rintro _ _ _ _ ⟨p1, hr, rfl, rfl, rfl, rfl⟩
  have he := bx_eq hr he
  have hg := bx_un hr hg
  obtain ⟨k2, hg⟩ := hg
  refine bk_84_12 (cq_V_I (cc_85 (d := d + 159)  k2)) ?_
  rintro _ _ _ _ ⟨p2, hr, rfl, rfl, rfl, rfl⟩
  have he := bx_eq hr he
  have hg := bx_un hr hg
  obtain ⟨k3, hg⟩ := hg
  refine bk_84_26 (cq_V_I (cc_95 (d := d + 158)  k3)) ?_
  rintro _ _ _ _ ⟨p3, hr, rfl, rfl, rfl, rfl⟩
  have he := bx_eq hr he
  have hg := bx_un hr hg
  obtain ⟨k4, hg⟩ := hg
  refine bk_84_33 (cq_V_I (cp_97 (d := d + 170) (by omega) hr1 k4)) ?_
  rintro _ _ _ _ ⟨p4, hr, rfl, rfl, rfl, rfl⟩
  have he := bx_eq hr he
  have hg := bx_un hr hg
  obtain ⟨k5, hg⟩ := hg
  refine bk_84_38 (cq_V_I (cc_95 (d := d + 158)  k5)) ?_
  rintro _ _ _ _ ⟨p5, hr, rfl, rfl, rfl, rfl⟩
  have he := bx_eq hr he
  have hg := bx_un hr hg
  obtain ⟨k6, hg⟩ := hg
  refine bk_84_44 hr1 (cq_V_I (cc_95 (d := d + 158)  k6)) ?_
  rintro _ _ _ _ ⟨p6, hr, rfl, rfl, rfl, rfl⟩
  have he := bx_eq hr he
  have hg := bx_un hr hg
  obtain ⟨k7, hg⟩ := hg
  refine bk_84_65 (cq_V_I (cp_97 (d := d + 170) (by omega) hr1 k7)) ?_
  rintro _ _ _ _ ⟨p7, hr, rfl, rfl, rfl, rfl⟩
  have he := bx_eq hr he
  have hg := bx_un hr hg
  have k8 := hg
  refine bk_84_70 (cq_V_I (cc_95 (d := d + 158)  k8)) ?_
  rintro _ _ _ _ ⟨p8, hr, rfl, rfl, rfl, rfl⟩
  have he := bx_eq hr he
  obtain ⟨X1, hX1⟩ : ∃ r : WI, r = (if (p8 31 4) = 256 then p8 else (bx ((v_96 p8) : WI) (fun p9 => p9))) := ⟨_, rfl⟩
  have J1 : ∀ p10 : WI, p10 = X1 → Wp l 84 (d + 171) 0 0 (po_I_It F L T1) 0 0 90 [(0, .ref 31)] [] SH (p10, F, L, RT r1) := by
    intro p10 hr
    have hr := hr.trans hX1
    have he := bx_eq hr he
    exact bk_84_90 (rl_I_It he)
  have he := hX1.symm
  refine bk_84_76 (fun h9 => ?_) (fun h9 => ?_)
  · have he := ite_p h9 he
    exact J1 p8 he
  · have he := ite_n h9 he
    refine bk_84_86 (cq_V_I (cc_96 (d := d + 170) )) ?_
    rintro _ _ _ _ ⟨p9, hr, rfl, rfl, rfl, rfl⟩
    have he := bx_eq hr he
    exact J1 p9 he
end
