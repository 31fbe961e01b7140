section
/-- VectorShelfModel.isItem(II)Z -/
def v_272 (I : WI) (x1 : Int32) (x2 : Int32) : Int32 := (v_170 (Int32.toInt64 x2) (0 : Int64) (Int32.toInt64 ((I 113 x1.toNatClampNeg) - 1)))
def g_272 (x1 : Int32) : Prop := (vp_in x1 4)
theorem cc_272 {l : LX} {d : Nat} {I : WI} {F : WF} {L : WL} {t : Nat} {x1 : Int32} {x2 : Int32} (hg : g_272 x1) : Con l 272 (d + 1) 0 0 [.ref 74, .int x1, .int x2] SH (I, F, L, RT t) (rI (v_272 I x1 x2) (I, F, L, RT t)) := by
  refine cn_272 ?_
  obtain ⟨T1, hT1⟩ : ∃ r : Int32, r = (v_272 I x1 x2) := ⟨_, rfl⟩
  rw [← hT1]
  have he := (hT1.trans (v_272.eq_1 ..)).symm
  have hg := Eq.mp (g_272.eq_1 ..) hg
  have k1 := hg
  refine bk_272_0 k1 (cc_170 (d := d + 0) ) ?_
  exact bk_272_15 (sb_170 ..) (rl_p_I he)
theorem sb_272 (I : WI) (x1 : Int32) (x2 : Int32) : (v_272 I x1 x2) &&& 1 = (v_272 I x1 x2) := by
  unfold v_272
  repeat' split
  all_goals first | rfl | exact sb_170 ..
/-- VectorShelfModel.blank(II)I -/
def v_273 (I : WI) (x1 : Int32) (x2 : Int32) : Int32 × WI := (if ¬ (v_262 x1) = 0 then (if ¬ (I 111 x1.toNatClampNeg) = 0 then (if (I 112 x1.toNatClampNeg) = 0 then (if ¬ (v_272 I x1 x2) = 0 then (1, (up2 I 116 ((40 * x1) + x2).toNatClampNeg (vp_nar (bT 0) 1))) else ((-12), I)) else ((-13), I)) else ((-11), I)) else ((-2), I))
def g_273 (I : WI) (x1 : Int32) (x2 : Int32) : Prop := ((¬ (v_262 x1) = 0) → ((vp_in x1 4) ∧ ((¬ (I 111 x1.toNatClampNeg) = 0) → ((vp_in x1 4) ∧ (((I 112 x1.toNatClampNeg) = 0) → ((g_272 x1) ∧ ((¬ (v_272 I x1 x2) = 0) → (vp_in ((40 * x1) + x2) 160))))))))
theorem cc_273 {l : LX} {d : Nat} {I : WI} {F : WF} {L : WL} {t : Nat} {x1 : Int32} {x2 : Int32} (hg : g_273 I x1 x2) : Con l 273 (d + 2) 0 0 [.ref 74, .int x1, .int x2] SH (I, F, L, RT t) (po_I_I F L t (v_273 I x1 x2)) := by
  refine cn_273 ?_
  obtain ⟨T1, hT1⟩ : ∃ r : Int32 × WI, r = (v_273 I x1 x2) := ⟨_, rfl⟩
  rw [← hT1]
  have he := (hT1.trans (v_273.eq_1 ..)).symm
  have hg := Eq.mp (g_273.eq_1 ..) hg
  refine bk_273_0 (cc_262 (d := d + 0) ) ?_
  refine bk_273_4 (fun h2 => ?_) (fun h2 => ?_)
  · have he := ite_p h2 he
    have hg := hg h2
    obtain ⟨k3, hg⟩ := hg
    refine bk_273_10 k3 (fun h4 => ?_) (fun h4 => ?_)
    · have he := ite_p h4 he
      have hg := hg h4
      obtain ⟨k5, hg⟩ := hg
      refine bk_273_22 k5 (fun h6 => ?_) (fun h6 => ?_)
      · have he := ite_p h6 he
        have hg := hg h6
        obtain ⟨k7, hg⟩ := hg
        refine bk_273_34 (cc_272 (d := d + 0)  k7) ?_
        refine bk_273_40 (fun h8 => ?_) (fun h8 => ?_)
        · have he := ite_p h8 he
          have hg := hg h8
          have k9 := hg
          exact bk_273_46 k9 (rl_I_I he)
        · have he := ite_n h8 he
          exact bk_273_43 (rl_I_I he)
      · have he := ite_n h6 he
        exact bk_273_31 (rl_I_I he)
    · have he := ite_n h4 he
      exact bk_273_19 (rl_I_I he)
  · have he := ite_n h2 he
    exact bk_273_7 (rl_I_I he)
/-- VectorShelfModel.item(II)I -/
def v_274 (I : WI) (F : WF) (x1 : Int32) (x2 : Int32) : Int32 := (if (v_262 x1) = 0 then (-99999) else (if (I 111 x1.toNatClampNeg) = 0 then (-99999) else (if (v_272 I x1 x2) = 0 then (-99999) else (v_264 I F x1 x2))))
def g_274 (I : WI) (F : WF) (x1 : Int32) (x2 : Int32) : Prop := (¬ ((v_262 x1) = 0) → ((vp_in x1 4) ∧ (¬ ((I 111 x1.toNatClampNeg) = 0) → ((g_272 x1) ∧ (¬ ((v_272 I x1 x2) = 0) → (g_264 I F x1 x2))))))
theorem cc_274 {l : LX} {d : Nat} {I : WI} {F : WF} {L : WL} {t : Nat} {x1 : Int32} {x2 : Int32} (hg : g_274 I F x1 x2) : Con l 274 (d + 2) 0 0 [.ref 74, .int x1, .int x2] SH (I, F, L, RT t) (rI (v_274 I F x1 x2) (I, F, L, RT t)) := by
  refine cn_274 ?_
  obtain ⟨T1, hT1⟩ : ∃ r : Int32, r = (v_274 I F x1 x2) := ⟨_, rfl⟩
  rw [← hT1]
  have he := (hT1.trans (v_274.eq_1 ..)).symm
  have hg := Eq.mp (g_274.eq_1 ..) hg
  refine bk_274_0 (cc_262 (d := d + 0) ) ?_
  refine bk_274_4 (fun h2 => ?_) (fun h2 => ?_)
  · have he := ite_p h2 he
    refine bk_274_34 ?_
    exact bk_274_37 (rl_p_I he)
  · have he := ite_n h2 he
    have hg := hg h2
    obtain ⟨k3, hg⟩ := hg
    refine bk_274_7 k3 (fun h4 => ?_) (fun h4 => ?_)
    · have he := ite_p h4 he
      refine bk_274_34 ?_
      exact bk_274_37 (rl_p_I he)
    · have he := ite_n h4 he
      have hg := hg h4
      obtain ⟨k5, hg⟩ := hg
      refine bk_274_16 (cc_272 (d := d + 0)  k5) ?_
      refine bk_274_22 (fun h6 => ?_) (fun h6 => ?_)
      · have he := ite_p h6 he
        refine bk_274_34 ?_
        exact bk_274_37 (rl_p_I he)
      · have he := ite_n h6 he
        have hg := hg h6
        have k7 := hg
        refine bk_274_25 (cc_264 (d := d + 1)  k7) ?_
        refine bk_274_31 ?_
        exact bk_274_37 (rl_p_I he)
/-- the loop at 121 of VectorShelfModel.copy -/
def lp_275_121 (I : WI) (F : WF) (x1 : Int32) (x2 : Int32) (x3 : Int32) (x4 : Int32) (x5 : Int32) (x6 : Int32) : Nat → WI × WF
  | 0 => (I, F)
  | k + 1 => bx (lp_275_121 I F x1 x2 x3 x4 x5 x6 k) (fun p2 => (bx ((if x6 = 0 then (nI k) else ((x5 - 1) - (nI k))) : Int32) (fun p3 => ((up2 (up2 p2.1 114 (((40 * x3) + x4) + p3).toNatClampNeg (p2.1 114 (((40 * x1) + x2) + p3).toNatClampNeg)) 116 (((40 * x3) + x4) + p3).toNatClampNeg (vp_nar (bT 0) (p2.1 116 (((40 * x1) + x2) + p3).toNatClampNeg))), (up2 p2.2 115 (((40 * x3) + x4) + p3).toNatClampNeg (p2.2 115 (((40 * x1) + x2) + p3).toNatClampNeg))))))
def gl_275_121 (I : WI) (F : WF) (x1 : Int32) (x2 : Int32) (x3 : Int32) (x4 : Int32) (x5 : Int32) (x6 : Int32) (N : Nat) : Prop := (∀ k, k < N → bx (lp_275_121 I F x1 x2 x3 x4 x5 x6 k) (fun p2 => (bx ((if x6 = 0 then (nI k) else ((x5 - 1) - (nI k))) : Int32) (fun p3 => ((vp_in (((40 * x1) + x2) + p3) 160) ∧ (vp_in (((40 * x3) + x4) + p3) 160))))))
theorem lw_275_121 {l : LX} {d : Nat} {P : RP} {I : WI} {F : WF} {L : WL} {t : Nat} {x1 : Int32} {x2 : Int32} {x3 : Int32} {x4 : Int32} {x5 : Int32} {x6 : Int32} (hgl : gl_275_121 I F x1 x2 x3 x4 x5 x6 x5.toNatClampNeg) (hx : ∀ p2 : WI × WF, p2 = lp_275_121 I F x1 x2 x3 x4 x5 x6 x5.toNatClampNeg → Wp l 275 (d + 2) 0 0 P 0 0 218 [(5, .int x5)] [] SH (p2.1, p2.2, L, RT t)) : Wp l 275 (d + 2) 0 0 P 0 0 121 [(0, .ref 74), (1, .int x1), (2, .int x2), (3, .int x3), (4, .int x4), (5, .int x5), (6, .int x6), (7, .int 0)] [] SH (I, F, L, RT t) := by
  have hin := hgl
  have loop : ∀ m k, k + m = x5.toNatClampNeg → ∀ p2 : WI × WF, p2 = lp_275_121 I F x1 x2 x3 x4 x5 x6 k → Wp l 275 (d + 2) 0 0 P 0 0 121 [(0, .ref 74), (1, .int x1), (2, .int x2), (3, .int x3), (4, .int x4), (5, .int x5), (6, .int x6), (7, .int (nI k))] [] SH (p2.1, p2.2, L, RT t) := by
    intro m
    induction m with
    | zero =>
      intro k hk p2 hs
      obtain rfl : k = x5.toNatClampNeg := by omega
      exact bk_275_121  (fun _ => hx _ hs) (fun h => absurd ((le_cl (Nat.le_refl _)).mpr rfl) h)
    | succ m ih =>
      intro k hk p2 hs
      have hk2 : k < x5.toNatClampNeg := by omega
      have ih := ih (k + 1) (by omega)
      rw [nI_succ] at ih
      have he := bx_eq hs (lp_275_121.eq_2 ..).symm
      have hg := bx_un hs (hin k hk2)
      refine bk_275_121  (fun h => absurd ((le_cl (E := x5) (i := k) (by omega)).mp h) (by omega)) (fun _ => ?_)
      obtain ⟨X2, hX2⟩ : ∃ r : Int32, r = (if x6 = 0 then (nI k) else ((x5 - 1) - (nI k))) := ⟨_, rfl⟩
      have J2 : ∀ p3 : Int32, p3 = X2 → Wp l 275 (d + 2) 0 0 P 0 0 145 [(0, .ref 74), (1, .int x1), (2, .int x2), (3, .int x3), (4, .int x4), (5, .int x5), (6, .int x6), (7, .int (nI k))] [.int p3] SH (p2.1, p2.2, L, RT t) := by
        intro p3 hr
        have hr := hr.trans hX2
        have he := bx_eq hr he
        have hg := bx_un hr hg
        obtain ⟨k22, k23⟩ := hg
        refine bk_275_145 k22 k23 ?_
        exact ih ((up2 (up2 p2.1 114 (((40 * x3) + x4) + p3).toNatClampNeg (p2.1 114 (((40 * x1) + x2) + p3).toNatClampNeg)) 116 (((40 * x3) + x4) + p3).toNatClampNeg (vp_nar (bT 0) (p2.1 116 (((40 * x1) + x2) + p3).toNatClampNeg))), (up2 p2.2 115 (((40 * x3) + x4) + p3).toNatClampNeg (p2.2 115 (((40 * x1) + x2) + p3).toNatClampNeg))) he
      have he := hX2.symm
      refine bk_275_128 (fun h21 => ?_) (fun h21 => ?_)
      · have he := ite_p h21 he
        refine bk_275_143 ?_
        exact J2 (nI k) he
      · have he := ite_n h21 he
        refine bk_275_133 ?_
        exact J2 ((x5 - 1) - (nI k)) he
  exact loop _ 0 (Nat.zero_add _) _ rfl
/-- VectorShelfModel.copy(IIIII)I -/
def v_275 (I : WI) (F : WF) (x1 : Int32) (x2 : Int32) (x3 : Int32) (x4 : Int32) (x5 : Int32) : Int32 × WI × WF := (if (v_262 x1) = 0 then ((-2), I, F) else (if ¬ (v_262 x3) = 0 then (if (I 111 x1.toNatClampNeg) = 0 then ((-11), I, F) else (if ¬ (I 111 x3.toNatClampNeg) = 0 then (if (I 112 x1.toNatClampNeg) = (I 112 x3.toNatClampNeg) then (if x5 < 0 then ((-12), I, F) else (if x2 < 0 then ((-12), I, F) else (if x4 < 0 then ((-12), I, F) else (if ((I 113 x1.toNatClampNeg) - x5) < x2 then ((-12), I, F) else (if x4 ≤ ((I 113 x3.toNatClampNeg) - x5) then (bx ((if ¬ x1 = x3 then 0 else (if x4 ≤ x2 then 0 else 1)) : Int32) (fun p1 => (bx ((lp_275_121 I F x1 x2 x3 x4 x5 p1 x5.toNatClampNeg) : WI × WF) (fun p4 => (x5, p4.1, p4.2))))) else ((-12), I, F)))))) else ((-13), I, F)) else ((-11), I, F))) else ((-2), I, F)))
def g_275 (I : WI) (F : WF) (x1 : Int32) (x2 : Int32) (x3 : Int32) (x4 : Int32) (x5 : Int32) : Prop := (¬ ((v_262 x1) = 0) → ((¬ (v_262 x3) = 0) → ((vp_in x1 4) ∧ (¬ ((I 111 x1.toNatClampNeg) = 0) → ((vp_in x3 4) ∧ ((¬ (I 111 x3.toNatClampNeg) = 0) → ((vp_in x1 4) ∧ ((vp_in x3 4) ∧ (((I 112 x1.toNatClampNeg) = (I 112 x3.toNatClampNeg)) → (¬ (x5 < 0) → (¬ (x2 < 0) → (¬ (x4 < 0) → ((vp_in x1 4) ∧ (¬ (((I 113 x1.toNatClampNeg) - x5) < x2) → ((vp_in x3 4) ∧ ((x4 ≤ ((I 113 x3.toNatClampNeg) - x5)) → (bx ((if ¬ x1 = x3 then 0 else (if x4 ≤ x2 then 0 else 1)) : Int32) (fun p1 => (gl_275_121 I F x1 x2 x3 x4 x5 p1 x5.toNatClampNeg)))))))))))))))))))
theorem cc_275 {l : LX} {d : Nat} {I : WI} {F : WF} {L : WL} {t : Nat} {x1 : Int32} {x2 : Int32} {x3 : Int32} {x4 : Int32} {x5 : Int32} (hg : g_275 I F x1 x2 x3 x4 x5) : Con l 275 (d + 2) 0 0 [.ref 74, .int x1, .int x2, .int x3, .int x4, .int x5] SH (I, F, L, RT t) (po_I_IF L t (v_275 I F x1 x2 x3 x4 x5)) := by
  refine cn_275 ?_
  obtain ⟨T1, hT1⟩ : ∃ r : Int32 × WI × WF, r = (v_275 I F x1 x2 x3 x4 x5) := ⟨_, rfl⟩
  rw [← hT1]
  have he := (hT1.trans (v_275.eq_1 ..)).symm
  have hg := Eq.mp (g_275.eq_1 ..) hg
  refine bk_275_0 (cc_262 (d := d + 0) ) ?_
  refine bk_275_4 (fun h2 => ?_) (fun h2 => ?_)
  · have he := ite_p h2 he
    exact bk_275_14 (rl_I_IF he)
  · have he := ite_n h2 he
    have hg := hg h2
    refine bk_275_7 (cc_262 (d := d + 0) ) ?_
    refine bk_275_11 (fun h4 => ?_) (fun h4 => ?_)
    · have he := ite_p h4 he
      have hg := hg h4
      obtain ⟨k5, hg⟩ := hg
      refine bk_275_17 k5 (fun h6 => ?_) (fun h6 => ?_)
      · have he := ite_p h6 he
        exact bk_275_35 (rl_I_IF he)
      · have he := ite_n h6 he
        have hg := hg h6
        obtain ⟨k7, hg⟩ := hg
        refine bk_275_26 k7 (fun h8 => ?_) (fun h8 => ?_)
        · have he := ite_p h8 he
          have hg := hg h8
          obtain ⟨k9, k10, hg⟩ := hg
          refine bk_275_38 k9 k10 (fun h11 => ?_) (fun h11 => ?_)
          · have he := ite_p h11 he
            have hg := hg h11
            refine bk_275_56 (fun h12 => ?_) (fun h12 => ?_)
            · have he := ite_p h12 he
              exact bk_275_97 (rl_I_IF he)
            · have he := ite_n h12 he
              have hg := hg h12
              refine bk_275_61 (fun h13 => ?_) (fun h13 => ?_)
              · have he := ite_p h13 he
                exact bk_275_97 (rl_I_IF he)
              · have he := ite_n h13 he
                have hg := hg h13
                refine bk_275_65 (fun h14 => ?_) (fun h14 => ?_)
                · have he := ite_p h14 he
                  exact bk_275_97 (rl_I_IF he)
                · have he := ite_n h14 he
                  have hg := hg h14
                  obtain ⟨k15, hg⟩ := hg
                  refine bk_275_70 k15 (fun h16 => ?_) (fun h16 => ?_)
                  · have he := ite_p h16 he
                    exact bk_275_97 (rl_I_IF he)
                  · have he := ite_n h16 he
                    have hg := hg h16
                    obtain ⟨k17, hg⟩ := hg
                    refine bk_275_83 k17 (fun h18 => ?_) (fun h18 => ?_)
                    · have he := ite_p h18 he
                      have hg := hg h18
                      obtain ⟨X1, hX1⟩ : ∃ r : Int32, r = (if ¬ x1 = x3 then 0 else (if x4 ≤ x2 then 0 else 1)) := ⟨_, rfl⟩
                      have J1 : ∀ p1 : Int32, p1 = X1 → Wp l 275 (d + 2) 0 0 (po_I_IF L t T1) 0 0 116 [(0, .ref 74), (1, .int x1), (2, .int x2), (3, .int x3), (4, .int x4), (5, .int x5)] [.int p1] SH (I, F, L, RT t) := by
                        intro p1 hr
                        have hr := hr.trans hX1
                        have he := bx_eq hr he
                        have hg := bx_un hr hg
                        refine bk_275_116 ?_
                        have hgX := hg
                        refine lw_275_121 (d := d)  hgX (fun p4 hr => ?_)
                        have he := bx_eq hr he
                        exact bk_275_218 (rl_I_IF he)
                      have he := hX1.symm
                      refine bk_275_100 (fun h19 => ?_) (fun h19 => ?_)
                      · have he := ite_p h19 he
                        refine bk_275_115 ?_
                        exact J1 0 he
                      · have he := ite_n h19 he
                        refine bk_275_105 (fun h20 => ?_) (fun h20 => ?_)
                        · have he := ite_p h20 he
                          refine bk_275_115 ?_
                          exact J1 0 he
                        · have he := ite_n h20 he
                          refine bk_275_111 ?_
                          exact J1 1 he
                    · have he := ite_n h18 he
                      exact bk_275_97 (rl_I_IF he)
          · have he := ite_n h11 he
            exact bk_275_53 (rl_I_IF he)
        · have he := ite_n h8 he
          exact bk_275_35 (rl_I_IF he)
    · have he := ite_n h4 he
      exact bk_275_14 (rl_I_IF he)
/-- VectorShelfModel.rest(III)I -/
def v_276 (I : WI) (x1 : Int32) (x2 : Int32) (x3 : Int32) : Int32 := (if ¬ (v_262 x1) = 0 then (if ¬ (I 111 x1.toNatClampNeg) = 0 then (if (I 112 x1.toNatClampNeg) = 1 then (if (v_272 I x1 x2) = 0 then (-12) else (if ¬ (v_272 I x1 x3) = 0 then (if ¬ (I 114 ((40 * x1) + x3).toNatClampNeg) = 0 then ((I 114 ((40 * x1) + x2).toNatClampNeg) - (I 114 ((40 * x1) + x2).toNatClampNeg) / (I 114 ((40 * x1) + x3).toNatClampNeg) * (I 114 ((40 * x1) + x3).toNatClampNeg)) else (-15)) else (-12))) else (-13)) else (-11)) else (-2))
def g_276 (I : WI) (x1 : Int32) (x2 : Int32) (x3 : Int32) : Prop := ((¬ (v_262 x1) = 0) → ((vp_in x1 4) ∧ ((¬ (I 111 x1.toNatClampNeg) = 0) → ((vp_in x1 4) ∧ (((I 112 x1.toNatClampNeg) = 1) → ((g_272 x1) ∧ (¬ ((v_272 I x1 x2) = 0) → ((g_272 x1) ∧ ((¬ (v_272 I x1 x3) = 0) → ((vp_in ((40 * x1) + x3) 160) ∧ ((¬ (I 114 ((40 * x1) + x3).toNatClampNeg) = 0) → ((vp_in ((40 * x1) + x2) 160) ∧ (¬ ((I 114 ((40 * x1) + x3).toNatClampNeg) : Int32) = 0)))))))))))))
theorem cc_276 {l : LX} {d : Nat} {I : WI} {F : WF} {L : WL} {t : Nat} {x1 : Int32} {x2 : Int32} {x3 : Int32} (hg : g_276 I x1 x2 x3) : Con l 276 (d + 2) 0 0 [.ref 74, .int x1, .int x2, .int x3] SH (I, F, L, RT t) (rI (v_276 I x1 x2 x3) (I, F, L, RT t)) := by
  refine cn_276 ?_
  obtain ⟨T1, hT1⟩ : ∃ r : Int32, r = (v_276 I x1 x2 x3) := ⟨_, rfl⟩
  rw [← hT1]
  have he := (hT1.trans (v_276.eq_1 ..)).symm
  have hg := Eq.mp (g_276.eq_1 ..) hg
  refine bk_276_0 (cc_262 (d := d + 0) ) ?_
  refine bk_276_4 (fun h2 => ?_) (fun h2 => ?_)
  · have he := ite_p h2 he
    have hg := hg h2
    obtain ⟨k3, hg⟩ := hg
    refine bk_276_10 k3 (fun h4 => ?_) (fun h4 => ?_)
    · have he := ite_p h4 he
      have hg := hg h4
      obtain ⟨k5, hg⟩ := hg
      refine bk_276_22 k5 (fun h6 => ?_) (fun h6 => ?_)
      · have he := ite_p h6 he
        have hg := hg h6
        obtain ⟨k7, hg⟩ := hg
        refine bk_276_35 (cc_272 (d := d + 0)  k7) ?_
        refine bk_276_41 (fun h8 => ?_) (fun h8 => ?_)
        · have he := ite_p h8 he
          exact bk_276_53 (rl_p_I he)
        · have he := ite_n h8 he
          have hg := hg h8
          obtain ⟨k9, hg⟩ := hg
          refine bk_276_44 (cc_272 (d := d + 0)  k9) ?_
          refine bk_276_50 (fun h10 => ?_) (fun h10 => ?_)
          · have he := ite_p h10 he
            have hg := hg h10
            obtain ⟨k11, hg⟩ := hg
            refine bk_276_56 k11 (fun h12 => ?_) (fun h12 => ?_)
            · have he := ite_p h12 he
              have hg := hg h12
              obtain ⟨k13, k14⟩ := hg
              refine bk_276_79 k13 k14 ?_
              exact bk_276_93 (rl_p_I he)
            · have he := ite_n h12 he
              refine bk_276_74 ?_
              exact bk_276_93 (rl_p_I he)
          · have he := ite_n h10 he
            exact bk_276_53 (rl_p_I he)
      · have he := ite_n h6 he
        exact bk_276_32 (rl_p_I he)
    · have he := ite_n h4 he
      exact bk_276_19 (rl_p_I he)
  · have he := ite_n h2 he
    exact bk_276_7 (rl_p_I he)
/-- VectorShelfModel.over(I)I -/
def v_281 (x0 : Int32) : Int32 := (if ¬ x0 = 0 then (if ¬ x0 = 3 then (if ¬ x0 = 4 then (if ¬ x0 = 5 then 0 else 3) else 2) else 1) else (-1))
theorem cc_281 {l : LX} {d : Nat} {I : WI} {F : WF} {L : WL} {t : Nat} {x0 : Int32} : Con l 281 (d + 0) 0 0 [.int x0] SH (I, F, L, RT t) (rI (v_281 x0) (I, F, L, RT t)) := by
  refine cn_281 ?_
  obtain ⟨T1, hT1⟩ : ∃ r : Int32, r = (v_281 x0) := ⟨_, rfl⟩
  rw [← hT1]
  have he := (hT1.trans (v_281.eq_1 ..)).symm
  refine bk_281_0 (fun h1 => ?_) (fun h1 => ?_)
  · have he := ite_p h1 he
    refine bk_281_8 (fun h2 => ?_) (fun h2 => ?_)
    · have he := ite_p h2 he
      refine bk_281_17 (fun h3 => ?_) (fun h3 => ?_)
      · have he := ite_p h3 he
        refine bk_281_26 (fun h4 => ?_) (fun h4 => ?_)
        · have he := ite_p h4 he
          refine bk_281_35 ?_
          exact bk_281_36 (rl_p_I he)
        · have he := ite_n h4 he
          refine bk_281_31 ?_
          exact bk_281_36 (rl_p_I he)
      · have he := ite_n h3 he
        refine bk_281_22 ?_
        exact bk_281_36 (rl_p_I he)
    · have he := ite_n h2 he
      refine bk_281_13 ?_
      exact bk_281_36 (rl_p_I he)
  · have he := ite_n h1 he
    refine bk_281_4 ?_
    exact bk_281_36 (rl_p_I he)
/-- java/lang/Math.min(II)I -/
def v_282 (x0 : Int32) (x1 : Int32) : Int32 := (if x1 < x0 then x1 else x0)
theorem cc_282 {l : LX} {d : Nat} {I : WI} {F : WF} {L : WL} {t : Nat} {x0 : Int32} {x1 : Int32} : Con l 282 (d + 0) 0 0 [.int x0, .int x1] SH (I, F, L, RT t) (rI (v_282 x0 x1) (I, F, L, RT t)) := by
  refine cn_282 ?_
  obtain ⟨T1, hT1⟩ : ∃ r : Int32, r = (v_282 x0 x1) := ⟨_, rfl⟩
  rw [← hT1]
  have he := (hT1.trans (v_282.eq_1 ..)).symm
  refine bk_282_0 (fun h1 => ?_) (fun h1 => ?_)
  · have he := ite_p h1 he
    refine bk_282_9 ?_
    exact bk_282_10 (rl_p_I he)
  · have he := ite_n h1 he
    refine bk_282_5 ?_
    exact bk_282_10 (rl_p_I he)
/-- java/lang/Math.max(II)I -/
def v_283 (x0 : Int32) (x1 : Int32) : Int32 := (if x0 < x1 then x1 else x0)
theorem cc_283 {l : LX} {d : Nat} {I : WI} {F : WF} {L : WL} {t : Nat} {x0 : Int32} {x1 : Int32} : Con l 283 (d + 0) 0 0 [.int x0, .int x1] SH (I, F, L, RT t) (rI (v_283 x0 x1) (I, F, L, RT t)) := by
  refine cn_283 ?_
  obtain ⟨T1, hT1⟩ : ∃ r : Int32, r = (v_283 x0 x1) := ⟨_, rfl⟩
  rw [← hT1]
  have he := (hT1.trans (v_283.eq_1 ..)).symm
  refine bk_283_0 (fun h1 => ?_) (fun h1 => ?_)
  · have he := ite_p h1 he
    refine bk_283_9 ?_
    exact bk_283_10 (rl_p_I he)
  · have he := ite_n h1 he
    refine bk_283_5 ?_
    exact bk_283_10 (rl_p_I he)
/-- java/lang/Math.floorDiv(II)I -/
def v_284 (x0 : Int32) (x1 : Int32) : Int32 := (if 0 ≤ (x0 ^^^ x1) then (x0 / x1) else (if ((x0 / x1) * x1) = x0 then (x0 / x1) else ((x0 / x1) - 1)))
def g_284 (x1 : Int32) : Prop := (¬ (x1 : Int32) = 0)
theorem cc_284 {l : LX} {d : Nat} {I : WI} {F : WF} {L : WL} {t : Nat} {x0 : Int32} {x1 : Int32} (hg : g_284 x1) : Con l 284 (d + 0) 0 0 [.int x0, .int x1] SH (I, F, L, RT t) (rI (v_284 x0 x1) (I, F, L, RT t)) := by
  refine cn_284 ?_
  obtain ⟨T1, hT1⟩ : ∃ r : Int32, r = (v_284 x0 x1) := ⟨_, rfl⟩
  rw [← hT1]
  have he := (hT1.trans (v_284.eq_1 ..)).symm
  have hg := Eq.mp (g_284.eq_1 ..) hg
  have k1 := hg
  refine bk_284_0 k1 (fun h2 => ?_) (fun h2 => ?_)
  · have he := ite_p h2 he
    exact bk_284_21 (rl_p_I he)
  · have he := ite_n h2 he
    refine bk_284_10 (fun h3 => ?_) (fun h3 => ?_)
    · have he := ite_p h3 he
      exact bk_284_21 (rl_p_I he)
    · have he := ite_n h3 he
      exact bk_284_17 (rl_p_I he)
/-- java/lang/Math.abs(I)I -/
def v_285 (x0 : Int32) : Int32 := (if 0 ≤ x0 then x0 else (-x0))
theorem cc_285 {l : LX} {d : Nat} {I : WI} {F : WF} {L : WL} {t : Nat} {x0 : Int32} : Con l 285 (d + 0) 0 0 [.int x0] SH (I, F, L, RT t) (rI (v_285 x0) (I, F, L, RT t)) := by
  refine cn_285 ?_
  obtain ⟨T1, hT1⟩ : ∃ r : Int32, r = (v_285 x0) := ⟨_, rfl⟩
  rw [← hT1]
  have he := (hT1.trans (v_285.eq_1 ..)).symm
  refine bk_285_0 (fun h1 => ?_) (fun h1 => ?_)
  · have he := ite_p h1 he
    refine bk_285_9 ?_
    exact bk_285_10 (rl_p_I he)
  · have he := ite_n h1 he
    refine bk_285_4 ?_
    exact bk_285_10 (rl_p_I he)
/-- java/lang/Integer.bitCount(I)I -/
def v_286 (x0 : Int32) : Int32 := ((((((((x0 - (((x0.toUInt32 >>> (Int32.toUInt32 1 &&& Int32.toUInt32 31)).toInt32) &&& 1431655765)) &&& 858993459) + ((((x0 - (((x0.toUInt32 >>> (Int32.toUInt32 1 &&& Int32.toUInt32 31)).toInt32) &&& 1431655765)).toUInt32 >>> (Int32.toUInt32 2 &&& Int32.toUInt32 31)).toInt32) &&& 858993459)) + (((((x0 - (((x0.toUInt32 >>> (Int32.toUInt32 1 &&& Int32.toUInt32 31)).toInt32) &&& 1431655765)) &&& 858993459) + ((((x0 - (((x0.toUInt32 >>> (Int32.toUInt32 1 &&& Int32.toUInt32 31)).toInt32) &&& 1431655765)).toUInt32 >>> (Int32.toUInt32 2 &&& Int32.toUInt32 31)).toInt32) &&& 858993459)).toUInt32 >>> (Int32.toUInt32 4 &&& Int32.toUInt32 31)).toInt32)) &&& 252645135) + (((((((x0 - (((x0.toUInt32 >>> (Int32.toUInt32 1 &&& Int32.toUInt32 31)).toInt32) &&& 1431655765)) &&& 858993459) + ((((x0 - (((x0.toUInt32 >>> (Int32.toUInt32 1 &&& Int32.toUInt32 31)).toInt32) &&& 1431655765)).toUInt32 >>> (Int32.toUInt32 2 &&& Int32.toUInt32 31)).toInt32) &&& 858993459)) + (((((x0 - (((x0.toUInt32 >>> (Int32.toUInt32 1 &&& Int32.toUInt32 31)).toInt32) &&& 1431655765)) &&& 858993459) + ((((x0 - (((x0.toUInt32 >>> (Int32.toUInt32 1 &&& Int32.toUInt32 31)).toInt32) &&& 1431655765)).toUInt32 >>> (Int32.toUInt32 2 &&& Int32.toUInt32 31)).toInt32) &&& 858993459)).toUInt32 >>> (Int32.toUInt32 4 &&& Int32.toUInt32 31)).toInt32)) &&& 252645135).toUInt32 >>> (Int32.toUInt32 8 &&& Int32.toUInt32 31)).toInt32)) + ((((((((x0 - (((x0.toUInt32 >>> (Int32.toUInt32 1 &&& Int32.toUInt32 31)).toInt32) &&& 1431655765)) &&& 858993459) + ((((x0 - (((x0.toUInt32 >>> (Int32.toUInt32 1 &&& Int32.toUInt32 31)).toInt32) &&& 1431655765)).toUInt32 >>> (Int32.toUInt32 2 &&& Int32.toUInt32 31)).toInt32) &&& 858993459)) + (((((x0 - (((x0.toUInt32 >>> (Int32.toUInt32 1 &&& Int32.toUInt32 31)).toInt32) &&& 1431655765)) &&& 858993459) + ((((x0 - (((x0.toUInt32 >>> (Int32.toUInt32 1 &&& Int32.toUInt32 31)).toInt32) &&& 1431655765)).toUInt32 >>> (Int32.toUInt32 2 &&& Int32.toUInt32 31)).toInt32) &&& 858993459)).toUInt32 >>> (Int32.toUInt32 4 &&& Int32.toUInt32 31)).toInt32)) &&& 252645135) + (((((((x0 - (((x0.toUInt32 >>> (Int32.toUInt32 1 &&& Int32.toUInt32 31)).toInt32) &&& 1431655765)) &&& 858993459) + ((((x0 - (((x0.toUInt32 >>> (Int32.toUInt32 1 &&& Int32.toUInt32 31)).toInt32) &&& 1431655765)).toUInt32 >>> (Int32.toUInt32 2 &&& Int32.toUInt32 31)).toInt32) &&& 858993459)) + (((((x0 - (((x0.toUInt32 >>> (Int32.toUInt32 1 &&& Int32.toUInt32 31)).toInt32) &&& 1431655765)) &&& 858993459) + ((((x0 - (((x0.toUInt32 >>> (Int32.toUInt32 1 &&& Int32.toUInt32 31)).toInt32) &&& 1431655765)).toUInt32 >>> (Int32.toUInt32 2 &&& Int32.toUInt32 31)).toInt32) &&& 858993459)).toUInt32 >>> (Int32.toUInt32 4 &&& Int32.toUInt32 31)).toInt32)) &&& 252645135).toUInt32 >>> (Int32.toUInt32 8 &&& Int32.toUInt32 31)).toInt32)).toUInt32 >>> (Int32.toUInt32 16 &&& Int32.toUInt32 31)).toInt32)) &&& 63)
theorem cc_286 {l : LX} {d : Nat} {I : WI} {F : WF} {L : WL} {t : Nat} {x0 : Int32} : Con l 286 (d + 0) 0 0 [.int x0] SH (I, F, L, RT t) (rI (v_286 x0) (I, F, L, RT t)) := by
  refine cn_286 ?_
  obtain ⟨T1, hT1⟩ : ∃ r : Int32, r = (v_286 x0) := ⟨_, rfl⟩
  rw [← hT1]
  have he := (hT1.trans (v_286.eq_1 ..)).symm
  exact bk_286_0 (rl_p_I he)
/-- the loop at 5 of VectorShelf$Company.isCovering -/
def lp_10_5 (I : WI) (x1 : Int32) (a3 : Int32) : Nat → Int32
  | 0 => a3
  | k + 1 => bx (lp_10_5 I x1 a3 k) (fun p1 => (bx ((if (v_111 x1 (nI k)) = 0 then p1 else (p1 ||| (I 43 (nI k).toNatClampNeg))) : Int32) (fun p2 => p2)))
def gl_10_5 (I : WI) (x1 : Int32) (a3 : Int32) (N : Nat) : Prop := (∀ k, k < N → bx (lp_10_5 I x1 a3 k) (fun p1 => (¬ ((v_111 x1 (nI k)) = 0) → (vp_in (nI k) 12))))
theorem lw_10_5 {l : LX} {d : Nat} {P : RP} {I : WI} {F : WF} {L : WL} {t : Nat} {x1 : Int32} {x2 : Int32} {a3 : Int32} (hgl : gl_10_5 I x1 a3 ((12 : Int32).toNatClampNeg)) (hx : ∀ p1 : Int32, p1 = lp_10_5 I x1 a3 ((12 : Int32).toNatClampNeg) → Wp l 10 (d + 1) 0 0 P 0 0 40 [(2, .int x2), (3, .int p1)] [] SH (I, F, L, RT t)) : Wp l 10 (d + 1) 0 0 P 0 0 5 [(0, .ref 42), (1, .int x1), (2, .int x2), (3, .int a3), (4, .int 0)] [] SH (I, F, L, RT t) := by
  have hin := hgl
  have loop : ∀ m k, k + m = (12 : Int32).toNatClampNeg → ∀ p1 : Int32, p1 = lp_10_5 I x1 a3 k → Wp l 10 (d + 1) 0 0 P 0 0 5 [(0, .ref 42), (1, .int x1), (2, .int x2), (3, .int p1), (4, .int (nI k))] [] SH (I, F, L, RT t) := by
    intro m
    induction m with
    | zero =>
      intro k hk p1 hs
      obtain rfl : k = (12 : Int32).toNatClampNeg := by omega
      exact bk_10_5  (fun _ => hx _ hs) (fun h => absurd ((le_cl (Nat.le_refl _)).mpr rfl) h)
    | succ m ih =>
      intro k hk p1 hs
      have hk2 : k < (12 : Int32).toNatClampNeg := by omega
      have ih := ih (k + 1) (by omega)
      rw [nI_succ] at ih
      have he := bx_eq hs (lp_10_5.eq_2 ..).symm
      have hg := bx_un hs (hin k hk2)
      refine bk_10_5  (fun h => absurd ((le_cl (E := 12) (i := k) (by omega)).mp h) (by omega)) (fun _ => ?_)
      refine bk_10_15 (cc_111 (d := d + 0) ) ?_
      have hgX := hg
      obtain ⟨X1, hX1⟩ : ∃ r : Int32, r = (if (v_111 x1 (nI k)) = 0 then p1 else (p1 ||| (I 43 (nI k).toNatClampNeg))) := ⟨_, rfl⟩
      have J1 : ∀ p2 : Int32, p2 = X1 → Wp l 10 (d + 1) 0 0 P 0 0 34 [(0, .ref 42), (1, .int x1), (2, .int x2), (3, .int p2), (4, .int (nI k))] [] SH (I, F, L, RT t) := by
        intro p2 hr
        have hr := hr.trans hX1
        have he := bx_eq hr he
        refine bk_10_34 ?_
        exact ih p2 he
      have he := hX1.symm
      have hg := hgX
      refine bk_10_21 (fun h2 => ?_) (fun h2 => ?_)
      · have he := ite_p h2 he
        exact J1 p1 he
      · have he := ite_n h2 he
        have hg := hg h2
        have k3 := hg
        refine bk_10_24 k3 ?_
        exact J1 (p1 ||| (I 43 (nI k).toNatClampNeg)) he
  exact loop _ 0 (Nat.zero_add _) _ rfl
/-- VectorShelf$Company.isCovering(II)Z -/
def v_10 (I : WI) (x1 : Int32) (x2 : Int32) : Int32 := (bx ((lp_10_5 I x1 (0 : Int32) ((12 : Int32).toNatClampNeg)) : Int32) (fun p3 => (if ¬ (p3 &&& x2) = x2 then 0 else 1)))
def g_10 (I : WI) (x1 : Int32) : Prop := (gl_10_5 I x1 (0 : Int32) ((12 : Int32).toNatClampNeg))
theorem cc_10 {l : LX} {d : Nat} {I : WI} {F : WF} {L : WL} {t : Nat} {x1 : Int32} {x2 : Int32} (hg : g_10 I x1) : Con l 10 (d + 1) 0 0 [.ref 42, .int x1, .int x2] SH (I, F, L, RT t) (rI (v_10 I x1 x2) (I, F, L, RT t)) := by
  refine cn_10 ?_
  obtain ⟨T1, hT1⟩ : ∃ r : Int32, r = (v_10 I x1 x2) := ⟨_, rfl⟩
  rw [← hT1]
  have he := (hT1.trans (v_10.eq_1 ..)).symm
  have hg := Eq.mp (g_10.eq_1 ..) hg
  refine bk_10_0 ?_
  have hgX := hg
  refine lw_10_5 (d := d)  hgX (fun p3 hr => ?_)
  have he := bx_eq hr he
  refine bk_10_40 (fun h4 => ?_) (fun h4 => ?_)
  · have he := ite_p h4 he
    refine bk_10_51 ?_
    exact bk_10_52 (by decide) (rl_p_I he)
  · have he := ite_n h4 he
    refine bk_10_47 ?_
    exact bk_10_52 (by decide) (rl_p_I he)
/-- VectorShelf$Judge.turn(I)V -/
def v_16 (I : WI) (x1 : Int32) : WI := (if (I 35 1) ≤ 0 then I else (bx ((if ¬ x1 = (-7) then (bx ((if ¬ (I 36 ((I 35 1) - 1).toNatClampNeg) = 0 then 0 else 1) : Int32) (fun p1 => (v_17 p1))) else (-(I 36 ((I 35 1) - 1).toNatClampNeg))) : Int32) (fun p2 => (up2 I 36 ((I 35 1) - 1).toNatClampNeg p2))))
def g_16 (I : WI) (x1 : Int32) : Prop := (¬ ((I 35 1) ≤ 0) → ((vp_in ((I 35 1) - 1) 160) ∧ (bx ((if ¬ x1 = (-7) then (bx ((if ¬ (I 36 ((I 35 1) - 1).toNatClampNeg) = 0 then 0 else 1) : Int32) (fun p1 => (v_17 p1))) else (-(I 36 ((I 35 1) - 1).toNatClampNeg))) : Int32) (fun p2 => (vp_in ((I 35 1) - 1) 160)))))
theorem cc_16 {l : LX} {d : Nat} {I : WI} {F : WF} {L : WL} {t : Nat} {x1 : Int32} (hg : g_16 I x1) : Con l 16 (d + 1) 0 0 [.ref 35, .int x1] SH (I, F, L, RT t) (po_V_I F L t (v_16 I x1)) := by
  refine cn_16 ?_
  obtain ⟨T1, hT1⟩ : ∃ r : WI, r = (v_16 I x1) := ⟨_, rfl⟩
  rw [← hT1]
  have he := (hT1.trans (v_16.eq_1 ..)).symm
  have hg := Eq.mp (g_16.eq_1 ..) hg
  refine bk_16_0 (fun h1 => ?_) (fun h1 => ?_)
  · have he := ite_p h1 he
    exact bk_16_53 (rl_V_I he)
  · have he := ite_n h1 he
    have hg := hg h1
    obtain ⟨k2, hg⟩ := hg
    obtain ⟨X1, hX1⟩ : ∃ r : Int32, r = (if ¬ x1 = (-7) then (bx ((if ¬ (I 36 ((I 35 1) - 1).toNatClampNeg) = 0 then 0 else 1) : Int32) (fun p1 => (v_17 p1))) else (-(I 36 ((I 35 1) - 1).toNatClampNeg))) := ⟨_, rfl⟩
    have J1 : ∀ p2 : Int32, p2 = X1 → Wp l 16 (d + 1) 0 0 (po_V_I F L t T1) 0 0 52 [] [.int p2, .int ((I 35 1) - 1), .ref 36] SH (I, F, L, RT t) := by
      intro p2 hr
      have hr := hr.trans hX1
      have he := bx_eq hr he
      have hg := bx_un hr hg
      have k6 := hg
      refine bk_16_52 k6 ?_
      exact bk_16_53 (rl_V_I he)
    have he := hX1.symm
    refine bk_16_7 k2 (fun h3 => ?_) (fun h3 => ?_)
    · have he := ite_p h3 he
      obtain ⟨X2, hX2⟩ : ∃ r : Int32, r = (if ¬ (I 36 ((I 35 1) - 1).toNatClampNeg) = 0 then 0 else 1) := ⟨_, rfl⟩
      have J2 : ∀ p1 : Int32, p1 = X2 → Wp l 16 (d + 1) 0 0 (po_V_I F L t T1) 0 0 49 [] [.int p1, .int ((I 35 1) - 1), .ref 36] SH (I, F, L, RT t) := by
        intro p1 hr
        have hr := hr.trans hX2
        have he := bx_eq hr he
        refine bk_16_49 (cc_17 (d := d + 0) ) ?_
        exact J1 (v_17 p1) he
      have he := hX2.symm
      refine bk_16_40 (fun h4 => ?_) (fun h4 => ?_)
      · have he := ite_p h4 he
        refine bk_16_48 ?_
        exact J2 0 he
      · have he := ite_n h4 he
        refine bk_16_44 ?_
        exact J2 1 he
    · have he := ite_n h3 he
      refine bk_16_35 ?_
      exact J1 (-(I 36 ((I 35 1) - 1).toNatClampNeg)) he
/-- VectorShelf$Judge.join(I)V -/
def v_18 (I : WI) (x1 : Int32) : WI := (if (I 35 1) ≤ 1 then I else (up2 (up2 I 35 1 ((I 35 1) - 1)) 36 (((I 35 1) - 1) - 1).toNatClampNeg (v_19 x1 (I 36 (((I 35 1) - 1) - 1).toNatClampNeg) (I 36 ((I 35 1) - 1).toNatClampNeg))))
def g_18 (I : WI) : Prop := (¬ ((I 35 1) ≤ 1) → ((vp_in (((I 35 1) - 1) - 1) 160) ∧ ((vp_in ((I 35 1) - 1) 160) ∧ (vp_in (((I 35 1) - 1) - 1) 160))))
theorem cc_18 {l : LX} {d : Nat} {I : WI} {F : WF} {L : WL} {t : Nat} {x1 : Int32} (hg : g_18 I) : Con l 18 (d + 2) 0 0 [.ref 35, .int x1] SH (I, F, L, RT t) (po_V_I F L t (v_18 I x1)) := by
  refine cn_18 ?_
  obtain ⟨T1, hT1⟩ : ∃ r : WI, r = (v_18 I x1) := ⟨_, rfl⟩
  rw [← hT1]
  have he := (hT1.trans (v_18.eq_1 ..)).symm
  have hg := Eq.mp (g_18.eq_1 ..) hg
  refine bk_18_0 (fun h1 => ?_) (fun h1 => ?_)
  · have he := ite_p h1 he
    exact bk_18_53 (rl_V_I he)
  · have he := ite_n h1 he
    have hg := hg h1
    obtain ⟨k2, k3, hg⟩ := hg
    refine bk_18_8 k2 k3 (cc_19 (d := d + 0) ) ?_
    have k5 := hg
    refine bk_18_52 k5 ?_
    exact bk_18_53 (rl_V_I he)
/-- VectorShelf$Judge.isFit(LVectorShelf$Shelf;I)Z -/
def v_20 (I : WI) (r1 : Nat) (x2 : Int32) : Int32 := (v_111 (v_21 I r1) x2)
theorem cc_20 {l : LX} {d : Nat} {I : WI} {F : WF} {L : WL} {t : Nat} {r1 : Nat} {x2 : Int32} (hr1 : isS r1) : Con l 20 (d + 1) 0 0 [.ref 35, .ref r1, .int x2] SH (I, F, L, RT t) (rI (v_20 I r1 x2) (I, F, L, RT t)) := by
  refine cn_20 ?_
  obtain ⟨T1, hT1⟩ : ∃ r : Int32, r = (v_20 I r1 x2) := ⟨_, rfl⟩
  rw [← hT1]
  have he := (hT1.trans (v_20.eq_1 ..)).symm
  refine bk_20_0 (cc_21 (d := d + 0) hr1) ?_
  refine bk_20_5 (cc_111 (d := d + 0) ) ?_
  exact bk_20_9 (sb_111 ..) (rl_p_I he)
theorem sb_20 (I : WI) (r1 : Nat) (x2 : Int32) : (v_20 I r1 x2) &&& 1 = (v_20 I r1 x2) := by
  unfold v_20
  repeat' split
  all_goals first | rfl | exact sb_111 ..
/-- VectorShelf$Measure.lowOf(III)F -/
def v_25 (I : WI) (b : Nat) (x1 : Int32) (x2 : Int32) (x3 : Int32) : UInt32 := (FP.fmul (v_28 I b (v_27 I b (v_27 I b (v_26 I b (0 : Int32) x1) (v_26 I b (1 : Int32) x2)) (v_26 I b (2 : Int32) x3))) 1065353200)
def g_25 (I : WI) (b : Nat) (x1 : Int32) (x2 : Int32) (x3 : Int32) : Prop := ((g_26 I b (0 : Int32) x1) ∧ ((g_26 I b (1 : Int32) x2) ∧ ((g_27 I b (v_26 I b (0 : Int32) x1) (v_26 I b (1 : Int32) x2)) ∧ ((g_26 I b (2 : Int32) x3) ∧ ((g_27 I b (v_27 I b (v_26 I b (0 : Int32) x1) (v_26 I b (1 : Int32) x2)) (v_26 I b (2 : Int32) x3)) ∧ ((g_28 I b (v_27 I b (v_27 I b (v_26 I b (0 : Int32) x1) (v_26 I b (1 : Int32) x2)) (v_26 I b (2 : Int32) x3))) ∧ (vf_n32 (FP.fmul (v_28 I b (v_27 I b (v_27 I b (v_26 I b (0 : Int32) x1) (v_26 I b (1 : Int32) x2)) (v_26 I b (2 : Int32) x3))) 1065353200))))))))
theorem cc_25 {l : LX} {d : Nat} {I : WI} {F : WF} {L : WL} {t : Nat} {b : Nat} {x1 : Int32} {x2 : Int32} {x3 : Int32} (hb : isM b) (hg : g_25 I b x1 x2 x3) : Con l 25 (d + 1) 0 0 [.ref b, .int x1, .int x2, .int x3] SH (I, F, L, RT t) (rF (v_25 I b x1 x2 x3) (I, F, L, RT t)) := by
  refine cn_25 ?_
  obtain ⟨T1, hT1⟩ : ∃ r : UInt32, r = (v_25 I b x1 x2 x3) := ⟨_, rfl⟩
  rw [← hT1]
  have he := (hT1.trans (v_25.eq_1 ..)).symm
  have hg := Eq.mp (g_25.eq_1 ..) hg
  obtain ⟨k1, hg⟩ := hg
  refine bk_25_0 hb (cc_26 (d := d + 0) hb k1) ?_
  obtain ⟨k2, hg⟩ := hg
  refine bk_25_9 hb (cc_26 (d := d + 0) hb k2) ?_
  obtain ⟨k3, hg⟩ := hg
  refine bk_25_15 hb (cc_27 (d := d + 0) hb k3) ?_
  obtain ⟨k4, hg⟩ := hg
  refine bk_25_18 hb (cc_26 (d := d + 0) hb k4) ?_
  obtain ⟨k5, hg⟩ := hg
  refine bk_25_24 hb (cc_27 (d := d + 0) hb k5) ?_
  obtain ⟨k6, hg⟩ := hg
  refine bk_25_27 hb (cc_28 (d := d + 0) hb k6) ?_
  have k7 := hg
  exact bk_25_30 k7 (rl_p_F he)
/-- VectorShelf$Measure.tell(III)I -/
def v_29 (I : WI) (b : Nat) (x1 : Int32) (x2 : Int32) (x3 : Int32) : Int32 := (if ¬ (I b 0) = 4 then (if ¬ (I b 0) = 2 then (if ¬ (I b 0) = 5 then (((v_30 I b (0 : Int32) x1) + (v_30 I b (1 : Int32) x2)) + (v_30 I b (2 : Int32) x3)) else (v_282 (((v_30 I b (0 : Int32) x1) + (v_30 I b (1 : Int32) x2)) + (v_30 I b (2 : Int32) x3)) (I b 2))) else (4 * (((v_30 I b (0 : Int32) x1) + (v_30 I b (1 : Int32) x2)) + (v_30 I b (2 : Int32) x3)))) else ((4 * (v_283 (v_283 (v_30 I b (0 : Int32) x1) (v_30 I b (1 : Int32) x2)) (v_30 I b (2 : Int32) x3))) + 1))
def g_29 (I : WI) (b : Nat) (x1 : Int32) (x2 : Int32) (x3 : Int32) : Prop := ((g_30 I b (0 : Int32) x1) ∧ ((g_30 I b (1 : Int32) x2) ∧ (g_30 I b (2 : Int32) x3)))
theorem cc_29 {l : LX} {d : Nat} {I : WI} {F : WF} {L : WL} {t : Nat} {b : Nat} {x1 : Int32} {x2 : Int32} {x3 : Int32} (hb : isM b) (hg : g_29 I b x1 x2 x3) : Con l 29 (d + 1) 0 0 [.ref b, .int x1, .int x2, .int x3] SH (I, F, L, RT t) (rI (v_29 I b x1 x2 x3) (I, F, L, RT t)) := by
  refine cn_29 ?_
  obtain ⟨T1, hT1⟩ : ∃ r : Int32, r = (v_29 I b x1 x2 x3) := ⟨_, rfl⟩
  rw [← hT1]
  have he := (hT1.trans (v_29.eq_1 ..)).symm
  have hg := Eq.mp (g_29.eq_1 ..) hg
  obtain ⟨k1, hg⟩ := hg
  refine bk_29_0 hb (cc_30 (d := d + 0) hb k1) ?_
  obtain ⟨k2, hg⟩ := hg
  refine bk_29_6 hb (cc_30 (d := d + 0) hb k2) ?_
  have k3 := hg
  refine bk_29_14 hb (cc_30 (d := d + 0) hb k3) ?_
  refine bk_29_22 hb (fun h4 => ?_) (fun h4 => ?_)
  · have he := ite_p h4 he
    refine bk_29_49 hb (fun h5 => ?_) (fun h5 => ?_)
    · have he := ite_p h5 he
      refine bk_29_72 hb (fun h6 => ?_) (fun h6 => ?_)
      · have he := ite_p h6 he
        refine bk_29_92 ?_
        exact bk_29_94 (rl_p_I he)
      · have he := ite_n h6 he
        refine bk_29_80 hb (cc_282 (d := d + 0) ) ?_
        refine bk_29_89 ?_
        exact bk_29_94 (rl_p_I he)
    · have he := ite_n h5 he
      exact bk_29_67 (rl_p_I he)
  · have he := ite_n h4 he
    refine bk_29_32 (cc_283 (d := d + 0) ) ?_
    refine bk_29_40 (cc_283 (d := d + 0) ) ?_
    exact bk_29_45 (rl_p_I he)
/-- the loop at 7 of VectorShelf$Reading.lowest -/
def lp_37_7 (F : WF) (x1 : Int32) (a2 : Int32) (a3 : Int32) : Nat → Int32 × Int32
  | 0 => (a2, a3)
  | k + 1 => bx (lp_37_7 F x1 a2 a3 k) (fun p1 => (bx ((if (v_111 x1 (nI k)) = 0 then (p1.1, p1.2) else (if p1.2 = 0 then ((nI k), 1) else (if 0 ≤ (Op.cmpValue (FP.fcmp (F 39 (nI k).toNatClampNeg) (F 39 p1.1.toNatClampNeg)) .g) then (p1.1, p1.2) else ((nI k), 1)))) : Int32 × Int32) (fun p2 => (p2.1, p2.2))))
def gl_37_7 (F : WF) (x1 : Int32) (a2 : Int32) (a3 : Int32) (N : Nat) : Prop := (∀ k, k < N → bx (lp_37_7 F x1 a2 a3 k) (fun p1 => (¬ ((v_111 x1 (nI k)) = 0) → (¬ (p1.2 = 0) → ((vp_in (nI k) 4) ∧ (vp_in p1.1 4))))))
theorem lw_37_7 {l : LX} {d : Nat} {P : RP} {I : WI} {F : WF} {L : WL} {t : Nat} {x1 : Int32} {a2 : Int32} {a3 : Int32} (hgl : gl_37_7 F x1 a2 a3 ((4 : Int32).toNatClampNeg)) (hx : ∀ p1 : Int32 × Int32, p1 = lp_37_7 F x1 a2 a3 ((4 : Int32).toNatClampNeg) → Wp l 37 (d + 1) 0 0 P 0 0 54 [(2, .int p1.1)] [] SH (I, F, L, RT t)) : Wp l 37 (d + 1) 0 0 P 0 0 7 [(0, .ref 38), (1, .int x1), (2, .int a2), (3, .int a3), (4, .int 0)] [] SH (I, F, L, RT t) := by
  have hin := hgl
  have loop : ∀ m k, k + m = (4 : Int32).toNatClampNeg → ∀ p1 : Int32 × Int32, p1 = lp_37_7 F x1 a2 a3 k → Wp l 37 (d + 1) 0 0 P 0 0 7 [(0, .ref 38), (1, .int x1), (2, .int p1.1), (3, .int p1.2), (4, .int (nI k))] [] SH (I, F, L, RT t) := by
    intro m
    induction m with
    | zero =>
      intro k hk p1 hs
      obtain rfl : k = (4 : Int32).toNatClampNeg := by omega
      exact bk_37_7  (fun _ => hx _ hs) (fun h => absurd ((le_cl (Nat.le_refl _)).mpr rfl) h)
    | succ m ih =>
      intro k hk p1 hs
      have hk2 : k < (4 : Int32).toNatClampNeg := by omega
      have ih := ih (k + 1) (by omega)
      rw [nI_succ] at ih
      have he := bx_eq hs (lp_37_7.eq_2 ..).symm
      have hg := bx_un hs (hin k hk2)
      refine bk_37_7  (fun h => absurd ((le_cl (E := 4) (i := k) (by omega)).mp h) (by omega)) (fun _ => ?_)
      refine bk_37_13 (cc_111 (d := d + 0) ) ?_
      have hgX := hg
      obtain ⟨X1, hX1⟩ : ∃ r : Int32 × Int32, r = (if (v_111 x1 (nI k)) = 0 then (p1.1, p1.2) else (if p1.2 = 0 then ((nI k), 1) else (if 0 ≤ (Op.cmpValue (FP.fcmp (F 39 (nI k).toNatClampNeg) (F 39 p1.1.toNatClampNeg)) .g) then (p1.1, p1.2) else ((nI k), 1)))) := ⟨_, rfl⟩
      have J1 : ∀ p2 : Int32 × Int32, p2 = X1 → Wp l 37 (d + 1) 0 0 P 0 0 48 [(0, .ref 38), (1, .int x1), (2, .int p2.1), (3, .int p2.2), (4, .int (nI k))] [] SH (I, F, L, RT t) := by
        intro p2 hr
        have hr := hr.trans hX1
        have he := bx_eq hr he
        refine bk_37_48 ?_
        exact ih (p2.1, p2.2) he
      have he := hX1.symm
      have hg := hgX
      refine bk_37_19 (fun h2 => ?_) (fun h2 => ?_)
      · have he := ite_p h2 he
        exact J1 (p1.1, p1.2) he
      · have he := ite_n h2 he
        have hg := hg h2
        refine bk_37_22 (fun h3 => ?_) (fun h3 => ?_)
        · have he := ite_p h3 he
          refine bk_37_43 ?_
          exact J1 ((nI k), 1) he
        · have he := ite_n h3 he
          have hg := hg h3
          obtain ⟨k4, k5⟩ := hg
          refine bk_37_26 k4 k5 (fun h6 => ?_) (fun h6 => ?_)
          · have he := ite_p h6 he
            exact J1 (p1.1, p1.2) he
          · have he := ite_n h6 he
            refine bk_37_43 ?_
            exact J1 ((nI k), 1) he
  exact loop _ 0 (Nat.zero_add _) _ rfl
/-- VectorShelf$Reading.lowest(I)I -/
def v_37 (F : WF) (x1 : Int32) : Int32 := (bx ((lp_37_7 F x1 (0 : Int32) (0 : Int32) ((4 : Int32).toNatClampNeg)) : Int32 × Int32) (fun p3 => p3.1))
def g_37 (F : WF) (x1 : Int32) : Prop := (gl_37_7 F x1 (0 : Int32) (0 : Int32) ((4 : Int32).toNatClampNeg))
theorem cc_37 {l : LX} {d : Nat} {I : WI} {F : WF} {L : WL} {t : Nat} {x1 : Int32} (hg : g_37 F x1) : Con l 37 (d + 1) 0 0 [.ref 38, .int x1] SH (I, F, L, RT t) (rI (v_37 F x1) (I, F, L, RT t)) := by
  refine cn_37 ?_
  obtain ⟨T1, hT1⟩ : ∃ r : Int32, r = (v_37 F x1) := ⟨_, rfl⟩
  rw [← hT1]
  have he := (hT1.trans (v_37.eq_1 ..)).symm
  have hg := Eq.mp (g_37.eq_1 ..) hg
  refine bk_37_0 ?_
  have hgX := hg
  refine lw_37_7 (d := d)  hgX (fun p3 hr => ?_)
  have he := bx_eq hr he
  exact bk_37_54 (rl_p_I he)
end
