section
/-- the loop at 64 of VectorShelfModel.ask -/
def lp_278_64 (I : WI) (F : WF) (x1 : Int32) (x2 : Int32) : Nat → WI
  | 0 => I
  | k + 1 => bx (lp_278_64 I F x1 x2 k) (fun p1 => (bx ((if (p1 116 (((40 * x1) + x2) + (nI k)).toNatClampNeg) = 0 then (FP.f2i (FP.fmul 1082130432 (FP.frem (F 115 (((40 * x1) + x2) + (nI k)).toNatClampNeg) 1132068864))) else 0) : Int32) (fun p2 => (up2 p1 79 (nI k).toNatClampNeg p2))))
def gl_278_64 (I : WI) (F : WF) (x1 : Int32) (x2 : Int32) (N : Nat) : Prop := (∀ k, k < N → bx (lp_278_64 I F x1 x2 k) (fun p1 => ((vp_in (((40 * x1) + x2) + (nI k)) 160) ∧ ((vf_n32 (FP.frem (F 115 (((40 * x1) + x2) + (nI k)).toNatClampNeg) 1132068864)) ∧ ((vp_in (((40 * x1) + x2) + (nI k)) 160) ∧ ((((p1 116 (((40 * x1) + x2) + (nI k)).toNatClampNeg) = 0) → (vf_n32 (FP.fmul 1082130432 (FP.frem (F 115 (((40 * x1) + x2) + (nI k)).toNatClampNeg) 1132068864)))) ∧ (bx ((if (p1 116 (((40 * x1) + x2) + (nI k)).toNatClampNeg) = 0 then (FP.f2i (FP.fmul 1082130432 (FP.frem (F 115 (((40 * x1) + x2) + (nI k)).toNatClampNeg) 1132068864))) else 0) : Int32) (fun p2 => (vp_in (nI k) 3)))))))))
theorem lw_278_64 {l : LX} {d : Nat} {P : RP} {I : WI} {F : WF} {L : WL} {t : Nat} {x1 : Int32} {x2 : Int32} (hgl : gl_278_64 I F x1 x2 ((3 : Int32).toNatClampNeg)) (hx : ∀ p1 : WI, p1 = lp_278_64 I F x1 x2 ((3 : Int32).toNatClampNeg) → Wp l 278 (d + 176) 0 0 P 0 0 124 [(0, .ref 74)] [] SH (p1, F, L, RT t)) : Wp l 278 (d + 176) 0 0 P 0 0 64 [(0, .ref 74), (1, .int x1), (2, .int x2), (3, .int 0)] [] SH (I, F, L, RT t) := by
  have hin := hgl
  have loop : ∀ m k, k + m = (3 : Int32).toNatClampNeg → ∀ p1 : WI, p1 = lp_278_64 I F x1 x2 k → Wp l 278 (d + 176) 0 0 P 0 0 64 [(0, .ref 74), (1, .int x1), (2, .int x2), (3, .int (nI k))] [] SH (p1, F, L, RT t) := by
    intro m
    induction m with
    | zero =>
      intro k hk p1 hs
      obtain rfl : k = (3 : Int32).toNatClampNeg := by omega
      exact bk_278_64  (fun _ => hx _ hs) (fun h => absurd ((le_cl (Nat.le_refl _)).mpr rfl) h)
    | succ m ih =>
      intro k hk p1 hs
      have hk2 : k < (3 : Int32).toNatClampNeg := by omega
      have ih := ih (k + 1) (by omega)
      rw [nI_succ] at ih
      have he := bx_eq hs (lp_278_64.eq_2 ..).symm
      have hg := bx_un hs (hin k hk2)
      refine bk_278_64  (fun h => absurd ((le_cl (E := 3) (i := k) (by omega)).mp h) (by omega)) (fun _ => ?_)
      obtain ⟨k10, hg⟩ := hg
      refine bk_278_69 k10 ?_
      obtain ⟨k11, k12, hg⟩ := hg
      obtain ⟨hgX, hg⟩ := hg
      obtain ⟨X1, hX1⟩ : ∃ r : Int32, r = (if (p1 116 (((40 * x1) + x2) + (nI k)).toNatClampNeg) = 0 then (FP.f2i (FP.fmul 1082130432 (FP.frem (F 115 (((40 * x1) + x2) + (nI k)).toNatClampNeg) 1132068864))) else 0) := ⟨_, rfl⟩
      have J1 : ∀ p2 : Int32, p2 = X1 → Wp l 278 (d + 176) 0 0 P 0 0 117 [(0, .ref 74), (1, .int x1), (2, .int x2), (3, .int (nI k))] [.int p2, .int (nI k), .ref 79] SH (p1, F, L, RT t) := by
        intro p2 hr
        have hr := hr.trans hX1
        have he := bx_eq hr he
        have hg := bx_un hr hg
        have k15 := hg
        refine bk_278_117 k15 ?_
        exact ih (up2 p1 79 (nI k).toNatClampNeg p2) he
      have he := hX1.symm
      have hg := hgX
      refine bk_278_89 k11 k12 (fun h13 => ?_) (fun h13 => ?_)
      · have he := ite_p h13 he
        have hg := hg h13
        have k14 := hg
        refine bk_278_111 k14 ?_
        exact J1 (FP.f2i (FP.fmul 1082130432 (FP.frem (F 115 (((40 * x1) + x2) + (nI k)).toNatClampNeg) 1132068864))) he
      · have he := ite_n h13 he
        refine bk_278_107 ?_
        exact J1 0 he
  exact loop _ 0 (Nat.zero_add _) _ rfl
/-- VectorShelfModel.ask(II)I -/
noncomputable def v_278 (I : WI) (F : WF) (L : WL) (x1 : Int32) (x2 : Int32) : Int32 × WI × WL := (if ¬ (v_262 x1) = 0 then (if (I 111 x1.toNatClampNeg) = 0 then (if ¬ (I 111 x1.toNatClampNeg) = 0 then (if x2 < 0 then ((-12), I, L) else (if x2 ≤ ((I 113 x1.toNatClampNeg) - 3) then (bx ((lp_278_64 I F x1 x2 ((3 : Int32).toNatClampNeg)) : WI) (fun p3 => (bx ((v_228 p3 L) : Int32 × WI × WL) (fun p4 => (p4.1, p4.2.1, p4.2.2))))) else ((-12), I, L))) else ((-11), I, L)) else (if (I 112 x1.toNatClampNeg) = 0 then (if ¬ (I 111 x1.toNatClampNeg) = 0 then (if x2 < 0 then ((-12), I, L) else (if x2 ≤ ((I 113 x1.toNatClampNeg) - 3) then (bx ((lp_278_64 I F x1 x2 ((3 : Int32).toNatClampNeg)) : WI) (fun p5 => (bx ((v_228 p5 L) : Int32 × WI × WL) (fun p6 => (p6.1, p6.2.1, p6.2.2))))) else ((-12), I, L))) else ((-11), I, L)) else ((-13), I, L))) else ((-2), I, L))
noncomputable def g_278 (I : WI) (F : WF) (L : WL) (x1 : Int32) (x2 : Int32) : Prop := ((¬ (v_262 x1) = 0) → ((vp_in x1 4) ∧ ((((I 111 x1.toNatClampNeg) = 0) → ((vp_in x1 4) ∧ ((¬ (I 111 x1.toNatClampNeg) = 0) → (¬ (x2 < 0) → ((vp_in x1 4) ∧ ((x2 ≤ ((I 113 x1.toNatClampNeg) - 3)) → ((gl_278_64 I F x1 x2 ((3 : Int32).toNatClampNeg)) ∧ (bx ((lp_278_64 I F x1 x2 ((3 : Int32).toNatClampNeg)) : WI) (fun p3 => (g_228 p3 L)))))))))) ∧ (¬ ((I 111 x1.toNatClampNeg) = 0) → ((vp_in x1 4) ∧ (((I 112 x1.toNatClampNeg) = 0) → ((vp_in x1 4) ∧ ((¬ (I 111 x1.toNatClampNeg) = 0) → (¬ (x2 < 0) → ((vp_in x1 4) ∧ ((x2 ≤ ((I 113 x1.toNatClampNeg) - 3)) → ((gl_278_64 I F x1 x2 ((3 : Int32).toNatClampNeg)) ∧ (bx ((lp_278_64 I F x1 x2 ((3 : Int32).toNatClampNeg)) : WI) (fun p5 => (g_228 p5 L)))))))))))))))
theorem cc_278 {l : LX} {d : Nat} {I : WI} {F : WF} {L : WL} {t : Nat} {x1 : Int32} {x2 : Int32} (hd : 176 ≤ d) (hg : g_278 I F L x1 x2) : Con l 278 d 0 0 [.ref 74, .int x1, .int x2] SH (I, F, L, RT t) (po_I_IL F t (v_278 I F L x1 x2)) := by
  obtain ⟨d, rfl⟩ : ∃ e, d = e + 176 := ⟨d - 176, by omega⟩
  refine cn_278 ?_
  obtain ⟨T1, hT1⟩ : ∃ r : Int32 × WI × WL, r = (v_278 I F L x1 x2) := ⟨_, rfl⟩
  rw [← hT1]
  have he := (hT1.trans (v_278.eq_1 ..)).symm
  have hg := Eq.mp (g_278.eq_1 ..) hg
  refine bk_278_0 (cc_262 (d := d + 174) ) ?_
  refine bk_278_4 (fun h2 => ?_) (fun h2 => ?_)
  · have he := ite_p h2 he
    have hg := hg h2
    obtain ⟨k3, hg⟩ := hg
    refine bk_278_10 k3 (fun h4 => ?_) (fun h4 => ?_)
    · have he := ite_p h4 he
      have hg := hg.1 h4
      obtain ⟨k5, hg⟩ := hg
      refine bk_278_31 k5 (fun h6 => ?_) (fun h6 => ?_)
      · have he := ite_p h6 he
        have hg := hg h6
        refine bk_278_43 (fun h7 => ?_) (fun h7 => ?_)
        · have he := ite_p h7 he
          exact bk_278_59 (rl_I_IL he)
        · have he := ite_n h7 he
          have hg := hg h7
          obtain ⟨k8, hg⟩ := hg
          refine bk_278_47 k8 (fun h9 => ?_) (fun h9 => ?_)
          · have he := ite_p h9 he
            have hg := hg h9
            refine bk_278_62 ?_
            obtain ⟨hgX, hg⟩ := hg
            refine lw_278_64 (d := d)  hgX (fun p3 hr => ?_)
            have he := bx_eq hr he
            have hg := bx_un hr hg
            have k16 := hg
            refine bk_278_124 (cq_I_IL (cc_228 (d := d + 175) (by omega)  k16)) ?_
            rintro _ _ _ _ _ ⟨p4, hr, rfl, rfl, rfl, rfl, rfl⟩
            have he := bx_eq hr he
            exact bk_278_128 (rl_I_IL he)
          · have he := ite_n h9 he
            exact bk_278_59 (rl_I_IL he)
      · have he := ite_n h6 he
        exact bk_278_40 (rl_I_IL he)
    · have he := ite_n h4 he
      have hg := hg.2 h4
      obtain ⟨k17, hg⟩ := hg
      refine bk_278_19 k17 (fun h18 => ?_) (fun h18 => ?_)
      · have he := ite_p h18 he
        have hg := hg h18
        obtain ⟨k19, hg⟩ := hg
        refine bk_278_31 k19 (fun h20 => ?_) (fun h20 => ?_)
        · have he := ite_p h20 he
          have hg := hg h20
          refine bk_278_43 (fun h21 => ?_) (fun h21 => ?_)
          · have he := ite_p h21 he
            exact bk_278_59 (rl_I_IL he)
          · have he := ite_n h21 he
            have hg := hg h21
            obtain ⟨k22, hg⟩ := hg
            refine bk_278_47 k22 (fun h23 => ?_) (fun h23 => ?_)
            · have he := ite_p h23 he
              have hg := hg h23
              refine bk_278_62 ?_
              obtain ⟨hgX, hg⟩ := hg
              refine lw_278_64 (d := d)  hgX (fun p5 hr => ?_)
              have he := bx_eq hr he
              have hg := bx_un hr hg
              have k24 := hg
              refine bk_278_124 (cq_I_IL (cc_228 (d := d + 175) (by omega)  k24)) ?_
              rintro _ _ _ _ _ ⟨p6, hr, rfl, rfl, rfl, rfl, rfl⟩
              have he := bx_eq hr he
              exact bk_278_128 (rl_I_IL he)
            · have he := ite_n h23 he
              exact bk_278_59 (rl_I_IL he)
        · have he := ite_n h20 he
          exact bk_278_40 (rl_I_IL he)
      · have he := ite_n h18 he
        exact bk_278_28 (rl_I_IL he)
  · have he := ite_n h2 he
    exact bk_278_7 (rl_I_IL he)
/-- VectorShelfModel.told(II)I -/
noncomputable def v_210 (I : WI) (L : WL) (x1 : Int32) (x2 : Int32) : Int32 × WI × WL := (if (v_179 I x1) = 0 then ((-99999), I, L) else (if ¬ (v_170 (Int32.toInt64 x2) (0 : Int64) (12 : Int64)) = 0 then (bx ((if x2 = 12 then 1 else (if (v_170 (Int32.toInt64 x2) (6 : Int64) (8 : Int64)) = 0 then 0 else 1)) : Int32) (fun p1 => (if p1 = 0 then (if 3 ≤ x2 then (if 6 ≤ x2 then (if 9 ≤ x2 then (if ¬ x2 = 9 then (if ¬ x2 = 10 then (if ¬ x2 = 11 then ((FP.f2i (v_218 I x1)), I, L) else (bx ((v_217 I L x1) : Int32 × WI × WL) (fun p2 => (p2.1, p2.2.1, p2.2.2)))) else (bx ((v_215 I L x1) : Int32 × WI × WL) (fun p3 => (p3.1, p3.2.1, p3.2.2)))) else (bx ((v_213 I L x1) : Int32 × WI × WL) (fun p4 => (if p4.1 = 0 then (0, p4.2.1, p4.2.2) else (1, p4.2.1, p4.2.2))))) else ((v_211 I x1 (x2 - 6)), I, L)) else (if ¬ x2 = 3 then (if ¬ x2 = 4 then ((I 86 x1.toNatClampNeg), I, L) else ((I 87 x1.toNatClampNeg), I, L)) else ((I 85 x1.toNatClampNeg), I, L))) else ((I 84 ((3 * x1) + x2).toNatClampNeg), I, L)) else (if ¬ (I 86 x1.toNatClampNeg) = (-1) then (if 3 ≤ x2 then (if 6 ≤ x2 then (if 9 ≤ x2 then (if ¬ x2 = 9 then (if ¬ x2 = 10 then (if ¬ x2 = 11 then ((FP.f2i (v_218 I x1)), I, L) else (bx ((v_217 I L x1) : Int32 × WI × WL) (fun p5 => (p5.1, p5.2.1, p5.2.2)))) else (bx ((v_215 I L x1) : Int32 × WI × WL) (fun p6 => (p6.1, p6.2.1, p6.2.2)))) else (bx ((v_213 I L x1) : Int32 × WI × WL) (fun p7 => (if p7.1 = 0 then (0, p7.2.1, p7.2.2) else (1, p7.2.1, p7.2.2))))) else ((v_211 I x1 (x2 - 6)), I, L)) else (if ¬ x2 = 3 then (if ¬ x2 = 4 then ((I 86 x1.toNatClampNeg), I, L) else ((I 87 x1.toNatClampNeg), I, L)) else ((I 85 x1.toNatClampNeg), I, L))) else ((I 84 ((3 * x1) + x2).toNatClampNeg), I, L)) else ((-99999), I, L))))) else ((-99999), I, L)))
noncomputable def g_210 (I : WI) (L : WL) (x1 : Int32) (x2 : Int32) : Prop := (¬ ((v_179 I x1) = 0) → ((¬ (v_170 (Int32.toInt64 x2) (0 : Int64) (12 : Int64)) = 0) → (bx ((if x2 = 12 then 1 else (if (v_170 (Int32.toInt64 x2) (6 : Int64) (8 : Int64)) = 0 then 0 else 1)) : Int32) (fun p1 => (((p1 = 0) → (((3 ≤ x2) → (((6 ≤ x2) → (((9 ≤ x2) → (((¬ x2 = 9) → (((¬ x2 = 10) → (((¬ x2 = 11) → (g_218 I x1)) ∧ (¬ (¬ x2 = 11) → (g_217 I L x1)))) ∧ (¬ (¬ x2 = 10) → (g_215 I L x1)))) ∧ (¬ (¬ x2 = 9) → (g_213 I L x1)))) ∧ (¬ (9 ≤ x2) → (g_211 I x1 (x2 - 6))))) ∧ (¬ (6 ≤ x2) → (((¬ x2 = 3) → (((¬ x2 = 4) → (vp_in x1 12)) ∧ (¬ (¬ x2 = 4) → (vp_in x1 12)))) ∧ (¬ (¬ x2 = 3) → (vp_in x1 12)))))) ∧ (¬ (3 ≤ x2) → (vp_in ((3 * x1) + x2) 36)))) ∧ (¬ (p1 = 0) → ((vp_in x1 12) ∧ ((¬ (I 86 x1.toNatClampNeg) = (-1)) → (((3 ≤ x2) → (((6 ≤ x2) → (((9 ≤ x2) → (((¬ x2 = 9) → (((¬ x2 = 10) → (((¬ x2 = 11) → (g_218 I x1)) ∧ (¬ (¬ x2 = 11) → (g_217 I L x1)))) ∧ (¬ (¬ x2 = 10) → (g_215 I L x1)))) ∧ (¬ (¬ x2 = 9) → (g_213 I L x1)))) ∧ (¬ (9 ≤ x2) → (g_211 I x1 (x2 - 6))))) ∧ (¬ (6 ≤ x2) → (((¬ x2 = 3) → (((¬ x2 = 4) → (vp_in x1 12)) ∧ (¬ (¬ x2 = 4) → (vp_in x1 12)))) ∧ (¬ (¬ x2 = 3) → (vp_in x1 12)))))) ∧ (¬ (3 ≤ x2) → (vp_in ((3 * x1) + x2) 36)))))))))))
theorem cc_210 {l : LX} {d : Nat} {I : WI} {F : WF} {L : WL} {t : Nat} {x1 : Int32} {x2 : Int32} (hd : 176 ≤ d) (hg : g_210 I L x1 x2) : Con l 210 d 0 0 [.ref 74, .int x1, .int x2] SH (I, F, L, RT t) (po_I_IL F t (v_210 I L x1 x2)) := by
  obtain ⟨d, rfl⟩ : ∃ e, d = e + 176 := ⟨d - 176, by omega⟩
  refine cn_210 ?_
  obtain ⟨T1, hT1⟩ : ∃ r : Int32 × WI × WL, r = (v_210 I L x1 x2) := ⟨_, rfl⟩
  rw [← hT1]
  have he := (hT1.trans (v_210.eq_1 ..)).symm
  have hg := Eq.mp (g_210.eq_1 ..) hg
  refine bk_210_0 (cc_179 (d := d + 174) ) ?_
  refine bk_210_5 (fun h2 => ?_) (fun h2 => ?_)
  · have he := ite_p h2 he
    exact bk_210_20 (rl_I_IL he)
  · have he := ite_n h2 he
    have hg := hg h2
    refine bk_210_8 (cc_170 (d := d + 175) ) ?_
    refine bk_210_17 (fun h4 => ?_) (fun h4 => ?_)
    · have he := ite_p h4 he
      have hg := hg h4
      obtain ⟨X1, hX1⟩ : ∃ r : Int32, r = (if x2 = 12 then 1 else (if (v_170 (Int32.toInt64 x2) (6 : Int64) (8 : Int64)) = 0 then 0 else 1)) := ⟨_, rfl⟩
      have J1 : ∀ p1 : Int32, p1 = X1 → Wp l 210 (d + 176) 0 0 (po_I_IL F t T1) 0 0 49 [(0, .ref 74), (1, .int x1), (2, .int x2)] [.int p1] SH (I, F, L, RT t) := by
        intro p1 hr
        have hr := hr.trans hX1
        have he := bx_eq hr he
        have hg := bx_un hr hg
        refine bk_210_49 (fun h8 => ?_) (fun h8 => ?_)
        · have he := ite_p h8 he
          have hg := hg.1 h8
          refine bk_210_68 (fun h9 => ?_) (fun h9 => ?_)
          · have he := ite_p h9 he
            have hg := hg.1 h9
            refine bk_210_84 (fun h10 => ?_) (fun h10 => ?_)
            · have he := ite_p h10 he
              have hg := hg.1 h10
              refine bk_210_125 (fun h11 => ?_) (fun h11 => ?_)
              · have he := ite_p h11 he
                have hg := hg.1 h11
                refine bk_210_141 (fun h12 => ?_) (fun h12 => ?_)
                · have he := ite_p h12 he
                  have hg := hg.1 h12
                  refine bk_210_163 (fun h13 => ?_) (fun h13 => ?_)
                  · have he := ite_p h13 he
                    have hg := hg.1 h13
                    refine bk_210_177 (fun h14 => ?_) (fun h14 => ?_)
                    · have he := ite_p h14 he
                      have hg := hg.1 h14
                      have k15 := hg
                      refine bk_210_191 (cc_218 (d := d + 172)  k15) ?_
                      refine bk_210_196 ?_
                      exact bk_210_197 (rl_I_IL he)
                    · have he := ite_n h14 he
                      have hg := hg.2 h14
                      have k16 := hg
                      refine bk_210_183 (cq_I_IL (cc_217 (d := d + 175) (by omega)  k16)) ?_
                      rintro _ _ _ _ _ ⟨p2, hr, rfl, rfl, rfl, rfl, rfl⟩
                      have he := bx_eq hr he
                      refine bk_210_188 ?_
                      exact bk_210_197 (rl_I_IL he)
                  · have he := ite_n h13 he
                    have hg := hg.2 h13
                    have k17 := hg
                    refine bk_210_169 (cq_I_IL (cc_215 (d := d + 175) (by omega)  k17)) ?_
                    rintro _ _ _ _ _ ⟨p3, hr, rfl, rfl, rfl, rfl, rfl⟩
                    have he := bx_eq hr he
                    refine bk_210_174 ?_
                    exact bk_210_197 (rl_I_IL he)
                · have he := ite_n h12 he
                  have hg := hg.2 h12
                  have k18 := hg
                  refine bk_210_147 (cq_I_IL (cc_213 (d := d + 175) (by omega)  k18)) ?_
                  rintro _ _ _ _ _ ⟨p4, hr, rfl, rfl, rfl, rfl, rfl⟩
                  have he := bx_eq hr he
                  refine bk_210_152 (fun h19 => ?_) (fun h19 => ?_)
                  · have he := ite_p h19 he
                    refine bk_210_159 ?_
                    exact bk_210_197 (rl_I_IL he)
                  · have he := ite_n h19 he
                    refine bk_210_155 ?_
                    exact bk_210_197 (rl_I_IL he)
              · have he := ite_n h11 he
                have hg := hg.2 h11
                have k20 := hg
                refine bk_210_131 (cc_211 (d := d + 174)  k20) ?_
                exact bk_210_140 (rl_I_IL he)
            · have he := ite_n h10 he
              have hg := hg.2 h10
              refine bk_210_90 (fun h21 => ?_) (fun h21 => ?_)
              · have he := ite_p h21 he
                have hg := hg.1 h21
                refine bk_210_104 (fun h22 => ?_) (fun h22 => ?_)
                · have he := ite_p h22 he
                  have hg := hg.1 h22
                  have k23 := hg
                  refine bk_210_118 k23 ?_
                  exact bk_210_124 (rl_I_IL he)
                · have he := ite_n h22 he
                  have hg := hg.2 h22
                  have k24 := hg
                  refine bk_210_109 k24 ?_
                  exact bk_210_124 (rl_I_IL he)
              · have he := ite_n h21 he
                have hg := hg.2 h21
                have k25 := hg
                refine bk_210_95 k25 ?_
                exact bk_210_124 (rl_I_IL he)
          · have he := ite_n h9 he
            have hg := hg.2 h9
            have k26 := hg
            exact bk_210_73 k26 (rl_I_IL he)
        · have he := ite_n h8 he
          have hg := hg.2 h8
          obtain ⟨k27, hg⟩ := hg
          refine bk_210_54 k27 (fun h28 => ?_) (fun h28 => ?_)
          · have he := ite_p h28 he
            have hg := hg h28
            refine bk_210_68 (fun h29 => ?_) (fun h29 => ?_)
            · have he := ite_p h29 he
              have hg := hg.1 h29
              refine bk_210_84 (fun h30 => ?_) (fun h30 => ?_)
              · have he := ite_p h30 he
                have hg := hg.1 h30
                refine bk_210_125 (fun h31 => ?_) (fun h31 => ?_)
                · have he := ite_p h31 he
                  have hg := hg.1 h31
                  refine bk_210_141 (fun h32 => ?_) (fun h32 => ?_)
                  · have he := ite_p h32 he
                    have hg := hg.1 h32
                    refine bk_210_163 (fun h33 => ?_) (fun h33 => ?_)
                    · have he := ite_p h33 he
                      have hg := hg.1 h33
                      refine bk_210_177 (fun h34 => ?_) (fun h34 => ?_)
                      · have he := ite_p h34 he
                        have hg := hg.1 h34
                        have k35 := hg
                        refine bk_210_191 (cc_218 (d := d + 172)  k35) ?_
                        refine bk_210_196 ?_
                        exact bk_210_197 (rl_I_IL he)
                      · have he := ite_n h34 he
                        have hg := hg.2 h34
                        have k36 := hg
                        refine bk_210_183 (cq_I_IL (cc_217 (d := d + 175) (by omega)  k36)) ?_
                        rintro _ _ _ _ _ ⟨p5, hr, rfl, rfl, rfl, rfl, rfl⟩
                        have he := bx_eq hr he
                        refine bk_210_188 ?_
                        exact bk_210_197 (rl_I_IL he)
                    · have he := ite_n h33 he
                      have hg := hg.2 h33
                      have k37 := hg
                      refine bk_210_169 (cq_I_IL (cc_215 (d := d + 175) (by omega)  k37)) ?_
                      rintro _ _ _ _ _ ⟨p6, hr, rfl, rfl, rfl, rfl, rfl⟩
                      have he := bx_eq hr he
                      refine bk_210_174 ?_
                      exact bk_210_197 (rl_I_IL he)
                  · have he := ite_n h32 he
                    have hg := hg.2 h32
                    have k38 := hg
                    refine bk_210_147 (cq_I_IL (cc_213 (d := d + 175) (by omega)  k38)) ?_
                    rintro _ _ _ _ _ ⟨p7, hr, rfl, rfl, rfl, rfl, rfl⟩
                    have he := bx_eq hr he
                    refine bk_210_152 (fun h39 => ?_) (fun h39 => ?_)
                    · have he := ite_p h39 he
                      refine bk_210_159 ?_
                      exact bk_210_197 (rl_I_IL he)
                    · have he := ite_n h39 he
                      refine bk_210_155 ?_
                      exact bk_210_197 (rl_I_IL he)
                · have he := ite_n h31 he
                  have hg := hg.2 h31
                  have k40 := hg
                  refine bk_210_131 (cc_211 (d := d + 174)  k40) ?_
                  exact bk_210_140 (rl_I_IL he)
              · have he := ite_n h30 he
                have hg := hg.2 h30
                refine bk_210_90 (fun h41 => ?_) (fun h41 => ?_)
                · have he := ite_p h41 he
                  have hg := hg.1 h41
                  refine bk_210_104 (fun h42 => ?_) (fun h42 => ?_)
                  · have he := ite_p h42 he
                    have hg := hg.1 h42
                    have k43 := hg
                    refine bk_210_118 k43 ?_
                    exact bk_210_124 (rl_I_IL he)
                  · have he := ite_n h42 he
                    have hg := hg.2 h42
                    have k44 := hg
                    refine bk_210_109 k44 ?_
                    exact bk_210_124 (rl_I_IL he)
                · have he := ite_n h41 he
                  have hg := hg.2 h41
                  have k45 := hg
                  refine bk_210_95 k45 ?_
                  exact bk_210_124 (rl_I_IL he)
            · have he := ite_n h29 he
              have hg := hg.2 h29
              have k46 := hg
              exact bk_210_73 k46 (rl_I_IL he)
          · have he := ite_n h28 he
            exact bk_210_64 (rl_I_IL he)
      have he := hX1.symm
      refine bk_210_24 (fun h5 => ?_) (fun h5 => ?_)
      · have he := ite_p h5 he
        refine bk_210_44 ?_
        exact J1 1 he
      · have he := ite_n h5 he
        refine bk_210_30 (cc_170 (d := d + 175) ) ?_
        refine bk_210_41 (fun h7 => ?_) (fun h7 => ?_)
        · have he := ite_p h7 he
          refine bk_210_48 ?_
          exact J1 0 he
        · have he := ite_n h7 he
          refine bk_210_44 ?_
          exact J1 1 he
    · have he := ite_n h4 he
      exact bk_210_20 (rl_I_IL he)
/-- VectorShelfModel.query(III)I -/
noncomputable def v_227 (I : WI) (L : WL) (x1 : Int32) (x2 : Int32) (x3 : Int32) : Int32 × WI × WL := (if ¬ (v_173 x1 x2 x3) = 0 then (bx ((v_228 (up2 (up2 (up2 I 79 0 x1) 79 1 x2) 79 2 x3) L) : Int32 × WI × WL) (fun p1 => (p1.1, p1.2.1, p1.2.2))) else ((-2), I, L))
noncomputable def g_227 (I : WI) (L : WL) (x1 : Int32) (x2 : Int32) (x3 : Int32) : Prop := ((¬ (v_173 x1 x2 x3) = 0) → (g_228 (up2 (up2 (up2 I 79 0 x1) 79 1 x2) 79 2 x3) L))
theorem cc_227 {l : LX} {d : Nat} {I : WI} {F : WF} {L : WL} {t : Nat} {x1 : Int32} {x2 : Int32} {x3 : Int32} (hd : 176 ≤ d) (hg : g_227 I L x1 x2 x3) : Con l 227 d 0 0 [.ref 74, .int x1, .int x2, .int x3] SH (I, F, L, RT t) (po_I_IL F t (v_227 I L x1 x2 x3)) := by
  obtain ⟨d, rfl⟩ : ∃ e, d = e + 176 := ⟨d - 176, by omega⟩
  refine cn_227 ?_
  obtain ⟨T1, hT1⟩ : ∃ r : Int32 × WI × WL, r = (v_227 I L x1 x2 x3) := ⟨_, rfl⟩
  rw [← hT1]
  have he := (hT1.trans (v_227.eq_1 ..)).symm
  have hg := Eq.mp (g_227.eq_1 ..) hg
  refine bk_227_0 (cc_173 (d := d + 174) ) ?_
  refine bk_227_6 (fun h2 => ?_) (fun h2 => ?_)
  · have he := ite_p h2 he
    have hg := hg h2
    have k3 := hg
    refine bk_227_12 (cq_I_IL (cc_228 (d := d + 175) (by omega)  k3)) ?_
    rintro _ _ _ _ _ ⟨p1, hr, rfl, rfl, rfl, rfl, rfl⟩
    have he := bx_eq hr he
    exact bk_227_37 (rl_I_IL he)
  · have he := ite_n h2 he
    exact bk_227_9 (rl_I_IL he)
/-- the loop at 21 of VectorShelfModel.reading -/
def lp_237_21 (I : WI) : Nat → WI
  | 0 => I
  | k + 1 => bx (lp_237_21 I k) (fun p2 => (up2 p2 99 (nI k).toNatClampNeg (vp_nar (bT 0) 0)))
def gl_237_21 (I : WI) (N : Nat) : Prop := (∀ k, k < N → bx (lp_237_21 I k) (fun p2 => (vp_in (nI k) 4)))
theorem lw_237_21 {l : LX} {d : Nat} {P : RP} {I : WI} {F : WF} {L : WL} {t : Nat} {x1 : Int32} (hgl : gl_237_21 I ((4 : Int32).toNatClampNeg)) (hx : ∀ p2 : WI, p2 = lp_237_21 I ((4 : Int32).toNatClampNeg) → Wp l 237 (d + 177) 0 0 P 0 0 39 [(0, .ref 74), (1, .int x1)] [] SH (p2, F, L, RT t)) : Wp l 237 (d + 177) 0 0 P 0 0 21 [(0, .ref 74), (1, .int x1), (2, .int 0)] [] SH (I, F, L, RT t) := by
  have hin := hgl
  have loop : ∀ m k, k + m = (4 : Int32).toNatClampNeg → ∀ p2 : WI, p2 = lp_237_21 I k → Wp l 237 (d + 177) 0 0 P 0 0 21 [(0, .ref 74), (1, .int x1), (2, .int (nI k))] [] SH (p2, F, L, RT t) := by
    intro m
    induction m with
    | zero =>
      intro k hk p2 hs
      obtain rfl : k = (4 : Int32).toNatClampNeg := by omega
      exact bk_237_21  (fun _ => hx _ hs) (fun h => absurd ((le_cl (Nat.le_refl _)).mpr rfl) h)
    | succ m ih =>
      intro k hk p2 hs
      have hk2 : k < (4 : Int32).toNatClampNeg := by omega
      have ih := ih (k + 1) (by omega)
      rw [nI_succ] at ih
      have he := bx_eq hs (lp_237_21.eq_2 ..).symm
      have hg := bx_un hs (hin k hk2)
      refine bk_237_21  (fun h => absurd ((le_cl (E := 4) (i := k) (by omega)).mp h) (by omega)) (fun _ => ?_)
      have k2 := hg
      refine bk_237_26 k2 ?_
      exact ih (up2 p2 99 (nI k).toNatClampNeg (vp_nar (bT 0) 0)) he
  exact loop _ 0 (Nat.zero_add _) _ rfl
/-- the loop at 81 of VectorShelfModel.reading -/
def lp_237_81 (I : WI) (x1 : Int32) (x2 : Int32) : Nat → WI
  | 0 => I
  | k + 1 => bx (lp_237_81 I x1 x2 k) (fun p4 => (bx ((if ¬ (p4 86 (nI k).toNatClampNeg) = x2 then p4 else (if (v_180 p4 (nI k)) = 0 then p4 else (bx ((if ¬ (v_240 p4 (v_218 p4 (nI k)) x1) = 0 then 0 else 1) : Int32) (fun p5 => (bx ((if ((up2 p4 98 (nI k).toNatClampNeg (vp_nar (bT 0) p5)) 98 (nI k).toNatClampNeg) = 0 then 0 else 1) : Int32) (fun p6 => (bx ((if ((up2 p4 98 (nI k).toNatClampNeg (vp_nar (bT 0) p5)) 98 (nI k).toNatClampNeg) = 0 then 1 else 0) : Int32) (fun p7 => (up2 (up2 (up2 p4 98 (nI k).toNatClampNeg (vp_nar (bT 0) p5)) 74 46 ((p4 74 46) + p6)) 74 47 (((up2 p4 98 (nI k).toNatClampNeg (vp_nar (bT 0) p5)) 74 47) + p7)))))))))) : WI) (fun p8 => p8)))
def gl_237_81 (I : WI) (x1 : Int32) (x2 : Int32) (N : Nat) : Prop := ((∀ k, k < N → bx (lp_237_81 I x1 x2 k) (fun p4 => (((p4 74 18) = (I 74 18)) ∧ ((vp_in (nI k) 12) ∧ (¬ (¬ (p4 86 (nI k).toNatClampNeg) = x2) → ((g_180 p4 (nI k)) ∧ (¬ ((v_180 p4 (nI k)) = 0) → ((g_218 p4 (nI k)) ∧ ((g_240 p4 x1) ∧ (bx ((if ¬ (v_240 p4 (v_218 p4 (nI k)) x1) = 0 then 0 else 1) : Int32) (fun p5 => ((vp_in (nI k) 12) ∧ ((vp_in (nI k) 12) ∧ (bx ((if ((up2 p4 98 (nI k).toNatClampNeg (vp_nar (bT 0) p5)) 98 (nI k).toNatClampNeg) = 0 then 0 else 1) : Int32) (fun p6 => (vp_in (nI k) 12)))))))))))))))) ∧ (bx (lp_237_81 I x1 x2 N) (fun p4 => (p4 74 18) = (I 74 18))))
theorem lw_237_81 {l : LX} {d : Nat} {P : RP} {I : WI} {F : WF} {L : WL} {t : Nat} {x1 : Int32} {x2 : Int32} (hgl : gl_237_81 I x1 x2 ((I 74 18).toNatClampNeg)) (hx : ∀ p4 : WI, p4 = lp_237_81 I x1 x2 ((I 74 18).toNatClampNeg) → Wp l 237 (d + 177) 0 0 P 0 0 183 [(0, .ref 74), (1, .int x1)] [] SH (p4, F, L, RT t)) : Wp l 237 (d + 177) 0 0 P 0 0 81 [(0, .ref 74), (1, .int x1), (2, .int x2), (3, .int 0)] [] SH (I, F, L, RT t) := by
  obtain ⟨hin, hend⟩ := hgl
  have loop : ∀ m k, k + m = (I 74 18).toNatClampNeg → ∀ p4 : WI, p4 = lp_237_81 I x1 x2 k → Wp l 237 (d + 177) 0 0 P 0 0 81 [(0, .ref 74), (1, .int x1), (2, .int x2), (3, .int (nI k))] [] SH (p4, F, L, RT t) := by
    intro m
    induction m with
    | zero =>
      intro k hk p4 hs
      obtain rfl : k = (I 74 18).toNatClampNeg := by omega
      have hE := bx_un hs hend
      exact bk_237_81  (fun _ => hx _ hs) (fun h => absurd ((show (p4 74 18) ≤ (nI ((I 74 18).toNatClampNeg)) from by rw [show (p4 74 18) = (I 74 18) from hE]; exact (le_cl (Nat.le_refl _)).mpr rfl)) h)
    | succ m ih =>
      intro k hk p4 hs
      have hk2 : k < (I 74 18).toNatClampNeg := by omega
      have ih := ih (k + 1) (by omega)
      rw [nI_succ] at ih
      have he := bx_eq hs (lp_237_81.eq_2 ..).symm
      have hg := bx_un hs (hin k hk2)
      have hE : (p4 74 18) = (I 74 18) := hg.1
      have hg := hg.2
      refine bk_237_81  (fun h => absurd ((le_cl (E := (I 74 18)) (i := k) (by omega)).mp (by rw [show (p4 74 18) = (I 74 18) from hE] at h; exact h)) (by omega)) (fun _ => ?_)
      obtain ⟨k9, hg⟩ := hg
      have hgX := hg
      obtain ⟨X1, hX1⟩ : ∃ r : WI, r = (if ¬ (p4 86 (nI k).toNatClampNeg) = x2 then p4 else (if (v_180 p4 (nI k)) = 0 then p4 else (bx ((if ¬ (v_240 p4 (v_218 p4 (nI k)) x1) = 0 then 0 else 1) : Int32) (fun p5 => (bx ((if ((up2 p4 98 (nI k).toNatClampNeg (vp_nar (bT 0) p5)) 98 (nI k).toNatClampNeg) = 0 then 0 else 1) : Int32) (fun p6 => (bx ((if ((up2 p4 98 (nI k).toNatClampNeg (vp_nar (bT 0) p5)) 98 (nI k).toNatClampNeg) = 0 then 1 else 0) : Int32) (fun p7 => (up2 (up2 (up2 p4 98 (nI k).toNatClampNeg (vp_nar (bT 0) p5)) 74 46 ((p4 74 46) + p6)) 74 47 (((up2 p4 98 (nI k).toNatClampNeg (vp_nar (bT 0) p5)) 74 47) + p7)))))))))) := ⟨_, rfl⟩
      have J1 : ∀ p8 : WI, p8 = X1 → Wp l 237 (d + 177) 0 0 P 0 0 177 [(0, .ref 74), (1, .int x1), (2, .int x2), (3, .int (nI k))] [] SH (p8, F, L, RT t) := by
        intro p8 hr
        have hr := hr.trans hX1
        have he := bx_eq hr he
        refine bk_237_177 ?_
        exact ih p8 he
      have he := hX1.symm
      have hg := hgX
      refine bk_237_89 k9 (fun h10 => ?_) (fun h10 => ?_)
      · have he := ite_p h10 he
        exact J1 p4 he
      · have he := ite_n h10 he
        have hg := hg h10
        obtain ⟨k11, hg⟩ := hg
        refine bk_237_99 (cc_180 (d := d + 176)  k11) ?_
        refine bk_237_104 (fun h12 => ?_) (fun h12 => ?_)
        · have he := ite_p h12 he
          exact J1 p4 he
        · have he := ite_n h12 he
          have hg := hg h12
          obtain ⟨k13, hg⟩ := hg
          refine bk_237_107 (cc_218 (d := d + 173)  k13) ?_
          obtain ⟨k14, hg⟩ := hg
          refine bk_237_118 (cc_240 (d := d + 174)  k14) ?_
          obtain ⟨X2, hX2⟩ : ∃ r : Int32, r = (if ¬ (v_240 p4 (v_218 p4 (nI k)) x1) = 0 then 0 else 1) := ⟨_, rfl⟩
          have J2 : ∀ p5 : Int32, p5 = X2 → Wp l 237 (d + 177) 0 0 P 0 0 130 [(0, .ref 74), (1, .int x1), (2, .int x2), (3, .int (nI k))] [.int p5, .int (nI k), .ref 98] SH (p4, F, L, RT t) := by
            intro p5 hr
            have hr := hr.trans hX2
            have he := bx_eq hr he
            have hg := bx_un hr hg
            obtain ⟨k16, k17, hg⟩ := hg
            obtain ⟨X3, hX3⟩ : ∃ r : Int32, r = (if ((up2 p4 98 (nI k).toNatClampNeg (vp_nar (bT 0) p5)) 98 (nI k).toNatClampNeg) = 0 then 0 else 1) := ⟨_, rfl⟩
            have J3 : ∀ p6 : Int32, p6 = X3 → Wp l 237 (d + 177) 0 0 P 0 0 150 [(0, .ref 74), (1, .int x1), (2, .int x2), (3, .int (nI k))] [.int p6, .int (p4 74 46), .ref 74] SH ((up2 p4 98 (nI k).toNatClampNeg (vp_nar (bT 0) p5)), F, L, RT t) := by
              intro p6 hr
              have hr := hr.trans hX3
              have he := bx_eq hr he
              have hg := bx_un hr hg
              have k19 := hg
              obtain ⟨X4, hX4⟩ : ∃ r : Int32, r = (if ((up2 p4 98 (nI k).toNatClampNeg (vp_nar (bT 0) p5)) 98 (nI k).toNatClampNeg) = 0 then 1 else 0) := ⟨_, rfl⟩
              have J4 : ∀ p7 : Int32, p7 = X4 → Wp l 237 (d + 177) 0 0 P 0 0 173 [(0, .ref 74), (1, .int x1), (2, .int x2), (3, .int (nI k))] [.int p7, .int ((up2 p4 98 (nI k).toNatClampNeg (vp_nar (bT 0) p5)) 74 47), .ref 74] SH ((up2 (up2 p4 98 (nI k).toNatClampNeg (vp_nar (bT 0) p5)) 74 46 ((p4 74 46) + p6)), F, L, RT t) := by
                intro p7 hr
                have hr := hr.trans hX4
                have he := bx_eq hr he
                refine bk_237_173 ?_
                exact J1 (up2 (up2 (up2 p4 98 (nI k).toNatClampNeg (vp_nar (bT 0) p5)) 74 46 ((p4 74 46) + p6)) 74 47 (((up2 p4 98 (nI k).toNatClampNeg (vp_nar (bT 0) p5)) 74 47) + p7)) he
              have he := hX4.symm
              refine bk_237_150 k19 (fun h20 => ?_) (fun h20 => ?_)
              · have he := ite_p h20 he
                refine bk_237_172 ?_
                exact J4 1 he
              · have he := ite_n h20 he
                refine bk_237_168 ?_
                exact J4 0 he
            have he := hX3.symm
            refine bk_237_130 k16 k17 (fun h18 => ?_) (fun h18 => ?_)
            · have he := ite_p h18 he
              refine bk_237_149 ?_
              exact J3 0 he
            · have he := ite_n h18 he
              refine bk_237_145 ?_
              exact J3 1 he
          have he := hX2.symm
          refine bk_237_122 (fun h15 => ?_) (fun h15 => ?_)
          · have he := ite_p h15 he
            refine bk_237_129 ?_
            exact J2 0 he
          · have he := ite_n h15 he
            refine bk_237_125 ?_
            exact J2 1 he
  exact loop _ 0 (Nat.zero_add _) _ rfl
/-- the loop at 44 of VectorShelfModel.reading -/
def lp_237_44 (x1 : Int32) : Nat → Int32 → WI → WI
  | 0, x2, I => I
  | k + 1, x2, I => (if x2 = (-1) then I else (if ¬ (v_240 I (v_225 I x2) x1) = 0 then I else (bx ((lp_237_81 (up2 (up2 I 99 x2.toNatClampNeg (vp_nar (bT 0) 1)) 74 48 ((I 74 48) + 1)) x1 x2 (((up2 (up2 I 99 x2.toNatClampNeg (vp_nar (bT 0) 1)) 74 48 ((I 74 48) + 1)) 74 18).toNatClampNeg)) : WI) (fun p9 => (lp_237_44 x1 k (v_239 p9) p9)))))
def gl_237_44 (x1 : Int32) : Nat → Int32 → WI → Prop
  | 0, _, _ => False
  | k + 1, x2, I => (¬ (x2 = (-1)) → ((g_225 I x2) ∧ ((g_240 I x1) ∧ (¬ (¬ (v_240 I (v_225 I x2) x1) = 0) → ((vp_in x2 4) ∧ ((gl_237_81 (up2 (up2 I 99 x2.toNatClampNeg (vp_nar (bT 0) 1)) 74 48 ((I 74 48) + 1)) x1 x2 (((up2 (up2 I 99 x2.toNatClampNeg (vp_nar (bT 0) 1)) 74 48 ((I 74 48) + 1)) 74 18).toNatClampNeg)) ∧ (bx ((lp_237_81 (up2 (up2 I 99 x2.toNatClampNeg (vp_nar (bT 0) 1)) 74 48 ((I 74 48) + 1)) x1 x2 (((up2 (up2 I 99 x2.toNatClampNeg (vp_nar (bT 0) 1)) 74 48 ((I 74 48) + 1)) 74 18).toNatClampNeg)) : WI) (fun p9 => ((g_239 p9) ∧ (gl_237_44 x1 k (v_239 p9) p9))))))))))
theorem lw_237_44 {l : LX} {d : Nat} {P : RP} {F : WF} {L : WL} {t : Nat} {x1 : Int32} : ∀ k : Nat, ∀ (x2 : Int32) (I : WI), gl_237_44 x1 k x2 I → (∀ r : WI, r = lp_237_44 x1 k x2 I → Wp l 237 (d + 177) 0 0 P 0 0 191 [] [] SH (r, F, L, RT t)) → Wp l 237 (d + 177) 0 0 P 0 0 44 [(0, .ref 74), (1, .int x1), (2, .int x2)] [] SH (I, F, L, RT t) := by
  intro k
  induction k with
  | zero =>
    intro x2 I hg hx
    exact hg.elim
  | succ k ih =>
    intro x2 I hg hx
    have hg := Eq.mp (gl_237_44.eq_2 ..) hg
    obtain ⟨T1, hT1⟩ : ∃ r : WI, r = lp_237_44 x1 (k + 1) x2 I := ⟨_, rfl⟩
    have hx : ∀ r : WI, r = T1 → Wp l 237 (d + 177) 0 0 P 0 0 191 [] [] SH (r, F, L, RT t) := fun r hr => hx r (hr.trans hT1)
    have he := (hT1.trans (lp_237_44.eq_2 ..)).symm
    refine bk_237_44 (fun h4 => ?_) (fun h4 => ?_)
    · have he := ite_p h4 he
      exact hx I he
    · have he := ite_n h4 he
      have hg := hg h4
      obtain ⟨k5, hg⟩ := hg
      refine bk_237_49 (cc_225 (d := d + 173)  k5) ?_
      obtain ⟨k6, hg⟩ := hg
      refine bk_237_55 (cc_240 (d := d + 174)  k6) ?_
      refine bk_237_59 (fun h7 => ?_) (fun h7 => ?_)
      · have he := ite_p h7 he
        exact hx I he
      · have he := ite_n h7 he
        have hg := hg h7
        obtain ⟨k8, hg⟩ := hg
        refine bk_237_62 k8 ?_
        obtain ⟨hgX, hg⟩ := hg
        refine lw_237_81 (d := d)  hgX (fun p9 hr => ?_)
        have he := bx_eq hr he
        have hg := bx_un hr hg
        obtain ⟨k21, hg⟩ := hg
        refine bk_237_183 (cc_239 (d := d + 172)  k21) ?_
        refine bk_237_187 ?_
        exact ih (v_239 p9) p9 hg (fun r hr => hx r (hr.trans he))
/-- VectorShelfModel.reading(I)V -/
noncomputable def v_237 (I : WI) (L : WL) (x1 : Int32) : WI × WL := (bx ((v_238 I L) : WI × WL) (fun p1 => (bx ((lp_237_21 (up2 (up2 (up2 p1.1 74 46 0) 74 47 0) 74 48 0) ((4 : Int32).toNatClampNeg)) : WI) (fun p3 => (bx ((lp_237_44 x1 400 (v_239 p3) p3) : WI) (fun p10 => (p10, p1.2)))))))
noncomputable def g_237 (I : WI) (L : WL) (x1 : Int32) : Prop := ((g_238 I L) ∧ (bx ((v_238 I L) : WI × WL) (fun p1 => ((gl_237_21 (up2 (up2 (up2 p1.1 74 46 0) 74 47 0) 74 48 0) ((4 : Int32).toNatClampNeg)) ∧ (bx ((lp_237_21 (up2 (up2 (up2 p1.1 74 46 0) 74 47 0) 74 48 0) ((4 : Int32).toNatClampNeg)) : WI) (fun p3 => ((g_239 p3) ∧ (gl_237_44 x1 400 (v_239 p3) p3))))))))
theorem cc_237 {l : LX} {d : Nat} {I : WI} {F : WF} {L : WL} {t : Nat} {x1 : Int32} (hd : 177 ≤ d) (hg : g_237 I L x1) : Con l 237 d 0 0 [.ref 74, .int x1] SH (I, F, L, RT t) (po_V_IL F t (v_237 I L x1)) := by
  obtain ⟨d, rfl⟩ : ∃ e, d = e + 177 := ⟨d - 177, by omega⟩
  refine cn_237 ?_
  obtain ⟨T1, hT1⟩ : ∃ r : WI × WL, r = (v_237 I L x1) := ⟨_, rfl⟩
  rw [← hT1]
  have he := (hT1.trans (v_237.eq_1 ..)).symm
  have hg := Eq.mp (g_237.eq_1 ..) hg
  obtain ⟨k1, hg⟩ := hg
  refine bk_237_0 (cq_V_IL (cc_238 (d := d + 176) (by omega)  k1)) ?_
  rintro _ _ _ _ ⟨p1, hr, rfl, rfl, rfl, rfl⟩
  have he := bx_eq hr he
  have hg := bx_un hr hg
  refine bk_237_4 ?_
  obtain ⟨hgX, hg⟩ := hg
  refine lw_237_21 (d := d)  hgX (fun p3 hr => ?_)
  have he := bx_eq hr he
  have hg := bx_un hr hg
  obtain ⟨k3, hg⟩ := hg
  refine bk_237_39 (cc_239 (d := d + 172)  k3) ?_
  refine bk_237_43 ?_
  have hgX := hg
  refine lw_237_44 (d := d)  400 (v_239 p3) p3 hgX (fun p10 hr => ?_)
  have he := bx_eq hr he
  exact bk_237_191 (rl_V_IL he)
/-- the loop at 48 of VectorShelfModel.goes -/
noncomputable def st_254_48 (x1 : Int32) (x2 : Int32) (x3 : Int32) (x4 : Int32) (ih : Int32 → Int32 → WI → WL → Int32 × WI × WL) (x5 : Int32) (x6 : Int32) (I : WI) (L : WL) : Int32 × WI × WL := (if 40 < x6 then (x5, I, L) else (if ¬ x5 = (-1) then (x5, I, L) else (if (v_170 (Int32.toInt64 (x3 + (x6 * x2))) ((-999) : Int64) (999 : Int64)) = 0 then (x5, I, L) else (bx ((v_255 (up2 I 79 x1.toNatClampNeg (x3 + (x6 * x2))) L) : Int32 × WI × WL) (fun p2 => (bx ((if p2.1 = x4 then (-1) else x6) : Int32) (fun p3 => (ih p3 (x6 + 1) p2.2.1 p2.2.2))))))))
noncomputable def lp_254_48 (x1 : Int32) (x2 : Int32) (x3 : Int32) (x4 : Int32) (n : Nat) : Int32 → Int32 → WI → WL → Int32 × WI × WL := Nat.rec (motive := fun _ => Int32 → Int32 → WI → WL → Int32 × WI × WL) (fun x5 x6 I L => (x5, I, L)) (fun k ih x5 x6 I L => st_254_48 x1 x2 x3 x4 ih x5 x6 I L) n
theorem le_254_48 (x1 : Int32) (x2 : Int32) (x3 : Int32) (x4 : Int32) (k : Nat) (x5 : Int32) (x6 : Int32) (I : WI) (L : WL) : lp_254_48 x1 x2 x3 x4 (k + 1) x5 x6 I L = st_254_48 x1 x2 x3 x4 (lp_254_48 x1 x2 x3 x4 k) x5 x6 I L := rfl
noncomputable def stg_254_48 (x1 : Int32) (x2 : Int32) (x3 : Int32) (x4 : Int32) (ih : Int32 → Int32 → WI → WL → Prop) (x5 : Int32) (x6 : Int32) (I : WI) (L : WL) : Prop := (¬ (40 < x6) → (¬ (¬ x5 = (-1)) → (¬ ((v_170 (Int32.toInt64 (x3 + (x6 * x2))) ((-999) : Int64) (999 : Int64)) = 0) → ((vp_in x1 3) ∧ ((g_255 (up2 I 79 x1.toNatClampNeg (x3 + (x6 * x2))) L) ∧ (bx ((v_255 (up2 I 79 x1.toNatClampNeg (x3 + (x6 * x2))) L) : Int32 × WI × WL) (fun p2 => (bx ((if p2.1 = x4 then (-1) else x6) : Int32) (fun p3 => (ih p3 (x6 + 1) p2.2.1 p2.2.2))))))))))
noncomputable def gl_254_48 (x1 : Int32) (x2 : Int32) (x3 : Int32) (x4 : Int32) (n : Nat) : Int32 → Int32 → WI → WL → Prop := Nat.rec (motive := fun _ => Int32 → Int32 → WI → WL → Prop) (fun _ _ _ _ => False) (fun k ih x5 x6 I L => stg_254_48 x1 x2 x3 x4 ih x5 x6 I L) n
theorem leg_254_48 (x1 : Int32) (x2 : Int32) (x3 : Int32) (x4 : Int32) (k : Nat) (x5 : Int32) (x6 : Int32) (I : WI) (L : WL) : gl_254_48 x1 x2 x3 x4 (k + 1) x5 x6 I L = stg_254_48 x1 x2 x3 x4 (gl_254_48 x1 x2 x3 x4 k) x5 x6 I L := rfl
theorem lw_254_48 {l : LX} {d : Nat} {P : RP} {F : WF} {t : Nat} {x1 : Int32} {x2 : Int32} {x3 : Int32} {x4 : Int32} : ∀ k : Nat, ∀ (x5 : Int32) (x6 : Int32) (I : WI) (L : WL), gl_254_48 x1 x2 x3 x4 k x5 x6 I L → (∀ r : Int32 × WI × WL, r = lp_254_48 x1 x2 x3 x4 k x5 x6 I L → Wp l 254 (d + 178) 0 0 P 0 0 115 [(0, .ref 74), (1, .int x1), (3, .int x3), (5, .int r.1)] [] SH (r.2.1, F, r.2.2, RT t)) → Wp l 254 (d + 178) 0 0 P 0 0 48 [(0, .ref 74), (1, .int x1), (2, .int x2), (3, .int x3), (4, .int x4), (5, .int x5), (6, .int x6)] [] SH (I, F, L, RT t) := by
  intro k
  induction k with
  | zero =>
    intro x5 x6 I L hg hx
    exact hg.elim
  | succ k ih =>
    intro x5 x6 I L hg hx
    have hg := Eq.mp ((leg_254_48 ..).trans (stg_254_48.eq_1 ..)) hg
    obtain ⟨T1, hT1⟩ : ∃ r : Int32 × WI × WL, r = lp_254_48 x1 x2 x3 x4 (k + 1) x5 x6 I L := ⟨_, rfl⟩
    have hx : ∀ r : Int32 × WI × WL, r = T1 → Wp l 254 (d + 178) 0 0 P 0 0 115 [(0, .ref 74), (1, .int x1), (3, .int x3), (5, .int r.1)] [] SH (r.2.1, F, r.2.2, RT t) := fun r hr => hx r (hr.trans hT1)
    have he := (hT1.trans ((le_254_48 ..).trans (st_254_48.eq_1 ..))).symm
    refine bk_254_48 (fun h7 => ?_) (fun h7 => ?_)
    · have he := ite_p h7 he
      exact hx (x5, I, L) he
    · have he := ite_n h7 he
      have hg := hg h7
      refine bk_254_55 (fun h8 => ?_) (fun h8 => ?_)
      · have he := ite_p h8 he
        exact hx (x5, I, L) he
      · have he := ite_n h8 he
        have hg := hg h8
        refine bk_254_61 (cc_170 (d := d + 177) ) ?_
        refine bk_254_77 (fun h10 => ?_) (fun h10 => ?_)
        · have he := ite_p h10 he
          exact hx (x5, I, L) he
        · have he := ite_n h10 he
          have hg := hg h10
          obtain ⟨k11, k12, hg⟩ := hg
          refine bk_254_80 k11 (cq_I_IL (cc_255 (d := d + 177) (by omega)  k12)) ?_
          rintro _ _ _ _ _ ⟨p2, hr, rfl, rfl, rfl, rfl, rfl⟩
          have he := bx_eq hr he
          have hg := bx_un hr hg
          obtain ⟨X1, hX1⟩ : ∃ r : Int32, r = (if p2.1 = x4 then (-1) else x6) := ⟨_, rfl⟩
          have J1 : ∀ p3 : Int32, p3 = X1 → Wp l 254 (d + 178) 0 0 P 0 0 107 [(0, .ref 74), (1, .int x1), (2, .int x2), (3, .int x3), (4, .int x4), (6, .int x6)] [.int p3] SH (p2.2.1, F, p2.2.2, RT t) := by
            intro p3 hr
            have hr := hr.trans hX1
            have he := bx_eq hr he
            have hg := bx_un hr hg
            refine bk_254_107 ?_
            exact ih p3 (x6 + 1) p2.2.1 p2.2.2 hg (fun r hr => hx r (hr.trans he))
          have he := hX1.symm
          refine bk_254_96 (fun h13 => ?_) (fun h13 => ?_)
          · have he := ite_p h13 he
            refine bk_254_106 ?_
            exact J1 (-1) he
          · have he := ite_n h13 he
            refine bk_254_101 ?_
            exact J1 x6 he
/-- VectorShelfModel.goes(II)I -/
noncomputable def v_254 (I : WI) (L : WL) (x1 : Int32) (x2 : Int32) : Int32 × WI × WL := (if (v_170 (Int32.toInt64 x1) (0 : Int64) (2 : Int64)) = 0 then ((-2), I, L) else (if ¬ (v_170 (Int32.toInt64 x2) ((-99) : Int64) (99 : Int64)) = 0 then (bx ((v_255 I L) : Int32 × WI × WL) (fun p1 => (bx ((lp_254_48 x1 x2 (I 79 x1.toNatClampNeg) p1.1 400 ((-1) : Int32) (1 : Int32) p1.2.1 p1.2.2) : Int32 × WI × WL) (fun p4 => (p4.1, (up2 p4.2.1 79 x1.toNatClampNeg (I 79 x1.toNatClampNeg)), p4.2.2))))) else ((-2), I, L)))
noncomputable def g_254 (I : WI) (L : WL) (x1 : Int32) (x2 : Int32) : Prop := (¬ ((v_170 (Int32.toInt64 x1) (0 : Int64) (2 : Int64)) = 0) → ((¬ (v_170 (Int32.toInt64 x2) ((-99) : Int64) (99 : Int64)) = 0) → ((vp_in x1 3) ∧ ((g_255 I L) ∧ (bx ((v_255 I L) : Int32 × WI × WL) (fun p1 => ((gl_254_48 x1 x2 (I 79 x1.toNatClampNeg) p1.1 400 ((-1) : Int32) (1 : Int32) p1.2.1 p1.2.2) ∧ (bx ((lp_254_48 x1 x2 (I 79 x1.toNatClampNeg) p1.1 400 ((-1) : Int32) (1 : Int32) p1.2.1 p1.2.2) : Int32 × WI × WL) (fun p4 => (vp_in x1 3))))))))))
theorem cc_254 {l : LX} {d : Nat} {I : WI} {F : WF} {L : WL} {t : Nat} {x1 : Int32} {x2 : Int32} (hd : 178 ≤ d) (hg : g_254 I L x1 x2) : Con l 254 d 0 0 [.ref 74, .int x1, .int x2] SH (I, F, L, RT t) (po_I_IL F t (v_254 I L x1 x2)) := by
  obtain ⟨d, rfl⟩ : ∃ e, d = e + 178 := ⟨d - 178, by omega⟩
  refine cn_254 ?_
  obtain ⟨T1, hT1⟩ : ∃ r : Int32 × WI × WL, r = (v_254 I L x1 x2) := ⟨_, rfl⟩
  rw [← hT1]
  have he := (hT1.trans (v_254.eq_1 ..)).symm
  have hg := Eq.mp (g_254.eq_1 ..) hg
  refine bk_254_0 (cc_170 (d := d + 177) ) ?_
  refine bk_254_9 (fun h2 => ?_) (fun h2 => ?_)
  · have he := ite_p h2 he
    exact bk_254_26 (rl_I_IL he)
  · have he := ite_n h2 he
    have hg := hg h2
    refine bk_254_12 (cc_170 (d := d + 177) ) ?_
    refine bk_254_23 (fun h4 => ?_) (fun h4 => ?_)
    · have he := ite_p h4 he
      have hg := hg h4
      obtain ⟨k5, k6, hg⟩ := hg
      refine bk_254_29 k5 (cq_I_IL (cc_255 (d := d + 177) (by omega)  k6)) ?_
      rintro _ _ _ _ _ ⟨p1, hr, rfl, rfl, rfl, rfl, rfl⟩
      have he := bx_eq hr he
      have hg := bx_un hr hg
      refine bk_254_40 ?_
      obtain ⟨hgX, hg⟩ := hg
      refine lw_254_48 (d := d)  400 ((-1) : Int32) (1 : Int32) p1.2.1 p1.2.2 hgX (fun p4 hr => ?_)
      have he := bx_eq hr he
      have hg := bx_un hr hg
      have k14 := hg
      exact bk_254_115 k14 (rl_I_IL he)
    · have he := ite_n h4 he
      exact bk_254_26 (rl_I_IL he)
end
