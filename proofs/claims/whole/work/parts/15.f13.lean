section
/-- the loop at 4 of VectorShelf.dropsTelling -/
def lp_151_4 (I : WI) (F : WF) (r1 : Nat) (a2 : Int32) : Nat → Int32 × WI
  | 0 => (a2, I)
  | k + 1 => bx (lp_151_4 I F r1 a2 k) (fun p1 => (bx ((if (v_61 p1.2 1 (nI k)) = 0 then (p1.1, p1.2) else (bx ((v_56 p1.2 21 (nI k) (0 : Int32)) : WI) (fun p2 => (bx ((v_147 p2 F r1) : Int32 × WI) (fun p3 => (bx ((if ¬ p3.1 = (-1) then p1.1 else (p1.1 ||| (1 <<< ((nI k) &&& 31)))) : Int32) (fun p4 => (bx ((v_56 p3.2 21 (nI k) (1 : Int32)) : WI) (fun p5 => (p4, p5)))))))))) : Int32 × WI) (fun p6 => (p6.1, p6.2))))
def gl_151_4 (I : WI) (F : WF) (r1 : Nat) (a2 : Int32) (N : Nat) : Prop := ((∀ k, k < N → bx (lp_151_4 I F r1 a2 k) (fun p1 => (((p1.2 1 8) = (I 1 8)) ∧ (¬ ((v_61 p1.2 1 (nI k)) = 0) → (bx ((v_56 p1.2 21 (nI k) (0 : Int32)) : WI) (fun p2 => (g_147 p2 F r1))))))) ∧ (bx (lp_151_4 I F r1 a2 N) (fun p1 => (p1.2 1 8) = (I 1 8))))
theorem lw_151_4 {l : LX} {d : Nat} {P : RP} {I : WI} {F : WF} {L : WL} {t : Nat} {r1 : Nat} {a2 : Int32} (hr1 : isH r1) (hgl : gl_151_4 I F r1 a2 ((I 1 8).toNatClampNeg)) (hx : ∀ p1 : Int32 × WI, p1 = lp_151_4 I F r1 a2 ((I 1 8).toNatClampNeg) → Wp l 151 (d + 5) 0 0 P 0 0 65 [(2, .int p1.1)] [] SH (p1.2, F, L, RT t)) : Wp l 151 (d + 5) 0 0 P 0 0 4 [(0, .ref 0), (1, .ref r1), (2, .int a2), (3, .int 0)] [] SH (I, F, L, RT t) := by
  obtain ⟨hin, hend⟩ := hgl
  have loop : ∀ m k, k + m = (I 1 8).toNatClampNeg → ∀ p1 : Int32 × WI, p1 = lp_151_4 I F r1 a2 k → Wp l 151 (d + 5) 0 0 P 0 0 4 [(0, .ref 0), (1, .ref r1), (2, .int p1.1), (3, .int (nI k))] [] SH (p1.2, F, L, RT t) := by
    intro m
    induction m with
    | zero =>
      intro k hk p1 hs
      obtain rfl : k = (I 1 8).toNatClampNeg := by omega
      have hE := bx_un hs hend
      exact bk_151_4  (fun _ => hx _ hs) (fun h => absurd ((show (p1.2 1 8) ≤ (nI ((I 1 8).toNatClampNeg)) from by rw [show (p1.2 1 8) = (I 1 8) from hE]; exact (le_cl (Nat.le_refl _)).mpr rfl)) h)
    | succ m ih =>
      intro k hk p1 hs
      have hk2 : k < (I 1 8).toNatClampNeg := by omega
      have ih := ih (k + 1) (by omega)
      rw [nI_succ] at ih
      have he := bx_eq hs (lp_151_4.eq_2 ..).symm
      have hg := bx_un hs (hin k hk2)
      have hE : (p1.2 1 8) = (I 1 8) := hg.1
      have hg := hg.2
      refine bk_151_4  (fun h => absurd ((le_cl (E := (I 1 8)) (i := k) (by omega)).mp (by rw [show (p1.2 1 8) = (I 1 8) from hE] at h; exact h)) (by omega)) (fun _ => ?_)
      refine bk_151_15 (cc_61 (d := d + 3) (by first | decide | (unfold isS; decide) | (unfold isS; omega))) ?_
      have hgX := hg
      obtain ⟨X1, hX1⟩ : ∃ r : Int32 × WI, r = (if (v_61 p1.2 1 (nI k)) = 0 then (p1.1, p1.2) else (bx ((v_56 p1.2 21 (nI k) (0 : Int32)) : WI) (fun p2 => (bx ((v_147 p2 F r1) : Int32 × WI) (fun p3 => (bx ((if ¬ p3.1 = (-1) then p1.1 else (p1.1 ||| (1 <<< ((nI k) &&& 31)))) : Int32) (fun p4 => (bx ((v_56 p3.2 21 (nI k) (1 : Int32)) : WI) (fun p5 => (p4, p5)))))))))) := ⟨_, rfl⟩
      have J1 : ∀ p6 : Int32 × WI, p6 = X1 → Wp l 151 (d + 5) 0 0 P 0 0 59 [(0, .ref 0), (1, .ref r1), (2, .int p6.1), (3, .int (nI k))] [] SH (p6.2, F, L, RT t) := by
        intro p6 hr
        have hr := hr.trans hX1
        have he := bx_eq hr he
        refine bk_151_59 ?_
        exact ih (p6.1, p6.2) he
      have he := hX1.symm
      have hg := hgX
      refine bk_151_23 (fun h2 => ?_) (fun h2 => ?_)
      · have he := ite_p h2 he
        exact J1 (p1.1, p1.2) he
      · have he := ite_n h2 he
        have hg := hg h2
        refine bk_151_26 (cq_V_I (cc_56 (d := d + 4) (by first | decide | (unfold isS; decide) | (unfold isS; omega)))) ?_
        rintro _ _ _ _ ⟨p2, hr, rfl, rfl, rfl, rfl⟩
        have he := bx_eq hr he
        have hg := bx_un hr hg
        have k4 := hg
        refine bk_151_35 (cq_I_I (cc_147 (d := d + 0) hr1 k4)) ?_
        rintro _ _ _ _ _ ⟨p3, hr, rfl, rfl, rfl, rfl, rfl⟩
        have he := bx_eq hr he
        obtain ⟨X2, hX2⟩ : ∃ r : Int32, r = (if ¬ p3.1 = (-1) then p1.1 else (p1.1 ||| (1 <<< ((nI k) &&& 31)))) := ⟨_, rfl⟩
        have J2 : ∀ p4 : Int32, p4 = X2 → Wp l 151 (d + 5) 0 0 P 0 0 50 [(0, .ref 0), (1, .ref r1), (2, .int p4), (3, .int (nI k))] [] SH (p3.2, F, L, RT t) := by
          intro p4 hr
          have hr := hr.trans hX2
          have he := bx_eq hr he
          refine bk_151_50 (cq_V_I (cc_56 (d := d + 4) (by first | decide | (unfold isS; decide) | (unfold isS; omega)))) ?_
          rintro _ _ _ _ ⟨p5, hr, rfl, rfl, rfl, rfl⟩
          have he := bx_eq hr he
          exact J1 (p4, p5) he
        have he := hX2.symm
        refine bk_151_40 (fun h5 => ?_) (fun h5 => ?_)
        · have he := ite_p h5 he
          exact J2 p1.1 he
        · have he := ite_n h5 he
          refine bk_151_44 ?_
          exact J2 (p1.1 ||| (1 <<< ((nI k) &&& 31))) he
  exact loop _ 0 (Nat.zero_add _) _ rfl
/-- VectorShelf.dropsTelling(LVectorShelf$Sheet;)I -/
def v_151 (I : WI) (F : WF) (r1 : Nat) : Int32 × WI := (bx ((lp_151_4 I F r1 (0 : Int32) ((I 1 8).toNatClampNeg)) : Int32 × WI) (fun p7 => (p7.1, p7.2)))
def g_151 (I : WI) (F : WF) (r1 : Nat) : Prop := (gl_151_4 I F r1 (0 : Int32) ((I 1 8).toNatClampNeg))
theorem cc_151 {l : LX} {d : Nat} {I : WI} {F : WF} {L : WL} {t : Nat} {r1 : Nat} (hr1 : isH r1) (hg : g_151 I F r1) : Con l 151 (d + 5) 0 0 [.ref 0, .ref r1] SH (I, F, L, RT t) (po_I_I F L t (v_151 I F r1)) := by
  refine cn_151 ?_
  obtain ⟨T1, hT1⟩ : ∃ r : Int32 × WI, r = (v_151 I F r1) := ⟨_, rfl⟩
  rw [← hT1]
  have he := (hT1.trans (v_151.eq_1 ..)).symm
  have hg := Eq.mp (g_151.eq_1 ..) hg
  refine bk_151_0 ?_
  have hgX := hg
  refine lw_151_4 (d := d) hr1 hgX (fun p7 hr => ?_)
  have he := bx_eq hr he
  exact bk_151_65 (rl_I_I he)
/-- VectorShelfModel.vector(IIII)I -/
def v_174 (I : WI) (x1 : Int32) (x2 : Int32) (x3 : Int32) (x4 : Int32) : Int32 × WI := (if (v_173 x1 x2 x3) = 0 then ((-2), I) else (if ¬ (v_170 (Int32.toInt64 x4) ((-99) : Int64) (99 : Int64)) = 0 then (if ¬ (I 74 13) = 0 then (if ¬ (I 74 18) = 12 then (bx ((v_175 (up2 (up2 I 85 (I 74 18).toNatClampNeg x4) 87 (I 74 18).toNatClampNeg 0) (I 74 18) x1 x2 x3) : WI) (fun p1 => ((((p1 74 18) + 1) - 1), (up2 p1 74 18 ((p1 74 18) + 1))))) else ((-4), I)) else ((-3), I)) else ((-2), I)))
def g_174 (I : WI) (x1 : Int32) (x2 : Int32) (x3 : Int32) (x4 : Int32) : Prop := (¬ ((v_173 x1 x2 x3) = 0) → ((¬ (v_170 (Int32.toInt64 x4) ((-99) : Int64) (99 : Int64)) = 0) → ((¬ (I 74 13) = 0) → ((¬ (I 74 18) = 12) → ((vp_in (I 74 18) 12) ∧ (g_175 (up2 (up2 I 85 (I 74 18).toNatClampNeg x4) 87 (I 74 18).toNatClampNeg 0) (I 74 18) x1 x2 x3))))))
theorem cc_174 {l : LX} {d : Nat} {I : WI} {F : WF} {L : WL} {t : Nat} {x1 : Int32} {x2 : Int32} {x3 : Int32} {x4 : Int32} (hg : g_174 I x1 x2 x3 x4) : Con l 174 (d + 2) 0 0 [.ref 74, .int x1, .int x2, .int x3, .int x4] SH (I, F, L, RT t) (po_I_I F L t (v_174 I x1 x2 x3 x4)) := by
  refine cn_174 ?_
  obtain ⟨T1, hT1⟩ : ∃ r : Int32 × WI, r = (v_174 I x1 x2 x3 x4) := ⟨_, rfl⟩
  rw [← hT1]
  have he := (hT1.trans (v_174.eq_1 ..)).symm
  have hg := Eq.mp (g_174.eq_1 ..) hg
  refine bk_174_0 (cc_173 (d := d + 0) ) ?_
  refine bk_174_6 (fun h2 => ?_) (fun h2 => ?_)
  · have he := ite_p h2 he
    exact bk_174_24 (rl_I_I he)
  · have he := ite_n h2 he
    have hg := hg h2
    refine bk_174_9 (cc_170 (d := d + 1) ) ?_
    refine bk_174_21 (fun h4 => ?_) (fun h4 => ?_)
    · have he := ite_p h4 he
      have hg := hg h4
      refine bk_174_27 (fun h5 => ?_) (fun h5 => ?_)
      · have he := ite_p h5 he
        have hg := hg h5
        refine bk_174_37 (fun h6 => ?_) (fun h6 => ?_)
        · have he := ite_p h6 he
          have hg := hg h6
          obtain ⟨k7, k8⟩ := hg
          refine bk_174_49 k7 (cq_V_I (cc_175 (d := d + 0)  k8)) ?_
          rintro _ _ _ _ ⟨p1, hr, rfl, rfl, rfl, rfl⟩
          have he := bx_eq hr he
          exact bk_174_81 (rl_I_I he)
        · have he := ite_n h6 he
          exact bk_174_46 (rl_I_I he)
      · have he := ite_n h5 he
        exact bk_174_34 (rl_I_I he)
    · have he := ite_n h4 he
      exact bk_174_24 (rl_I_I he)
/-- VectorShelfModel.measure(III)I -/
def v_185 (I : WI) (x1 : Int32) (x2 : Int32) (x3 : Int32) : Int32 := (if ¬ (I 78 3) = 4 then (if ¬ (I 78 3) = 2 then (if ¬ (I 78 3) = 5 then (((v_186 I x1 (0 : Int32)) + (v_186 I x2 (1 : Int32))) + (v_186 I x3 (2 : Int32))) else (if (((v_186 I x1 (0 : Int32)) + (v_186 I x2 (1 : Int32))) + (v_186 I x3 (2 : Int32))) ≤ (I 78 2) then (((v_186 I x1 (0 : Int32)) + (v_186 I x2 (1 : Int32))) + (v_186 I x3 (2 : Int32))) else (I 78 2))) else (4 * (((v_186 I x1 (0 : Int32)) + (v_186 I x2 (1 : Int32))) + (v_186 I x3 (2 : Int32))))) else (bx ((if (v_186 I x1 (0 : Int32)) ≤ (v_186 I x2 (1 : Int32)) then (v_186 I x2 (1 : Int32)) else (v_186 I x1 (0 : Int32))) : Int32) (fun p1 => (bx ((if p1 ≤ (v_186 I x3 (2 : Int32)) then (v_186 I x3 (2 : Int32)) else p1) : Int32) (fun p2 => ((4 * p2) + 1))))))
def g_185 (I : WI) (x1 : Int32) (x2 : Int32) (x3 : Int32) : Prop := ((g_186 I x1 (0 : Int32)) ∧ ((g_186 I x2 (1 : Int32)) ∧ (g_186 I x3 (2 : Int32))))
theorem cc_185 {l : LX} {d : Nat} {I : WI} {F : WF} {L : WL} {t : Nat} {x1 : Int32} {x2 : Int32} {x3 : Int32} (hg : g_185 I x1 x2 x3) : Con l 185 (d + 2) 0 0 [.ref 74, .int x1, .int x2, .int x3] SH (I, F, L, RT t) (rI (v_185 I x1 x2 x3) (I, F, L, RT t)) := by
  refine cn_185 ?_
  obtain ⟨T1, hT1⟩ : ∃ r : Int32, r = (v_185 I x1 x2 x3) := ⟨_, rfl⟩
  rw [← hT1]
  have he := (hT1.trans (v_185.eq_1 ..)).symm
  have hg := Eq.mp (g_185.eq_1 ..) hg
  obtain ⟨k1, hg⟩ := hg
  refine bk_185_0 (cc_186 (d := d + 0)  k1) ?_
  obtain ⟨k2, hg⟩ := hg
  refine bk_185_6 (cc_186 (d := d + 0)  k2) ?_
  have k3 := hg
  refine bk_185_14 (cc_186 (d := d + 0)  k3) ?_
  refine bk_185_22 (fun h4 => ?_) (fun h4 => ?_)
  · have he := ite_p h4 he
    refine bk_185_69 (fun h5 => ?_) (fun h5 => ?_)
    · have he := ite_p h5 he
      refine bk_185_96 (fun h6 => ?_) (fun h6 => ?_)
      · have he := ite_p h6 he
        refine bk_185_126 ?_
        exact bk_185_128 (rl_p_I he)
      · have he := ite_n h6 he
        refine bk_185_106 (fun h7 => ?_) (fun h7 => ?_)
        · have he := ite_p h7 he
          refine bk_185_126 ?_
          exact bk_185_128 (rl_p_I he)
        · have he := ite_n h7 he
          refine bk_185_117 ?_
          exact bk_185_128 (rl_p_I he)
    · have he := ite_n h5 he
      refine bk_185_89 ?_
      exact bk_185_128 (rl_p_I he)
  · have he := ite_n h4 he
    obtain ⟨X1, hX1⟩ : ∃ r : Int32, r = (if (v_186 I x1 (0 : Int32)) ≤ (v_186 I x2 (1 : Int32)) then (v_186 I x2 (1 : Int32)) else (v_186 I x1 (0 : Int32))) := ⟨_, rfl⟩
    have J1 : ∀ p1 : Int32, p1 = X1 → Wp l 185 (d + 2) 0 0 (rI T1 (I, F, L, RT t)) 0 0 48 [(6, .int (v_186 I x3 (2 : Int32)))] [.int p1] SH (I, F, L, RT t) := by
      intro p1 hr
      have hr := hr.trans hX1
      have he := bx_eq hr he
      obtain ⟨X2, hX2⟩ : ∃ r : Int32, r = (if p1 ≤ (v_186 I x3 (2 : Int32)) then (v_186 I x3 (2 : Int32)) else p1) := ⟨_, rfl⟩
      have J2 : ∀ p2 : Int32, p2 = X2 → Wp l 185 (d + 2) 0 0 (rI T1 (I, F, L, RT t)) 0 0 65 [] [.int p2, .int 4] SH (I, F, L, RT t) := by
        intro p2 hr
        have hr := hr.trans hX2
        have he := bx_eq hr he
        exact bk_185_65 (rl_p_I he)
      have he := hX2.symm
      refine bk_185_48 (fun h9 => ?_) (fun h9 => ?_)
      · have he := ite_p h9 he
        refine bk_185_63 ?_
        exact J2 (v_186 I x3 (2 : Int32)) he
      · have he := ite_n h9 he
        refine bk_185_58 ?_
        exact J2 p1 he
    have he := hX1.symm
    refine bk_185_34 (fun h8 => ?_) (fun h8 => ?_)
    · have he := ite_p h8 he
      refine bk_185_46 ?_
      exact J1 (v_186 I x2 (1 : Int32)) he
    · have he := ite_n h8 he
      refine bk_185_41 ?_
      exact J1 (v_186 I x1 (0 : Int32)) he
/-- VectorShelfModel.lowOfVector(I)F -/
def v_218 (I : WI) (x1 : Int32) : UInt32 := (v_221 I (v_219 I x1 (0 : Int32)) (v_219 I x1 (1 : Int32)) (v_219 I x1 (2 : Int32)))
def g_218 (I : WI) (x1 : Int32) : Prop := ((g_219 I x1 (0 : Int32)) ∧ ((g_219 I x1 (1 : Int32)) ∧ ((g_219 I x1 (2 : Int32)) ∧ (g_221 I (v_219 I x1 (0 : Int32)) (v_219 I x1 (1 : Int32)) (v_219 I x1 (2 : Int32))))))
theorem cc_218 {l : LX} {d : Nat} {I : WI} {F : WF} {L : WL} {t : Nat} {x1 : Int32} (hg : g_218 I x1) : Con l 218 (d + 3) 0 0 [.ref 74, .int x1] SH (I, F, L, RT t) (rF (v_218 I x1) (I, F, L, RT t)) := by
  refine cn_218 ?_
  obtain ⟨T1, hT1⟩ : ∃ r : UInt32, r = (v_218 I x1) := ⟨_, rfl⟩
  rw [← hT1]
  have he := (hT1.trans (v_218.eq_1 ..)).symm
  have hg := Eq.mp (g_218.eq_1 ..) hg
  obtain ⟨k1, hg⟩ := hg
  refine bk_218_0 (cc_219 (d := d + 0)  k1) ?_
  obtain ⟨k2, hg⟩ := hg
  refine bk_218_7 (cc_219 (d := d + 0)  k2) ?_
  obtain ⟨k3, hg⟩ := hg
  refine bk_218_13 (cc_219 (d := d + 0)  k3) ?_
  have k4 := hg
  refine bk_218_19 (cc_221 (d := d + 0)  k4) ?_
  exact bk_218_22 (rl_p_F he)
/-- the loop at 124 of VectorShelfModel.holds -/
def lp_223_124 (I : WI) (x1 : Int32) (x2 : Int32) (a3 : Int32) : Nat → Int32
  | 0 => a3
  | k + 1 => bx (lp_223_124 I x1 x2 a3 k) (fun p1 => (bx ((if ¬ (I 86 (nI k).toNatClampNeg) = x1 then 0 else (if x2 = 10 then 1 else (if (v_180 I (nI k)) = 0 then 0 else 1))) : Int32) (fun p2 => (p1 + p2))))
def gl_223_124 (I : WI) (x1 : Int32) (x2 : Int32) (a3 : Int32) (N : Nat) : Prop := (∀ k, k < N → bx (lp_223_124 I x1 x2 a3 k) (fun p1 => ((vp_in (nI k) 12) ∧ (¬ (¬ (I 86 (nI k).toNatClampNeg) = x1) → (¬ (x2 = 10) → (g_180 I (nI k)))))))
theorem lw_223_124 {l : LX} {d : Nat} {P : RP} {I : WI} {F : WF} {L : WL} {t : Nat} {x1 : Int32} {x2 : Int32} {a3 : Int32} (hgl : gl_223_124 I x1 x2 a3 ((I 74 18).toNatClampNeg)) (hx : ∀ p1 : Int32, p1 = lp_223_124 I x1 x2 a3 ((I 74 18).toNatClampNeg) → Wp l 223 (d + 4) 0 0 P 0 0 173 [(3, .int p1)] [] SH (I, F, L, RT t)) : Wp l 223 (d + 4) 0 0 P 0 0 124 [(0, .ref 74), (1, .int x1), (2, .int x2), (3, .int a3), (4, .int 0)] [] SH (I, F, L, RT t) := by
  have hin := hgl
  have loop : ∀ m k, k + m = (I 74 18).toNatClampNeg → ∀ p1 : Int32, p1 = lp_223_124 I x1 x2 a3 k → Wp l 223 (d + 4) 0 0 P 0 0 124 [(0, .ref 74), (1, .int x1), (2, .int x2), (3, .int p1), (4, .int (nI k))] [] SH (I, F, L, RT t) := by
    intro m
    induction m with
    | zero =>
      intro k hk p1 hs
      obtain rfl : k = (I 74 18).toNatClampNeg := by omega
      exact bk_223_124  (fun _ => hx _ hs) (fun h => absurd ((le_cl (Nat.le_refl _)).mpr rfl) h)
    | succ m ih =>
      intro k hk p1 hs
      have hk2 : k < (I 74 18).toNatClampNeg := by omega
      have ih := ih (k + 1) (by omega)
      rw [nI_succ] at ih
      have he := bx_eq hs (lp_223_124.eq_2 ..).symm
      have hg := bx_un hs (hin k hk2)
      refine bk_223_124  (fun h => absurd ((le_cl (E := (I 74 18)) (i := k) (by omega)).mp h) (by omega)) (fun _ => ?_)
      obtain ⟨k9, hg⟩ := hg
      have hgX := hg
      obtain ⟨X1, hX1⟩ : ∃ r : Int32, r = (if ¬ (I 86 (nI k).toNatClampNeg) = x1 then 0 else (if x2 = 10 then 1 else (if (v_180 I (nI k)) = 0 then 0 else 1))) := ⟨_, rfl⟩
      have J1 : ∀ p2 : Int32, p2 = X1 → Wp l 223 (d + 4) 0 0 P 0 0 165 [(0, .ref 74), (1, .int x1), (2, .int x2), (4, .int (nI k))] [.int p2, .int p1] SH (I, F, L, RT t) := by
        intro p2 hr
        have hr := hr.trans hX1
        have he := bx_eq hr he
        refine bk_223_165 ?_
        exact ih (p1 + p2) he
      have he := hX1.symm
      have hg := hgX
      refine bk_223_133 k9 (fun h10 => ?_) (fun h10 => ?_)
      · have he := ite_p h10 he
        refine bk_223_164 ?_
        exact J1 0 he
      · have he := ite_n h10 he
        have hg := hg h10
        refine bk_223_145 (fun h11 => ?_) (fun h11 => ?_)
        · have he := ite_p h11 he
          refine bk_223_160 ?_
          exact J1 1 he
        · have he := ite_n h11 he
          have hg := hg h11
          have k12 := hg
          refine bk_223_151 (cc_180 (d := d + 3)  k12) ?_
          refine bk_223_157 (fun h13 => ?_) (fun h13 => ?_)
          · have he := ite_p h13 he
            refine bk_223_164 ?_
            exact J1 0 he
          · have he := ite_n h13 he
            refine bk_223_160 ?_
            exact J1 1 he
  exact loop _ 0 (Nat.zero_add _) _ rfl
/-- VectorShelfModel.holds(II)I -/
def v_223 (I : WI) (x1 : Int32) (x2 : Int32) : Int32 := (if (v_224 I x1) = 0 then (-99999) else (if (v_170 (Int32.toInt64 x2) (0 : Int64) (11 : Int64)) = 0 then (-99999) else (if (v_170 (Int32.toInt64 x2) (3 : Int64) (9 : Int64)) = 0 then (if 9 ≤ x2 then (if ¬ x2 = 9 then (bx ((lp_223_124 I x1 x2 (0 : Int32) ((I 74 18).toNatClampNeg)) : Int32) (fun p3 => p3)) else (FP.f2i (v_225 I x1))) else (if 3 ≤ x2 then (if 6 ≤ x2 then (I 82 (((3 * x1) + x2) - 6).toNatClampNeg) else (I 81 (((3 * x1) + x2) - 3).toNatClampNeg)) else (I 80 ((3 * x1) + x2).toNatClampNeg))) else (if ¬ (I 83 x1.toNatClampNeg) = 0 then (if 9 ≤ x2 then (if ¬ x2 = 9 then (bx ((lp_223_124 I x1 x2 (0 : Int32) ((I 74 18).toNatClampNeg)) : Int32) (fun p4 => p4)) else (FP.f2i (v_225 I x1))) else (if 3 ≤ x2 then (if 6 ≤ x2 then (I 82 (((3 * x1) + x2) - 6).toNatClampNeg) else (I 81 (((3 * x1) + x2) - 3).toNatClampNeg)) else (I 80 ((3 * x1) + x2).toNatClampNeg))) else (-99999)))))
def g_223 (I : WI) (x1 : Int32) (x2 : Int32) : Prop := (¬ ((v_224 I x1) = 0) → (¬ ((v_170 (Int32.toInt64 x2) (0 : Int64) (11 : Int64)) = 0) → ((((v_170 (Int32.toInt64 x2) (3 : Int64) (9 : Int64)) = 0) → (((9 ≤ x2) → (((¬ x2 = 9) → (gl_223_124 I x1 x2 (0 : Int32) ((I 74 18).toNatClampNeg))) ∧ (¬ (¬ x2 = 9) → (g_225 I x1)))) ∧ (¬ (9 ≤ x2) → (((3 ≤ x2) → (((6 ≤ x2) → (vp_in (((3 * x1) + x2) - 6) 12)) ∧ (¬ (6 ≤ x2) → (vp_in (((3 * x1) + x2) - 3) 12)))) ∧ (¬ (3 ≤ x2) → (vp_in ((3 * x1) + x2) 12)))))) ∧ (¬ ((v_170 (Int32.toInt64 x2) (3 : Int64) (9 : Int64)) = 0) → ((vp_in x1 4) ∧ ((¬ (I 83 x1.toNatClampNeg) = 0) → (((9 ≤ x2) → (((¬ x2 = 9) → (gl_223_124 I x1 x2 (0 : Int32) ((I 74 18).toNatClampNeg))) ∧ (¬ (¬ x2 = 9) → (g_225 I x1)))) ∧ (¬ (9 ≤ x2) → (((3 ≤ x2) → (((6 ≤ x2) → (vp_in (((3 * x1) + x2) - 6) 12)) ∧ (¬ (6 ≤ x2) → (vp_in (((3 * x1) + x2) - 3) 12)))) ∧ (¬ (3 ≤ x2) → (vp_in ((3 * x1) + x2) 12)))))))))))
theorem cc_223 {l : LX} {d : Nat} {I : WI} {F : WF} {L : WL} {t : Nat} {x1 : Int32} {x2 : Int32} (hg : g_223 I x1 x2) : Con l 223 (d + 4) 0 0 [.ref 74, .int x1, .int x2] SH (I, F, L, RT t) (rI (v_223 I x1 x2) (I, F, L, RT t)) := by
  refine cn_223 ?_
  obtain ⟨T1, hT1⟩ : ∃ r : Int32, r = (v_223 I x1 x2) := ⟨_, rfl⟩
  rw [← hT1]
  have he := (hT1.trans (v_223.eq_1 ..)).symm
  have hg := Eq.mp (g_223.eq_1 ..) hg
  refine bk_223_0 (cc_224 (d := d + 2) ) ?_
  refine bk_223_5 (fun h2 => ?_) (fun h2 => ?_)
  · have he := ite_p h2 he
    exact bk_223_43 (rl_p_I he)
  · have he := ite_n h2 he
    have hg := hg h2
    refine bk_223_8 (cc_170 (d := d + 3) ) ?_
    refine bk_223_17 (fun h4 => ?_) (fun h4 => ?_)
    · have he := ite_p h4 he
      exact bk_223_43 (rl_p_I he)
    · have he := ite_n h4 he
      have hg := hg h4
      refine bk_223_20 (cc_170 (d := d + 3) ) ?_
      refine bk_223_31 (fun h6 => ?_) (fun h6 => ?_)
      · have he := ite_p h6 he
        have hg := hg.1 h6
        refine bk_223_47 (fun h7 => ?_) (fun h7 => ?_)
        · have he := ite_p h7 he
          have hg := hg.1 h7
          refine bk_223_106 (fun h8 => ?_) (fun h8 => ?_)
          · have he := ite_p h8 he
            have hg := hg.1 h8
            refine bk_223_119 ?_
            have hgX := hg
            refine lw_223_124 (d := d)  hgX (fun p3 hr => ?_)
            have he := bx_eq hr he
            exact bk_223_173 (rl_p_I he)
          · have he := ite_n h8 he
            have hg := hg.2 h8
            have k14 := hg
            refine bk_223_112 (cc_225 (d := d + 0)  k14) ?_
            exact bk_223_117 (rl_p_I he)
        · have he := ite_n h7 he
          have hg := hg.2 h7
          refine bk_223_53 (fun h15 => ?_) (fun h15 => ?_)
          · have he := ite_p h15 he
            have hg := hg.1 h15
            refine bk_223_71 (fun h16 => ?_) (fun h16 => ?_)
            · have he := ite_p h16 he
              have hg := hg.1 h16
              have k17 := hg
              refine bk_223_92 k17 ?_
              exact bk_223_105 (rl_p_I he)
            · have he := ite_n h16 he
              have hg := hg.2 h16
              have k18 := hg
              refine bk_223_77 k18 ?_
              exact bk_223_105 (rl_p_I he)
          · have he := ite_n h15 he
            have hg := hg.2 h15
            have k19 := hg
            refine bk_223_58 k19 ?_
            exact bk_223_105 (rl_p_I he)
      · have he := ite_n h6 he
        have hg := hg.2 h6
        obtain ⟨k20, hg⟩ := hg
        refine bk_223_34 k20 (fun h21 => ?_) (fun h21 => ?_)
        · have he := ite_p h21 he
          have hg := hg h21
          refine bk_223_47 (fun h22 => ?_) (fun h22 => ?_)
          · have he := ite_p h22 he
            have hg := hg.1 h22
            refine bk_223_106 (fun h23 => ?_) (fun h23 => ?_)
            · have he := ite_p h23 he
              have hg := hg.1 h23
              refine bk_223_119 ?_
              have hgX := hg
              refine lw_223_124 (d := d)  hgX (fun p4 hr => ?_)
              have he := bx_eq hr he
              exact bk_223_173 (rl_p_I he)
            · have he := ite_n h23 he
              have hg := hg.2 h23
              have k24 := hg
              refine bk_223_112 (cc_225 (d := d + 0)  k24) ?_
              exact bk_223_117 (rl_p_I he)
          · have he := ite_n h22 he
            have hg := hg.2 h22
            refine bk_223_53 (fun h25 => ?_) (fun h25 => ?_)
            · have he := ite_p h25 he
              have hg := hg.1 h25
              refine bk_223_71 (fun h26 => ?_) (fun h26 => ?_)
              · have he := ite_p h26 he
                have hg := hg.1 h26
                have k27 := hg
                refine bk_223_92 k27 ?_
                exact bk_223_105 (rl_p_I he)
              · have he := ite_n h26 he
                have hg := hg.2 h26
                have k28 := hg
                refine bk_223_77 k28 ?_
                exact bk_223_105 (rl_p_I he)
            · have he := ite_n h25 he
              have hg := hg.2 h25
              have k29 := hg
              refine bk_223_58 k29 ?_
              exact bk_223_105 (rl_p_I he)
        · have he := ite_n h21 he
          exact bk_223_43 (rl_p_I he)
/-- VectorShelfModel.isBeyond(FI)Z -/
def v_240 (I : WI) (f1 : UInt32) (x2 : Int32) : Int32 := (if (v_241 I (x2 - 1) (1 : Int32)) = (-1) then 0 else (if (Op.cmpValue (FP.fcmp f1 (v_190 (I 96 (v_241 I (x2 - 1) (1 : Int32)).toNatClampNeg))) .l) ≤ 0 then 0 else 1))
def g_240 (I : WI) (x2 : Int32) : Prop := ((g_241 I (x2 - 1) (1 : Int32)) ∧ (¬ ((v_241 I (x2 - 1) (1 : Int32)) = (-1)) → ((vp_in (v_241 I (x2 - 1) (1 : Int32)) 12) ∧ (g_190 (I 96 (v_241 I (x2 - 1) (1 : Int32)).toNatClampNeg)))))
theorem cc_240 {l : LX} {d : Nat} {I : WI} {F : WF} {L : WL} {t : Nat} {f1 : UInt32} {x2 : Int32} (hg : g_240 I x2) : Con l 240 (d + 2) 0 0 [.ref 74, .float f1, .int x2] SH (I, F, L, RT t) (rI (v_240 I f1 x2) (I, F, L, RT t)) := by
  refine cn_240 ?_
  obtain ⟨T1, hT1⟩ : ∃ r : Int32, r = (v_240 I f1 x2) := ⟨_, rfl⟩
  rw [← hT1]
  have he := (hT1.trans (v_240.eq_1 ..)).symm
  have hg := Eq.mp (g_240.eq_1 ..) hg
  obtain ⟨k1, hg⟩ := hg
  refine bk_240_0 (cc_241 (d := d + 0)  k1) ?_
  refine bk_240_8 (fun h2 => ?_) (fun h2 => ?_)
  · have he := ite_p h2 he
    refine bk_240_32 ?_
    exact bk_240_33 (by decide) (rl_p_I he)
  · have he := ite_n h2 he
    have hg := hg h2
    obtain ⟨k3, k4⟩ := hg
    refine bk_240_14 k3 (cc_190 (d := d + 1)  k4) ?_
    refine bk_240_24 (fun h5 => ?_) (fun h5 => ?_)
    · have he := ite_p h5 he
      refine bk_240_32 ?_
      exact bk_240_33 (by decide) (rl_p_I he)
    · have he := ite_n h5 he
      refine bk_240_28 ?_
      exact bk_240_33 (by decide) (rl_p_I he)
theorem sb_240 (I : WI) (f1 : UInt32) (x2 : Int32) : (v_240 I f1 x2) &&& 1 = (v_240 I f1 x2) := by
  unfold v_240
  repeat' split
  all_goals first | rfl
/-- the loop at 75 of VectorShelfModel.shelve -/
def lp_277_75 (F : WF) (x1 : Int32) (x3 : Int32) (x4 : Int32) : Nat → Int32 → Int32 → WI → Int32 × WI
  | 0, x5, x6, I => (0, I)
  | k + 1, x5, x6, I => (if x4 ≤ x6 then (x5, I) else (if x3 < 0 then ((-12), I) else (if x3 ≤ (((I 113 x1.toNatClampNeg) - (4 * x6)) - 4) then (bx ((v_174 I (v_264 I F x1 (x3 + (4 * x6))) (v_264 I F x1 ((x3 + (4 * x6)) + 1)) (v_264 I F x1 ((x3 + (4 * x6)) + 2)) (v_264 I F x1 ((x3 + (4 * x6)) + 3))) : Int32 × WI) (fun p1 => (bx ((if p1.1 < 0 then 0 else 1) : Int32) (fun p2 => (lp_277_75 F x1 x3 x4 k (x5 + p2) (x6 + 1) p1.2))))) else ((-12), I))))
def gl_277_75 (F : WF) (x1 : Int32) (x3 : Int32) (x4 : Int32) : Nat → Int32 → Int32 → WI → Prop
  | 0, _, _, _ => False
  | k + 1, x5, x6, I => (¬ (x4 ≤ x6) → (¬ (x3 < 0) → ((vp_in x1 4) ∧ ((x3 ≤ (((I 113 x1.toNatClampNeg) - (4 * x6)) - 4)) → ((g_264 I F x1 (x3 + (4 * x6))) ∧ ((g_264 I F x1 ((x3 + (4 * x6)) + 1)) ∧ ((g_264 I F x1 ((x3 + (4 * x6)) + 2)) ∧ ((g_264 I F x1 ((x3 + (4 * x6)) + 3)) ∧ ((g_174 I (v_264 I F x1 (x3 + (4 * x6))) (v_264 I F x1 ((x3 + (4 * x6)) + 1)) (v_264 I F x1 ((x3 + (4 * x6)) + 2)) (v_264 I F x1 ((x3 + (4 * x6)) + 3))) ∧ (bx ((v_174 I (v_264 I F x1 (x3 + (4 * x6))) (v_264 I F x1 ((x3 + (4 * x6)) + 1)) (v_264 I F x1 ((x3 + (4 * x6)) + 2)) (v_264 I F x1 ((x3 + (4 * x6)) + 3))) : Int32 × WI) (fun p1 => (bx ((if p1.1 < 0 then 0 else 1) : Int32) (fun p2 => (gl_277_75 F x1 x3 x4 k (x5 + p2) (x6 + 1) p1.2))))))))))))))
theorem lw_277_75 {l : LX} {d : Nat} {F : WF} {L : WL} {t : Nat} {x1 : Int32} {x3 : Int32} {x4 : Int32} : ∀ k : Nat, ∀ (x5 : Int32) (x6 : Int32) (I : WI), gl_277_75 F x1 x3 x4 k x5 x6 I → Wp l 277 (d + 3) 0 0 (po_I_I F L t (lp_277_75 F x1 x3 x4 k x5 x6 I)) 0 0 75 [(0, .ref 74), (1, .int x1), (3, .int x3), (4, .int x4), (5, .int x5), (6, .int x6)] [] SH (I, F, L, RT t) := by
  intro k
  induction k with
  | zero =>
    intro x5 x6 I hg
    exact hg.elim
  | succ k ih =>
    intro x5 x6 I hg
    have hg := Eq.mp (gl_277_75.eq_2 ..) hg
    obtain ⟨T1, hT1⟩ : ∃ r : Int32 × WI, r = lp_277_75 F x1 x3 x4 (k + 1) x5 x6 I := ⟨_, rfl⟩
    rw [← hT1]
    have he := (hT1.trans (lp_277_75.eq_2 ..)).symm
    refine bk_277_75 (fun h11 => ?_) (fun h11 => ?_)
    · have he := ite_p h11 he
      exact bk_277_171 (rl_I_I he)
    · have he := ite_n h11 he
      have hg := hg h11
      refine bk_277_82 (fun h12 => ?_) (fun h12 => ?_)
      · have he := ite_p h12 he
        exact bk_277_103 (rl_I_I he)
      · have he := ite_n h12 he
        have hg := hg h12
        obtain ⟨k13, hg⟩ := hg
        refine bk_277_86 k13 (fun h14 => ?_) (fun h14 => ?_)
        · have he := ite_p h14 he
          have hg := hg h14
          obtain ⟨k15, hg⟩ := hg
          refine bk_277_106 (cc_264 (d := d + 2)  k15) ?_
          obtain ⟨k16, hg⟩ := hg
          refine bk_277_124 (cc_264 (d := d + 2)  k16) ?_
          obtain ⟨k17, hg⟩ := hg
          refine bk_277_133 (cc_264 (d := d + 2)  k17) ?_
          obtain ⟨k18, hg⟩ := hg
          refine bk_277_142 (cc_264 (d := d + 2)  k18) ?_
          obtain ⟨k19, hg⟩ := hg
          refine bk_277_151 (cq_I_I (cc_174 (d := d + 0)  k19)) ?_
          rintro _ _ _ _ _ ⟨p1, hr, rfl, rfl, rfl, rfl, rfl⟩
          have he := bx_eq hr he
          have hg := bx_un hr hg
          obtain ⟨X1, hX1⟩ : ∃ r : Int32, r = (if p1.1 < 0 then 0 else 1) := ⟨_, rfl⟩
          have J1 : ∀ p2 : Int32, p2 = X1 → Wp l 277 (d + 3) 0 0 (po_I_I F L t T1) 0 0 162 [(0, .ref 74), (1, .int x1), (3, .int x3), (4, .int x4), (6, .int x6)] [.int p2, .int x5] SH (p1.2, F, L, RT t) := by
            intro p2 hr
            have hr := hr.trans hX1
            have he := bx_eq hr he
            have hg := bx_un hr hg
            refine bk_277_162 ?_
            exact Wp_eq (post := fun r => (po_I_I F L t r)) he (ih (x5 + p2) (x6 + 1) p1.2 hg)
          have he := hX1.symm
          refine bk_277_154 (fun h20 => ?_) (fun h20 => ?_)
          · have he := ite_p h20 he
            refine bk_277_161 ?_
            exact J1 0 he
          · have he := ite_n h20 he
            refine bk_277_157 ?_
            exact J1 1 he
        · have he := ite_n h14 he
          exact bk_277_103 (rl_I_I he)
/-- VectorShelfModel.shelve(IIII)I -/
def v_277 (I : WI) (F : WF) (x1 : Int32) (x2 : Int32) (x3 : Int32) (x4 : Int32) : Int32 × WI := (if (v_262 x1) = 0 then ((-2), I) else (if (v_170 (Int32.toInt64 x2) (0 : Int64) (2 : Int64)) = 0 then ((-2), I) else (if ¬ (v_170 (Int32.toInt64 x4) (0 : Int64) (12 : Int64)) = 0 then (if (I 111 x1.toNatClampNeg) = 0 then (if ¬ (I 111 x1.toNatClampNeg) = 0 then (lp_277_75 F x1 x3 x4 400 (0 : Int32) (0 : Int32) I) else ((-11), I)) else (if (I 112 x1.toNatClampNeg) = x2 then (if ¬ (I 111 x1.toNatClampNeg) = 0 then (lp_277_75 F x1 x3 x4 400 (0 : Int32) (0 : Int32) I) else ((-11), I)) else ((-13), I))) else ((-2), I))))
def g_277 (I : WI) (F : WF) (x1 : Int32) (x2 : Int32) (x3 : Int32) (x4 : Int32) : Prop := (¬ ((v_262 x1) = 0) → (¬ ((v_170 (Int32.toInt64 x2) (0 : Int64) (2 : Int64)) = 0) → ((¬ (v_170 (Int32.toInt64 x4) (0 : Int64) (12 : Int64)) = 0) → ((vp_in x1 4) ∧ ((((I 111 x1.toNatClampNeg) = 0) → ((vp_in x1 4) ∧ ((¬ (I 111 x1.toNatClampNeg) = 0) → (gl_277_75 F x1 x3 x4 400 (0 : Int32) (0 : Int32) I)))) ∧ (¬ ((I 111 x1.toNatClampNeg) = 0) → ((vp_in x1 4) ∧ (((I 112 x1.toNatClampNeg) = x2) → ((vp_in x1 4) ∧ ((¬ (I 111 x1.toNatClampNeg) = 0) → (gl_277_75 F x1 x3 x4 400 (0 : Int32) (0 : Int32) I)))))))))))
theorem cc_277 {l : LX} {d : Nat} {I : WI} {F : WF} {L : WL} {t : Nat} {x1 : Int32} {x2 : Int32} {x3 : Int32} {x4 : Int32} (hg : g_277 I F x1 x2 x3 x4) : Con l 277 (d + 3) 0 0 [.ref 74, .int x1, .int x2, .int x3, .int x4] SH (I, F, L, RT t) (po_I_I F L t (v_277 I F x1 x2 x3 x4)) := by
  refine cn_277 ?_
  obtain ⟨T1, hT1⟩ : ∃ r : Int32 × WI, r = (v_277 I F x1 x2 x3 x4) := ⟨_, rfl⟩
  rw [← hT1]
  have he := (hT1.trans (v_277.eq_1 ..)).symm
  have hg := Eq.mp (g_277.eq_1 ..) hg
  refine bk_277_0 (cc_262 (d := d + 1) ) ?_
  refine bk_277_4 (fun h2 => ?_) (fun h2 => ?_)
  · have he := ite_p h2 he
    exact bk_277_32 (rl_I_I he)
  · have he := ite_n h2 he
    have hg := hg h2
    refine bk_277_7 (cc_170 (d := d + 2) ) ?_
    refine bk_277_16 (fun h4 => ?_) (fun h4 => ?_)
    · have he := ite_p h4 he
      exact bk_277_32 (rl_I_I he)
    · have he := ite_n h4 he
      have hg := hg h4
      refine bk_277_19 (cc_170 (d := d + 2) ) ?_
      refine bk_277_29 (fun h6 => ?_) (fun h6 => ?_)
      · have he := ite_p h6 he
        have hg := hg h6
        obtain ⟨k7, hg⟩ := hg
        refine bk_277_35 k7 (fun h8 => ?_) (fun h8 => ?_)
        · have he := ite_p h8 he
          have hg := hg.1 h8
          obtain ⟨k9, hg⟩ := hg
          refine bk_277_57 k9 (fun h10 => ?_) (fun h10 => ?_)
          · have he := ite_p h10 he
            have hg := hg h10
            refine bk_277_69 ?_
            exact Wp_eq (post := fun r => (po_I_I F L t r)) he (lw_277_75 (d := d)  400 (0 : Int32) (0 : Int32) I hg)
          · have he := ite_n h10 he
            exact bk_277_66 (rl_I_I he)
        · have he := ite_n h8 he
          have hg := hg.2 h8
          obtain ⟨k21, hg⟩ := hg
          refine bk_277_44 k21 (fun h22 => ?_) (fun h22 => ?_)
          · have he := ite_p h22 he
            have hg := hg h22
            obtain ⟨k23, hg⟩ := hg
            refine bk_277_57 k23 (fun h24 => ?_) (fun h24 => ?_)
            · have he := ite_p h24 he
              have hg := hg h24
              refine bk_277_69 ?_
              exact Wp_eq (post := fun r => (po_I_I F L t r)) he (lw_277_75 (d := d)  400 (0 : Int32) (0 : Int32) I hg)
            · have he := ite_n h24 he
              exact bk_277_66 (rl_I_I he)
          · have he := ite_n h22 he
            exact bk_277_54 (rl_I_I he)
      · have he := ite_n h6 he
        exact bk_277_32 (rl_I_I he)
/-- the loop at 23 of VectorShelf$Company.bestTwo -/
def lp_3_23s (I : WI) (r1 : Nat) (x2 : Int32) (x5 : Int32) (a6 : Int32) (a3 : Int32) (a4 : Int32) : Nat → Int32 × Int32
  | 0 => (a3, a4)
  | k + 1 => bx (lp_3_23s I r1 x2 x5 a6 a3 a4 k) (fun p2 => (bx ((if (v_61 I r1 x5) = 0 then (p2.1, p2.2) else (if (v_61 I r1 (a6 + nI k)) = 0 then (p2.1, p2.2) else (if p2.1 = (-1) then (((x5 * 12) + (a6 + nI k)), (v_4 I r1 x5 (a6 + nI k) x2)) else (if p2.2 ≤ (v_4 I r1 x5 (a6 + nI k) x2) then (p2.1, p2.2) else (((x5 * 12) + (a6 + nI k)), (v_4 I r1 x5 (a6 + nI k) x2)))))) : Int32 × Int32) (fun p3 => (p3.1, p3.2))))
def gl_3_23s (I : WI) (r1 : Nat) (x2 : Int32) (x5 : Int32) (a6 : Int32) (a3 : Int32) (a4 : Int32) (N : Nat) : Prop := (∀ k, k < N → bx (lp_3_23s I r1 x2 x5 a6 a3 a4 k) (fun p2 => (¬ ((v_61 I r1 x5) = 0) → (¬ ((v_61 I r1 (a6 + nI k)) = 0) → (g_4 I r1 x5 (a6 + nI k) x2)))))
theorem lw_3_23s {l : LX} {d : Nat} {P : RP} {I : WI} {F : WF} {L : WL} {t : Nat} {r1 : Nat} {x2 : Int32} {x5 : Int32} {a6 : Int32} {a3 : Int32} {a4 : Int32} (hr1 : isS r1) (hgl : gl_3_23s I r1 x2 x5 a6 a3 a4 (((I r1 8).toInt - a6.toInt).toNat)) (hx : ∀ p2 : Int32 × Int32, p2 = lp_3_23s I r1 x2 x5 a6 a3 a4 (((I r1 8).toInt - a6.toInt).toNat) → Wp l 3 (d + 4) 0 0 P 0 0 93 [(0, .ref 42), (1, .ref r1), (2, .int x2), (3, .int p2.1), (4, .int p2.2), (5, .int x5)] [] SH (I, F, L, RT t)) : Wp l 3 (d + 4) 0 0 P 0 0 23 [(0, .ref 42), (1, .ref r1), (2, .int x2), (3, .int a3), (4, .int a4), (5, .int x5), (6, .int a6)] [] SH (I, F, L, RT t) := by
  have hin := hgl
  have loop : ∀ m k, k + m = ((I r1 8).toInt - a6.toInt).toNat → ∀ p2 : Int32 × Int32, p2 = lp_3_23s I r1 x2 x5 a6 a3 a4 k → Wp l 3 (d + 4) 0 0 P 0 0 23 [(0, .ref 42), (1, .ref r1), (2, .int x2), (3, .int p2.1), (4, .int p2.2), (5, .int x5), (6, .int (a6 + nI k))] [] SH (I, F, L, RT t) := by
    intro m
    induction m with
    | zero =>
      intro k hk p2 hs
      obtain rfl : k = ((I r1 8).toInt - a6.toInt).toNat := by omega
      exact bk_3_23 hr1 (fun _ => hx _ hs) (fun h => absurd ((cl_ge (Nat.le_refl _)).mpr rfl) h)
    | succ m ih =>
      intro k hk p2 hs
      have hk2 : k < ((I r1 8).toInt - a6.toInt).toNat := by omega
      have ih := ih (k + 1) (by omega)
      rw [nI_succ, ← Int32.add_assoc] at ih
      have he := bx_eq hs (lp_3_23s.eq_2 ..).symm
      have hg := bx_un hs (hin k hk2)
      refine bk_3_23 hr1 (fun h => absurd ((cl_ge (E := (I r1 8)) (a := a6) (k := k) (by omega)).mp h) (by omega)) (fun _ => ?_)
      refine bk_3_32 hr1 (cc_61 (d := d + 2) hr1) ?_
      have hgX := hg
      obtain ⟨X1, hX1⟩ : ∃ r : Int32 × Int32, r = (if (v_61 I r1 x5) = 0 then (p2.1, p2.2) else (if (v_61 I r1 (a6 + nI k)) = 0 then (p2.1, p2.2) else (if p2.1 = (-1) then (((x5 * 12) + (a6 + nI k)), (v_4 I r1 x5 (a6 + nI k) x2)) else (if p2.2 ≤ (v_4 I r1 x5 (a6 + nI k) x2) then (p2.1, p2.2) else (((x5 * 12) + (a6 + nI k)), (v_4 I r1 x5 (a6 + nI k) x2)))))) := ⟨_, rfl⟩
      have J1 : ∀ p3 : Int32 × Int32, p3 = X1 → Wp l 3 (d + 4) 0 0 P 0 0 87 [(0, .ref 42), (1, .ref r1), (2, .int x2), (3, .int p3.1), (4, .int p3.2), (5, .int x5), (6, .int (a6 + nI k))] [] SH (I, F, L, RT t) := by
        intro p3 hr
        have hr := hr.trans hX1
        have he := bx_eq hr he
        refine bk_3_87 ?_
        exact ih (p3.1, p3.2) he
      have he := hX1.symm
      have hg := hgX
      refine bk_3_38 (fun h2 => ?_) (fun h2 => ?_)
      · have he := ite_p h2 he
        exact J1 (p2.1, p2.2) he
      · have he := ite_n h2 he
        have hg := hg h2
        refine bk_3_41 hr1 (cc_61 (d := d + 2) hr1) ?_
        refine bk_3_47 (fun h4 => ?_) (fun h4 => ?_)
        · have he := ite_p h4 he
          exact J1 (p2.1, p2.2) he
        · have he := ite_n h4 he
          have hg := hg h4
          have k5 := hg
          refine bk_3_50 (cc_4 (d := d + 0) hr1 k5) ?_
          refine bk_3_60 (fun h6 => ?_) (fun h6 => ?_)
          · have he := ite_p h6 he
            refine bk_3_74 ?_
            exact J1 (((x5 * 12) + (a6 + nI k)), (v_4 I r1 x5 (a6 + nI k) x2)) he
          · have he := ite_n h6 he
            refine bk_3_67 (fun h7 => ?_) (fun h7 => ?_)
            · have he := ite_p h7 he
              exact J1 (p2.1, p2.2) he
            · have he := ite_n h7 he
              refine bk_3_74 ?_
              exact J1 (((x5 * 12) + (a6 + nI k)), (v_4 I r1 x5 (a6 + nI k) x2)) he
  have h0 := loop _ 0 (Nat.zero_add _) _ rfl
  rw [show a6 + nI 0 = a6 from by rw [nI_0, Int32.add_zero]] at h0
  exact h0
/-- the loop at 8 of VectorShelf$Company.bestTwo -/
def lp_3_8 (I : WI) (r1 : Nat) (x2 : Int32) (a3 : Int32) (a4 : Int32) : Nat → Int32 × Int32
  | 0 => (a3, a4)
  | k + 1 => bx (lp_3_8 I r1 x2 a3 a4 k) (fun p1 => (bx ((lp_3_23s I r1 x2 (nI k) ((nI k) + 1) p1.1 p1.2 (((I r1 8).toInt - ((nI k) + 1).toInt).toNat)) : Int32 × Int32) (fun p4 => (p4.1, p4.2))))
def gl_3_8 (I : WI) (r1 : Nat) (x2 : Int32) (a3 : Int32) (a4 : Int32) (N : Nat) : Prop := (∀ k, k < N → bx (lp_3_8 I r1 x2 a3 a4 k) (fun p1 => (gl_3_23s I r1 x2 (nI k) ((nI k) + 1) p1.1 p1.2 (((I r1 8).toInt - ((nI k) + 1).toInt).toNat))))
theorem lw_3_8 {l : LX} {d : Nat} {P : RP} {I : WI} {F : WF} {L : WL} {t : Nat} {r1 : Nat} {x2 : Int32} {a3 : Int32} {a4 : Int32} (hr1 : isS r1) (hgl : gl_3_8 I r1 x2 a3 a4 ((I r1 8).toNatClampNeg)) (hx : ∀ p1 : Int32 × Int32, p1 = lp_3_8 I r1 x2 a3 a4 ((I r1 8).toNatClampNeg) → Wp l 3 (d + 4) 0 0 P 0 0 99 [(3, .int p1.1)] [] SH (I, F, L, RT t)) : Wp l 3 (d + 4) 0 0 P 0 0 8 [(0, .ref 42), (1, .ref r1), (2, .int x2), (3, .int a3), (4, .int a4), (5, .int 0)] [] SH (I, F, L, RT t) := by
  have hin := hgl
  have loop : ∀ m k, k + m = (I r1 8).toNatClampNeg → ∀ p1 : Int32 × Int32, p1 = lp_3_8 I r1 x2 a3 a4 k → Wp l 3 (d + 4) 0 0 P 0 0 8 [(0, .ref 42), (1, .ref r1), (2, .int x2), (3, .int p1.1), (4, .int p1.2), (5, .int (nI k))] [] SH (I, F, L, RT t) := by
    intro m
    induction m with
    | zero =>
      intro k hk p1 hs
      obtain rfl : k = (I r1 8).toNatClampNeg := by omega
      exact bk_3_8 hr1 (fun _ => hx _ hs) (fun h => absurd ((le_cl (Nat.le_refl _)).mpr rfl) h)
    | succ m ih =>
      intro k hk p1 hs
      have hk2 : k < (I r1 8).toNatClampNeg := by omega
      have ih := ih (k + 1) (by omega)
      rw [nI_succ] at ih
      have he := bx_eq hs (lp_3_8.eq_2 ..).symm
      have hg := bx_un hs (hin k hk2)
      refine bk_3_8 hr1 (fun h => absurd ((le_cl (E := (I r1 8)) (i := k) (by omega)).mp h) (by omega)) (fun _ => ?_)
      refine bk_3_17 ?_
      have hgX := hg
      refine lw_3_23s (d := d) hr1 hgX (fun p4 hr => ?_)
      have he := bx_eq hr he
      refine bk_3_93 ?_
      exact ih (p4.1, p4.2) he
  exact loop _ 0 (Nat.zero_add _) _ rfl
/-- VectorShelf$Company.bestTwo(LVectorShelf$Shelf;Z)I -/
def v_3 (I : WI) (r1 : Nat) (x2 : Int32) : Int32 := (bx ((lp_3_8 I r1 x2 ((-1) : Int32) (0 : Int32) ((I r1 8).toNatClampNeg)) : Int32 × Int32) (fun p5 => p5.1))
def g_3 (I : WI) (r1 : Nat) (x2 : Int32) : Prop := (gl_3_8 I r1 x2 ((-1) : Int32) (0 : Int32) ((I r1 8).toNatClampNeg))
theorem cc_3 {l : LX} {d : Nat} {I : WI} {F : WF} {L : WL} {t : Nat} {r1 : Nat} {x2 : Int32} (hr1 : isS r1) (hg : g_3 I r1 x2) : Con l 3 (d + 4) 0 0 [.ref 42, .ref r1, .int x2] SH (I, F, L, RT t) (rI (v_3 I r1 x2) (I, F, L, RT t)) := by
  refine cn_3 ?_
  obtain ⟨T1, hT1⟩ : ∃ r : Int32, r = (v_3 I r1 x2) := ⟨_, rfl⟩
  rw [← hT1]
  have he := (hT1.trans (v_3.eq_1 ..)).symm
  have hg := Eq.mp (g_3.eq_1 ..) hg
  refine bk_3_0 ?_
  have hgX := hg
  refine lw_3_8 (d := d) hr1 hgX (fun p5 hr => ?_)
  have he := bx_eq hr he
  exact bk_3_99 (rl_p_I he)
/-- the loop at 8 of VectorShelf$Company.farthestFrom -/
def lp_6_8 (I : WI) (r1 : Nat) (x2 : Int32) (a3 : Int32) (a4 : Int32) : Nat → Int32 × Int32
  | 0 => (a3, a4)
  | k + 1 => bx (lp_6_8 I r1 x2 a3 a4 k) (fun p1 => (bx ((if (v_61 I r1 (nI k)) = 0 then (p1.1, p1.2) else (if ¬ (v_111 x2 (nI k)) = 0 then (p1.1, p1.2) else (if (v_7 I r1 (nI k) x2) ≤ p1.2 then (p1.1, p1.2) else ((nI k), (v_7 I r1 (nI k) x2))))) : Int32 × Int32) (fun p2 => (p2.1, p2.2))))
def gl_6_8 (I : WI) (r1 : Nat) (x2 : Int32) (a3 : Int32) (a4 : Int32) (N : Nat) : Prop := (∀ k, k < N → bx (lp_6_8 I r1 x2 a3 a4 k) (fun p1 => (¬ ((v_61 I r1 (nI k)) = 0) → (¬ (¬ (v_111 x2 (nI k)) = 0) → (g_7 I r1 (nI k) x2)))))
theorem lw_6_8 {l : LX} {d : Nat} {P : RP} {I : WI} {F : WF} {L : WL} {t : Nat} {r1 : Nat} {x2 : Int32} {a3 : Int32} {a4 : Int32} (hr1 : isS r1) (hgl : gl_6_8 I r1 x2 a3 a4 ((I r1 8).toNatClampNeg)) (hx : ∀ p1 : Int32 × Int32, p1 = lp_6_8 I r1 x2 a3 a4 ((I r1 8).toNatClampNeg) → Wp l 6 (d + 4) 0 0 P 0 0 65 [(3, .int p1.1)] [] SH (I, F, L, RT t)) : Wp l 6 (d + 4) 0 0 P 0 0 8 [(0, .ref 42), (1, .ref r1), (2, .int x2), (3, .int a3), (4, .int a4), (5, .int 0)] [] SH (I, F, L, RT t) := by
  have hin := hgl
  have loop : ∀ m k, k + m = (I r1 8).toNatClampNeg → ∀ p1 : Int32 × Int32, p1 = lp_6_8 I r1 x2 a3 a4 k → Wp l 6 (d + 4) 0 0 P 0 0 8 [(0, .ref 42), (1, .ref r1), (2, .int x2), (3, .int p1.1), (4, .int p1.2), (5, .int (nI k))] [] SH (I, F, L, RT t) := by
    intro m
    induction m with
    | zero =>
      intro k hk p1 hs
      obtain rfl : k = (I r1 8).toNatClampNeg := by omega
      exact bk_6_8 hr1 (fun _ => hx _ hs) (fun h => absurd ((le_cl (Nat.le_refl _)).mpr rfl) h)
    | succ m ih =>
      intro k hk p1 hs
      have hk2 : k < (I r1 8).toNatClampNeg := by omega
      have ih := ih (k + 1) (by omega)
      rw [nI_succ] at ih
      have he := bx_eq hs (lp_6_8.eq_2 ..).symm
      have hg := bx_un hs (hin k hk2)
      refine bk_6_8 hr1 (fun h => absurd ((le_cl (E := (I r1 8)) (i := k) (by omega)).mp h) (by omega)) (fun _ => ?_)
      refine bk_6_17 hr1 (cc_61 (d := d + 2) hr1) ?_
      have hgX := hg
      obtain ⟨X1, hX1⟩ : ∃ r : Int32 × Int32, r = (if (v_61 I r1 (nI k)) = 0 then (p1.1, p1.2) else (if ¬ (v_111 x2 (nI k)) = 0 then (p1.1, p1.2) else (if (v_7 I r1 (nI k) x2) ≤ p1.2 then (p1.1, p1.2) else ((nI k), (v_7 I r1 (nI k) x2))))) := ⟨_, rfl⟩
      have J1 : ∀ p2 : Int32 × Int32, p2 = X1 → Wp l 6 (d + 4) 0 0 P 0 0 59 [(0, .ref 42), (1, .ref r1), (2, .int x2), (3, .int p2.1), (4, .int p2.2), (5, .int (nI k))] [] SH (I, F, L, RT t) := by
        intro p2 hr
        have hr := hr.trans hX1
        have he := bx_eq hr he
        refine bk_6_59 ?_
        exact ih (p2.1, p2.2) he
      have he := hX1.symm
      have hg := hgX
      refine bk_6_23 (fun h2 => ?_) (fun h2 => ?_)
      · have he := ite_p h2 he
        exact J1 (p1.1, p1.2) he
      · have he := ite_n h2 he
        have hg := hg h2
        refine bk_6_26 (cc_111 (d := d + 3) ) ?_
        refine bk_6_32 (fun h4 => ?_) (fun h4 => ?_)
        · have he := ite_p h4 he
          exact J1 (p1.1, p1.2) he
        · have he := ite_n h4 he
          have hg := hg h4
          have k5 := hg
          refine bk_6_35 (cc_7 (d := d + 0) hr1 k5) ?_
          refine bk_6_43 (fun h6 => ?_) (fun h6 => ?_)
          · have he := ite_p h6 he
            exact J1 (p1.1, p1.2) he
          · have he := ite_n h6 he
            refine bk_6_52 ?_
            exact J1 ((nI k), (v_7 I r1 (nI k) x2)) he
  exact loop _ 0 (Nat.zero_add _) _ rfl
/-- VectorShelf$Company.farthestFrom(LVectorShelf$Shelf;I)I -/
def v_6 (I : WI) (r1 : Nat) (x2 : Int32) : Int32 := (bx ((lp_6_8 I r1 x2 (0 : Int32) ((-1) : Int32) ((I r1 8).toNatClampNeg)) : Int32 × Int32) (fun p3 => p3.1))
def g_6 (I : WI) (r1 : Nat) (x2 : Int32) : Prop := (gl_6_8 I r1 x2 (0 : Int32) ((-1) : Int32) ((I r1 8).toNatClampNeg))
theorem cc_6 {l : LX} {d : Nat} {I : WI} {F : WF} {L : WL} {t : Nat} {r1 : Nat} {x2 : Int32} (hr1 : isS r1) (hg : g_6 I r1 x2) : Con l 6 (d + 4) 0 0 [.ref 42, .ref r1, .int x2] SH (I, F, L, RT t) (rI (v_6 I r1 x2) (I, F, L, RT t)) := by
  refine cn_6 ?_
  obtain ⟨T1, hT1⟩ : ∃ r : Int32, r = (v_6 I r1 x2) := ⟨_, rfl⟩
  rw [← hT1]
  have he := (hT1.trans (v_6.eq_1 ..)).symm
  have hg := Eq.mp (g_6.eq_1 ..) hg
  refine bk_6_0 ?_
  have hgX := hg
  refine lw_6_8 (d := d) hr1 hgX (fun p3 hr => ?_)
  have he := bx_eq hr he
  exact bk_6_65 (rl_p_I he)
end
