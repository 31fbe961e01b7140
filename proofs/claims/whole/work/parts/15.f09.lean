section
/-- VectorShelfModel.term(II)I -/
def v_186 (I : WI) (x1 : Int32) (x2 : Int32) : Int32 := (bx ((if (v_187 I) = 0 then x1 else (v_188 I x1)) : Int32) (fun p1 => (if (I 78 3) = 2 then p1 else (if ¬ (I 78 3) = 4 then (if ¬ (I 78 3) = 0 then ((p1 * p1) * (I 78 (4 + x2).toNatClampNeg)) else (p1 * p1)) else p1))))
def g_186 (I : WI) (x1 : Int32) (x2 : Int32) : Prop := (bx ((if (v_187 I) = 0 then x1 else (v_188 I x1)) : Int32) (fun p1 => (¬ ((I 78 3) = 2) → ((¬ (I 78 3) = 4) → ((¬ (I 78 3) = 0) → (vp_in (4 + x2) 7))))))
theorem cc_186 {l : LX} {d : Nat} {I : WI} {F : WF} {L : WL} {t : Nat} {x1 : Int32} {x2 : Int32} (hg : g_186 I x1 x2) : Con l 186 (d + 1) 0 0 [.ref 74, .int x1, .int x2] SH (I, F, L, RT t) (rI (v_186 I x1 x2) (I, F, L, RT t)) := by
  refine cn_186 ?_
  obtain ⟨T1, hT1⟩ : ∃ r : Int32, r = (v_186 I x1 x2) := ⟨_, rfl⟩
  rw [← hT1]
  have he := (hT1.trans (v_186.eq_1 ..)).symm
  have hg := Eq.mp (g_186.eq_1 ..) hg
  refine bk_186_0 (cc_187 (d := d + 0) ) ?_
  obtain ⟨X1, hX1⟩ : ∃ r : Int32, r = (if (v_187 I) = 0 then x1 else (v_188 I x1)) := ⟨_, rfl⟩
  have J1 : ∀ p1 : Int32, p1 = X1 → Wp l 186 (d + 1) 0 0 (rI T1 (I, F, L, RT t)) 0 0 16 [(0, .ref 74), (2, .int x2)] [.int p1] SH (I, F, L, RT t) := by
    intro p1 hr
    have hr := hr.trans hX1
    have he := bx_eq hr he
    have hg := bx_un hr hg
    refine bk_186_16 (fun h4 => ?_) (fun h4 => ?_)
    · have he := ite_p h4 he
      exact bk_186_37 (rl_p_I he)
    · have he := ite_n h4 he
      have hg := hg h4
      refine bk_186_27 (fun h5 => ?_) (fun h5 => ?_)
      · have he := ite_p h5 he
        have hg := hg h5
        refine bk_186_39 (fun h6 => ?_) (fun h6 => ?_)
        · have he := ite_p h6 he
          have hg := hg h6
          have k7 := hg
          refine bk_186_54 k7 ?_
          exact bk_186_66 (rl_p_I he)
        · have he := ite_n h6 he
          refine bk_186_48 ?_
          exact bk_186_66 (rl_p_I he)
      · have he := ite_n h5 he
        exact bk_186_37 (rl_p_I he)
  have he := hX1.symm
  refine bk_186_4 (fun h2 => ?_) (fun h2 => ?_)
  · have he := ite_p h2 he
    refine bk_186_15 ?_
    exact J1 x1 he
  · have he := ite_n h2 he
    refine bk_186_7 (cc_188 (d := d + 0) ) ?_
    refine bk_186_12 ?_
    exact J1 (v_188 I x1) he
/-- VectorShelfModel.high(I)I -/
def v_189 (x1 : Int32) : Int32 := (if (v_170 (Int32.toInt64 x1) (0 : Int64) (999999999 : Int64)) = 0 then (-2) else (FP.f2i (v_190 x1)))
def g_189 (x1 : Int32) : Prop := (¬ ((v_170 (Int32.toInt64 x1) (0 : Int64) (999999999 : Int64)) = 0) → (g_190 x1))
theorem cc_189 {l : LX} {d : Nat} {I : WI} {F : WF} {L : WL} {t : Nat} {x1 : Int32} (hg : g_189 x1) : Con l 189 (d + 1) 0 0 [.ref 74, .int x1] SH (I, F, L, RT t) (rI (v_189 x1) (I, F, L, RT t)) := by
  refine cn_189 ?_
  obtain ⟨T1, hT1⟩ : ∃ r : Int32, r = (v_189 x1) := ⟨_, rfl⟩
  rw [← hT1]
  have he := (hT1.trans (v_189.eq_1 ..)).symm
  have hg := Eq.mp (g_189.eq_1 ..) hg
  refine bk_189_0 (cc_170 (d := d + 0) ) ?_
  refine bk_189_9 (fun h2 => ?_) (fun h2 => ?_)
  · have he := ite_p h2 he
    refine bk_189_20 ?_
    exact bk_189_22 (rl_p_I he)
  · have he := ite_n h2 he
    have hg := hg h2
    have k3 := hg
    refine bk_189_12 (cc_190 (d := d + 0)  k3) ?_
    refine bk_189_16 ?_
    exact bk_189_22 (rl_p_I he)
/-- the loop at 0 of VectorShelfModel.next -/
def lp_194_0 : Nat → WI → WI
  | 0, I => I
  | k + 1, I => (if (v_195 I (I 74 27)) = 32 then (lp_194_0 k (up2 I 74 27 ((I 74 27) + 1))) else (if ¬ (v_195 I (I 74 27)) = 10 then I else (lp_194_0 k (up2 I 74 27 ((I 74 27) + 1)))))
def gl_194_0 : Nat → WI → Prop
  | 0, _ => False
  | k + 1, I => ((g_195 I (I 74 27)) ∧ ((((v_195 I (I 74 27)) = 32) → (gl_194_0 k (up2 I 74 27 ((I 74 27) + 1)))) ∧ (¬ ((v_195 I (I 74 27)) = 32) → ((g_195 I (I 74 27)) ∧ (¬ (¬ (v_195 I (I 74 27)) = 10) → (gl_194_0 k (up2 I 74 27 ((I 74 27) + 1))))))))
theorem lw_194_0 {l : LX} {d : Nat} {P : RP} {F : WF} {L : WL} {t : Nat} : ∀ k : Nat, ∀ (I : WI), gl_194_0 k I → (∀ r : WI, r = lp_194_0 k I → Wp l 194 (d + 1) 0 0 P 0 0 39 [(0, .ref 74)] [] SH (r, F, L, RT t)) → Wp l 194 (d + 1) 0 0 P 0 0 0 [(0, .ref 74)] [] SH (I, F, L, RT t) := by
  intro k
  induction k with
  | zero =>
    intro I hg hx
    exact hg.elim
  | succ k ih =>
    intro I hg hx
    have hg := Eq.mp (gl_194_0.eq_2 ..) hg
    obtain ⟨T1, hT1⟩ : ∃ r : WI, r = lp_194_0 (k + 1) I := ⟨_, rfl⟩
    have hx : ∀ r : WI, r = T1 → Wp l 194 (d + 1) 0 0 P 0 0 39 [(0, .ref 74)] [] SH (r, F, L, RT t) := fun r hr => hx r (hr.trans hT1)
    have he := (hT1.trans (lp_194_0.eq_2 ..)).symm
    obtain ⟨k1, hg⟩ := hg
    refine bk_194_0 (cc_195 (d := d + 0)  k1) ?_
    refine bk_194_8 (fun h2 => ?_) (fun h2 => ?_)
    · have he := ite_p h2 he
      have hg := hg.1 h2
      refine bk_194_26 ?_
      exact ih (up2 I 74 27 ((I 74 27) + 1)) hg (fun r hr => hx r (hr.trans he))
    · have he := ite_n h2 he
      have hg := hg.2 h2
      obtain ⟨k3, hg⟩ := hg
      refine bk_194_13 (cc_195 (d := d + 0)  k3) ?_
      refine bk_194_21 (fun h4 => ?_) (fun h4 => ?_)
      · have he := ite_p h4 he
        exact hx I he
      · have he := ite_n h4 he
        have hg := hg h4
        refine bk_194_26 ?_
        exact ih (up2 I 74 27 ((I 74 27) + 1)) hg (fun r hr => hx r (hr.trans he))
/-- the loop at 160 of VectorShelfModel.next -/
def lp_194_160 : Nat → Int32 → WI → WL → Int32 × WI × WL
  | 0, x2, I, L => (x2, I, L)
  | k + 1, x2, I, L => (if (v_170 (Int32.toInt64 (v_195 I (I 74 27))) (48 : Int64) (57 : Int64)) = 0 then (x2, I, L) else (bx ((if 4 ≤ x2 then (L 74 30) else (((10 * (L 74 30)) + (Int32.toInt64 (v_195 I (I 74 27)))) - 48)) : Int64) (fun p2 => (lp_194_160 k (x2 + 1) (up2 I 74 27 ((I 74 27) + 1)) (up2 L 74 30 p2)))))
def gl_194_160 : Nat → Int32 → WI → WL → Prop
  | 0, _, _, _ => False
  | k + 1, x2, I, L => ((g_195 I (I 74 27)) ∧ (¬ ((v_170 (Int32.toInt64 (v_195 I (I 74 27))) (48 : Int64) (57 : Int64)) = 0) → ((¬ (4 ≤ x2) → (g_195 I (I 74 27))) ∧ (bx ((if 4 ≤ x2 then (L 74 30) else (((10 * (L 74 30)) + (Int32.toInt64 (v_195 I (I 74 27)))) - 48)) : Int64) (fun p2 => (gl_194_160 k (x2 + 1) (up2 I 74 27 ((I 74 27) + 1)) (up2 L 74 30 p2)))))))
theorem lw_194_160 {l : LX} {d : Nat} {P : RP} {F : WF} {t : Nat} : ∀ k : Nat, ∀ (x2 : Int32) (I : WI) (L : WL), gl_194_160 k x2 I L → (∀ r : Int32 × WI × WL, r = lp_194_160 k x2 I L → Wp l 194 (d + 1) 0 0 P 0 0 235 [(0, .ref 74), (2, .int r.1)] [] SH (r.2.1, F, r.2.2, RT t)) → Wp l 194 (d + 1) 0 0 P 0 0 160 [(0, .ref 74), (2, .int x2)] [] SH (I, F, L, RT t) := by
  intro k
  induction k with
  | zero =>
    intro x2 I L hg hx
    exact hg.elim
  | succ k ih =>
    intro x2 I L hg hx
    have hg := Eq.mp (gl_194_160.eq_2 ..) hg
    obtain ⟨T1, hT1⟩ : ∃ r : Int32 × WI × WL, r = lp_194_160 (k + 1) x2 I L := ⟨_, rfl⟩
    have hx : ∀ r : Int32 × WI × WL, r = T1 → Wp l 194 (d + 1) 0 0 P 0 0 235 [(0, .ref 74), (2, .int r.1)] [] SH (r.2.1, F, r.2.2, RT t) := fun r hr => hx r (hr.trans hT1)
    have he := (hT1.trans (lp_194_160.eq_2 ..)).symm
    obtain ⟨k19, hg⟩ := hg
    refine bk_194_160 (cc_195 (d := d + 0)  k19) ?_
    refine bk_194_168 (cc_170 (d := d + 0) ) ?_
    refine bk_194_178 (fun h21 => ?_) (fun h21 => ?_)
    · have he := ite_p h21 he
      exact hx (x2, I, L) he
    · have he := ite_n h21 he
      have hg := hg h21
      obtain ⟨hgX, hg⟩ := hg
      obtain ⟨X2, hX2⟩ : ∃ r : Int64, r = (if 4 ≤ x2 then (L 74 30) else (((10 * (L 74 30)) + (Int32.toInt64 (v_195 I (I 74 27)))) - 48)) := ⟨_, rfl⟩
      have J2 : ∀ p2 : Int64, p2 = X2 → Wp l 194 (d + 1) 0 0 P 0 0 216 [(0, .ref 74), (2, .int x2)] [.long p2, .ref 74] SH (I, F, L, RT t) := by
        intro p2 hr
        have hr := hr.trans hX2
        have he := bx_eq hr he
        have hg := bx_un hr hg
        refine bk_194_216 ?_
        exact ih (x2 + 1) (up2 I 74 27 ((I 74 27) + 1)) (up2 L 74 30 p2) hg (fun r hr => hx r (hr.trans he))
      have he := hX2.symm
      have hg := hgX
      refine bk_194_181 (fun h22 => ?_) (fun h22 => ?_)
      · have he := ite_p h22 he
        refine bk_194_212 ?_
        exact J2 (L 74 30) he
      · have he := ite_n h22 he
        have hg := hg h22
        have k23 := hg
        refine bk_194_187 (cc_195 (d := d + 0)  k23) ?_
        refine bk_194_203 ?_
        exact J2 (((10 * (L 74 30)) + (Int32.toInt64 (v_195 I (I 74 27)))) - 48) he
/-- the loop at 100 of VectorShelfModel.next -/
def lp_194_100 : Nat → WI → WI
  | 0, I => I
  | k + 1, I => (if (v_170 (Int32.toInt64 (v_195 I (I 74 27))) (97 : Int64) (122 : Int64)) = 0 then I else (lp_194_100 k (up2 I 74 27 ((I 74 27) + 1))))
def gl_194_100 : Nat → WI → Prop
  | 0, _ => False
  | k + 1, I => ((g_195 I (I 74 27)) ∧ (¬ ((v_170 (Int32.toInt64 (v_195 I (I 74 27))) (97 : Int64) (122 : Int64)) = 0) → (gl_194_100 k (up2 I 74 27 ((I 74 27) + 1)))))
theorem lw_194_100 {l : LX} {d : Nat} {P : RP} {F : WF} {L : WL} {t : Nat} : ∀ k : Nat, ∀ (I : WI), gl_194_100 k I → (∀ r : WI, r = lp_194_100 k I → Wp l 194 (d + 1) 0 0 P 0 0 321 [] [] SH (r, F, L, RT t)) → Wp l 194 (d + 1) 0 0 P 0 0 100 [(0, .ref 74)] [] SH (I, F, L, RT t) := by
  intro k
  induction k with
  | zero =>
    intro I hg hx
    exact hg.elim
  | succ k ih =>
    intro I hg hx
    have hg := Eq.mp (gl_194_100.eq_2 ..) hg
    obtain ⟨T1, hT1⟩ : ∃ r : WI, r = lp_194_100 (k + 1) I := ⟨_, rfl⟩
    have hx : ∀ r : WI, r = T1 → Wp l 194 (d + 1) 0 0 P 0 0 321 [] [] SH (r, F, L, RT t) := fun r hr => hx r (hr.trans hT1)
    have he := (hT1.trans (lp_194_100.eq_2 ..)).symm
    obtain ⟨k25, hg⟩ := hg
    refine bk_194_100 (cc_195 (d := d + 0)  k25) ?_
    refine bk_194_108 (cc_170 (d := d + 0) ) ?_
    refine bk_194_118 (fun h27 => ?_) (fun h27 => ?_)
    · have he := ite_p h27 he
      exact hx I he
    · have he := ite_n h27 he
      have hg := hg h27
      refine bk_194_121 ?_
      exact ih (up2 I 74 27 ((I 74 27) + 1)) hg (fun r hr => hx r (hr.trans he))
/-- VectorShelfModel.next()V -/
def v_194 (I : WI) (L : WL) : WI × WL := (bx ((lp_194_0 400 I) : WI) (fun p1 => (if 0 ≤ (v_195 (up2 p1 74 29 (p1 74 27)) (p1 74 27)) then (if (v_170 (Int32.toInt64 (v_195 (up2 p1 74 29 (p1 74 27)) (p1 74 27))) (97 : Int64) (122 : Int64)) = 0 then (if (v_170 (Int32.toInt64 (v_195 (up2 p1 74 29 (p1 74 27)) (p1 74 27))) (48 : Int64) (57 : Int64)) = 0 then (if (v_195 (up2 p1 74 29 (p1 74 27)) (p1 74 27)) = 40 then ((up2 (up2 (up2 (up2 p1 74 29 (p1 74 27)) 74 28 4) 74 28 3) 74 27 (((up2 (up2 p1 74 29 (p1 74 27)) 74 28 4) 74 27) + 1)), (up2 L 74 30 (Int32.toInt64 (v_195 (up2 p1 74 29 (p1 74 27)) (p1 74 27))))) else (if (v_195 (up2 p1 74 29 (p1 74 27)) (p1 74 27)) = 41 then ((up2 (up2 (up2 (up2 p1 74 29 (p1 74 27)) 74 28 4) 74 28 3) 74 27 (((up2 (up2 p1 74 29 (p1 74 27)) 74 28 4) 74 27) + 1)), (up2 L 74 30 (Int32.toInt64 (v_195 (up2 p1 74 29 (p1 74 27)) (p1 74 27))))) else (if (v_195 (up2 p1 74 29 (p1 74 27)) (p1 74 27)) = 59 then ((up2 (up2 (up2 (up2 p1 74 29 (p1 74 27)) 74 28 4) 74 28 3) 74 27 (((up2 (up2 p1 74 29 (p1 74 27)) 74 28 4) 74 27) + 1)), (up2 L 74 30 (Int32.toInt64 (v_195 (up2 p1 74 29 (p1 74 27)) (p1 74 27))))) else (if (v_195 (up2 p1 74 29 (p1 74 27)) (p1 74 27)) = 43 then ((up2 (up2 (up2 (up2 p1 74 29 (p1 74 27)) 74 28 4) 74 28 3) 74 27 (((up2 (up2 p1 74 29 (p1 74 27)) 74 28 4) 74 27) + 1)), (up2 L 74 30 (Int32.toInt64 (v_195 (up2 p1 74 29 (p1 74 27)) (p1 74 27))))) else (if (v_195 (up2 p1 74 29 (p1 74 27)) (p1 74 27)) = 45 then ((up2 (up2 (up2 (up2 p1 74 29 (p1 74 27)) 74 28 4) 74 28 3) 74 27 (((up2 (up2 p1 74 29 (p1 74 27)) 74 28 4) 74 27) + 1)), (up2 L 74 30 (Int32.toInt64 (v_195 (up2 p1 74 29 (p1 74 27)) (p1 74 27))))) else (if (v_195 (up2 p1 74 29 (p1 74 27)) (p1 74 27)) = 42 then ((up2 (up2 (up2 (up2 p1 74 29 (p1 74 27)) 74 28 4) 74 28 3) 74 27 (((up2 (up2 p1 74 29 (p1 74 27)) 74 28 4) 74 27) + 1)), (up2 L 74 30 (Int32.toInt64 (v_195 (up2 p1 74 29 (p1 74 27)) (p1 74 27))))) else (if (v_195 (up2 p1 74 29 (p1 74 27)) (p1 74 27)) = 60 then ((up2 (up2 (up2 (up2 p1 74 29 (p1 74 27)) 74 28 4) 74 28 3) 74 27 (((up2 (up2 p1 74 29 (p1 74 27)) 74 28 4) 74 27) + 1)), (up2 L 74 30 (Int32.toInt64 (v_195 (up2 p1 74 29 (p1 74 27)) (p1 74 27))))) else (if ¬ (v_195 (up2 p1 74 29 (p1 74 27)) (p1 74 27)) = 61 then ((up2 (up2 p1 74 29 (p1 74 27)) 74 28 4), L) else ((up2 (up2 (up2 (up2 p1 74 29 (p1 74 27)) 74 28 4) 74 28 3) 74 27 (((up2 (up2 p1 74 29 (p1 74 27)) 74 28 4) 74 27) + 1)), (up2 L 74 30 (Int32.toInt64 (v_195 (up2 p1 74 29 (p1 74 27)) (p1 74 27))))))))))))) else (bx ((lp_194_160 400 (0 : Int32) (up2 (up2 (up2 p1 74 29 (p1 74 27)) 74 28 4) 74 28 2) (up2 L 74 30 0)) : Int32 × WI × WL) (fun p3 => (bx ((if p3.1 ≤ 4 then 2 else 4) : Int32) (fun p4 => ((up2 p3.2.1 74 28 p4), p3.2.2)))))) else (bx ((lp_194_100 400 (up2 (up2 (up2 p1 74 29 (p1 74 27)) 74 28 4) 74 28 1)) : WI) (fun p5 => (p5, L)))) else ((up2 (up2 (up2 (up2 p1 74 29 (p1 74 27)) 74 28 4) 74 28 0) 74 29 ((up2 (up2 p1 74 29 (p1 74 27)) 74 28 4) 74 26)), L))))
def g_194 (I : WI) (L : WL) : Prop := ((gl_194_0 400 I) ∧ (bx ((lp_194_0 400 I) : WI) (fun p1 => ((g_195 (up2 p1 74 29 (p1 74 27)) (p1 74 27)) ∧ ((0 ≤ (v_195 (up2 p1 74 29 (p1 74 27)) (p1 74 27))) → ((((v_170 (Int32.toInt64 (v_195 (up2 p1 74 29 (p1 74 27)) (p1 74 27))) (97 : Int64) (122 : Int64)) = 0) → (¬ ((v_170 (Int32.toInt64 (v_195 (up2 p1 74 29 (p1 74 27)) (p1 74 27))) (48 : Int64) (57 : Int64)) = 0) → (gl_194_160 400 (0 : Int32) (up2 (up2 (up2 p1 74 29 (p1 74 27)) 74 28 4) 74 28 2) (up2 L 74 30 0)))) ∧ (¬ ((v_170 (Int32.toInt64 (v_195 (up2 p1 74 29 (p1 74 27)) (p1 74 27))) (97 : Int64) (122 : Int64)) = 0) → (gl_194_100 400 (up2 (up2 (up2 p1 74 29 (p1 74 27)) 74 28 4) 74 28 1)))))))))
theorem cc_194 {l : LX} {d : Nat} {I : WI} {F : WF} {L : WL} {t : Nat} (hg : g_194 I L) : Con l 194 (d + 1) 0 0 [.ref 74] SH (I, F, L, RT t) (po_V_IL F t (v_194 I L)) := by
  refine cn_194 ?_
  obtain ⟨T1, hT1⟩ : ∃ r : WI × WL, r = (v_194 I L) := ⟨_, rfl⟩
  rw [← hT1]
  have he := (hT1.trans (v_194.eq_1 ..)).symm
  have hg := Eq.mp (g_194.eq_1 ..) hg
  obtain ⟨hgX, hg⟩ := hg
  refine lw_194_0 (d := d)  400 I hgX (fun p1 hr => ?_)
  have he := bx_eq hr he
  have hg := bx_un hr hg
  obtain ⟨k5, hg⟩ := hg
  refine bk_194_39 (cc_195 (d := d + 0)  k5) ?_
  refine bk_194_55 (fun h6 => ?_) (fun h6 => ?_)
  · have he := ite_p h6 he
    have hg := hg h6
    refine bk_194_81 (cc_170 (d := d + 0) ) ?_
    refine bk_194_92 (fun h8 => ?_) (fun h8 => ?_)
    · have he := ite_p h8 he
      have hg := hg.1 h8
      refine bk_194_134 (cc_170 (d := d + 0) ) ?_
      refine bk_194_145 (fun h10 => ?_) (fun h10 => ?_)
      · have he := ite_p h10 he
        refine bk_194_252 (fun h11 => ?_) (fun h11 => ?_)
        · have he := ite_p h11 he
          refine bk_194_300 ?_
          exact bk_194_321 (rl_V_IL he)
        · have he := ite_n h11 he
          refine bk_194_258 (fun h12 => ?_) (fun h12 => ?_)
          · have he := ite_p h12 he
            refine bk_194_300 ?_
            exact bk_194_321 (rl_V_IL he)
          · have he := ite_n h12 he
            refine bk_194_264 (fun h13 => ?_) (fun h13 => ?_)
            · have he := ite_p h13 he
              refine bk_194_300 ?_
              exact bk_194_321 (rl_V_IL he)
            · have he := ite_n h13 he
              refine bk_194_270 (fun h14 => ?_) (fun h14 => ?_)
              · have he := ite_p h14 he
                refine bk_194_300 ?_
                exact bk_194_321 (rl_V_IL he)
              · have he := ite_n h14 he
                refine bk_194_276 (fun h15 => ?_) (fun h15 => ?_)
                · have he := ite_p h15 he
                  refine bk_194_300 ?_
                  exact bk_194_321 (rl_V_IL he)
                · have he := ite_n h15 he
                  refine bk_194_282 (fun h16 => ?_) (fun h16 => ?_)
                  · have he := ite_p h16 he
                    refine bk_194_300 ?_
                    exact bk_194_321 (rl_V_IL he)
                  · have he := ite_n h16 he
                    refine bk_194_288 (fun h17 => ?_) (fun h17 => ?_)
                    · have he := ite_p h17 he
                      refine bk_194_300 ?_
                      exact bk_194_321 (rl_V_IL he)
                    · have he := ite_n h17 he
                      refine bk_194_294 (fun h18 => ?_) (fun h18 => ?_)
                      · have he := ite_p h18 he
                        exact bk_194_321 (rl_V_IL he)
                      · have he := ite_n h18 he
                        refine bk_194_300 ?_
                        exact bk_194_321 (rl_V_IL he)
      · have he := ite_n h10 he
        have hg := hg h10
        refine bk_194_148 ?_
        have hgX := hg
        refine lw_194_160 (d := d)  400 (0 : Int32) (up2 (up2 (up2 p1 74 29 (p1 74 27)) 74 28 4) 74 28 2) (up2 L 74 30 0) hgX (fun p3 hr => ?_)
        have he := bx_eq hr he
        obtain ⟨X3, hX3⟩ : ∃ r : Int32, r = (if p3.1 ≤ 4 then 2 else 4) := ⟨_, rfl⟩
        have J3 : ∀ p4 : Int32, p4 = X3 → Wp l 194 (d + 1) 0 0 (po_V_IL F t T1) 0 0 246 [] [.int p4, .ref 74] SH (p3.2.1, F, p3.2.2, RT t) := by
          intro p4 hr
          have hr := hr.trans hX3
          have he := bx_eq hr he
          refine bk_194_246 ?_
          exact bk_194_321 (rl_V_IL he)
        have he := hX3.symm
        refine bk_194_235 (fun h24 => ?_) (fun h24 => ?_)
        · have he := ite_p h24 he
          refine bk_194_245 ?_
          exact J3 2 he
        · have he := ite_n h24 he
          refine bk_194_241 ?_
          exact J3 4 he
    · have he := ite_n h8 he
      have hg := hg.2 h8
      refine bk_194_95 ?_
      have hgX := hg
      refine lw_194_100 (d := d)  400 (up2 (up2 (up2 p1 74 29 (p1 74 27)) 74 28 4) 74 28 1) hgX (fun p5 hr => ?_)
      have he := bx_eq hr he
      exact bk_194_321 (rl_V_IL he)
  · have he := ite_n h6 he
    refine bk_194_65 ?_
    exact bk_194_321 (rl_V_IL he)
/-- VectorShelfModel.isWord(IIIIIIII)Z -/
def v_196 (I : WI) (x1 : Int32) (x2 : Int32) (x3 : Int32) (x4 : Int32) (x5 : Int32) (x6 : Int32) (x7 : Int32) (x8 : Int32) : Int32 := (if ¬ (I 74 32) = 0 then 0 else (if ¬ (I 74 28) = 1 then 0 else (if ((I 74 29) + 8) < (I 74 27) then 0 else (if (v_197 I (0 : Int32) x1) = 0 then 0 else (if (v_197 I (1 : Int32) x2) = 0 then 0 else (if (v_197 I (2 : Int32) x3) = 0 then 0 else (if (v_197 I (3 : Int32) x4) = 0 then 0 else (if (v_197 I (4 : Int32) x5) = 0 then 0 else (if (v_197 I (5 : Int32) x6) = 0 then 0 else (if (v_197 I (6 : Int32) x7) = 0 then 0 else (if (v_197 I (7 : Int32) x8) = 0 then 0 else 1)))))))))))
def g_196 (I : WI) (x1 : Int32) (x2 : Int32) (x3 : Int32) (x4 : Int32) (x5 : Int32) (x6 : Int32) (x7 : Int32) : Prop := (¬ (¬ (I 74 32) = 0) → (¬ (¬ (I 74 28) = 1) → (¬ (((I 74 29) + 8) < (I 74 27)) → ((g_197 I (0 : Int32)) ∧ (¬ ((v_197 I (0 : Int32) x1) = 0) → ((g_197 I (1 : Int32)) ∧ (¬ ((v_197 I (1 : Int32) x2) = 0) → ((g_197 I (2 : Int32)) ∧ (¬ ((v_197 I (2 : Int32) x3) = 0) → ((g_197 I (3 : Int32)) ∧ (¬ ((v_197 I (3 : Int32) x4) = 0) → ((g_197 I (4 : Int32)) ∧ (¬ ((v_197 I (4 : Int32) x5) = 0) → ((g_197 I (5 : Int32)) ∧ (¬ ((v_197 I (5 : Int32) x6) = 0) → ((g_197 I (6 : Int32)) ∧ (¬ ((v_197 I (6 : Int32) x7) = 0) → (g_197 I (7 : Int32)))))))))))))))))))
theorem cc_196 {l : LX} {d : Nat} {I : WI} {F : WF} {L : WL} {t : Nat} {x1 : Int32} {x2 : Int32} {x3 : Int32} {x4 : Int32} {x5 : Int32} {x6 : Int32} {x7 : Int32} {x8 : Int32} (hg : g_196 I x1 x2 x3 x4 x5 x6 x7) : Con l 196 (d + 2) 0 0 [.ref 74, .int x1, .int x2, .int x3, .int x4, .int x5, .int x6, .int x7, .int x8] SH (I, F, L, RT t) (rI (v_196 I x1 x2 x3 x4 x5 x6 x7 x8) (I, F, L, RT t)) := by
  refine cn_196 ?_
  obtain ⟨T1, hT1⟩ : ∃ r : Int32, r = (v_196 I x1 x2 x3 x4 x5 x6 x7 x8) := ⟨_, rfl⟩
  rw [← hT1]
  have he := (hT1.trans (v_196.eq_1 ..)).symm
  have hg := Eq.mp (g_196.eq_1 ..) hg
  refine bk_196_0 (fun h1 => ?_) (fun h1 => ?_)
  · have he := ite_p h1 he
    refine bk_196_112 ?_
    exact bk_196_113 (by decide) (rl_p_I he)
  · have he := ite_n h1 he
    have hg := hg h1
    refine bk_196_7 (fun h2 => ?_) (fun h2 => ?_)
    · have he := ite_p h2 he
      refine bk_196_112 ?_
      exact bk_196_113 (by decide) (rl_p_I he)
    · have he := ite_n h2 he
      have hg := hg h2
      refine bk_196_15 (fun h3 => ?_) (fun h3 => ?_)
      · have he := ite_p h3 he
        refine bk_196_112 ?_
        exact bk_196_113 (by decide) (rl_p_I he)
      · have he := ite_n h3 he
        have hg := hg h3
        obtain ⟨k4, hg⟩ := hg
        refine bk_196_29 (cc_197 (d := d + 0)  k4) ?_
        refine bk_196_35 (fun h5 => ?_) (fun h5 => ?_)
        · have he := ite_p h5 he
          refine bk_196_112 ?_
          exact bk_196_113 (by decide) (rl_p_I he)
        · have he := ite_n h5 he
          have hg := hg h5
          obtain ⟨k6, hg⟩ := hg
          refine bk_196_38 (cc_197 (d := d + 0)  k6) ?_
          refine bk_196_44 (fun h7 => ?_) (fun h7 => ?_)
          · have he := ite_p h7 he
            refine bk_196_112 ?_
            exact bk_196_113 (by decide) (rl_p_I he)
          · have he := ite_n h7 he
            have hg := hg h7
            obtain ⟨k8, hg⟩ := hg
            refine bk_196_47 (cc_197 (d := d + 0)  k8) ?_
            refine bk_196_53 (fun h9 => ?_) (fun h9 => ?_)
            · have he := ite_p h9 he
              refine bk_196_112 ?_
              exact bk_196_113 (by decide) (rl_p_I he)
            · have he := ite_n h9 he
              have hg := hg h9
              obtain ⟨k10, hg⟩ := hg
              refine bk_196_56 (cc_197 (d := d + 0)  k10) ?_
              refine bk_196_63 (fun h11 => ?_) (fun h11 => ?_)
              · have he := ite_p h11 he
                refine bk_196_112 ?_
                exact bk_196_113 (by decide) (rl_p_I he)
              · have he := ite_n h11 he
                have hg := hg h11
                obtain ⟨k12, hg⟩ := hg
                refine bk_196_66 (cc_197 (d := d + 0)  k12) ?_
                refine bk_196_73 (fun h13 => ?_) (fun h13 => ?_)
                · have he := ite_p h13 he
                  refine bk_196_112 ?_
                  exact bk_196_113 (by decide) (rl_p_I he)
                · have he := ite_n h13 he
                  have hg := hg h13
                  obtain ⟨k14, hg⟩ := hg
                  refine bk_196_76 (cc_197 (d := d + 0)  k14) ?_
                  refine bk_196_83 (fun h15 => ?_) (fun h15 => ?_)
                  · have he := ite_p h15 he
                    refine bk_196_112 ?_
                    exact bk_196_113 (by decide) (rl_p_I he)
                  · have he := ite_n h15 he
                    have hg := hg h15
                    obtain ⟨k16, hg⟩ := hg
                    refine bk_196_86 (cc_197 (d := d + 0)  k16) ?_
                    refine bk_196_94 (fun h17 => ?_) (fun h17 => ?_)
                    · have he := ite_p h17 he
                      refine bk_196_112 ?_
                      exact bk_196_113 (by decide) (rl_p_I he)
                    · have he := ite_n h17 he
                      have hg := hg h17
                      have k18 := hg
                      refine bk_196_97 (cc_197 (d := d + 0)  k18) ?_
                      refine bk_196_105 (fun h19 => ?_) (fun h19 => ?_)
                      · have he := ite_p h19 he
                        refine bk_196_112 ?_
                        exact bk_196_113 (by decide) (rl_p_I he)
                      · have he := ite_n h19 he
                        refine bk_196_108 ?_
                        exact bk_196_113 (by decide) (rl_p_I he)
theorem sb_196 (I : WI) (x1 : Int32) (x2 : Int32) (x3 : Int32) (x4 : Int32) (x5 : Int32) (x6 : Int32) (x7 : Int32) (x8 : Int32) : (v_196 I x1 x2 x3 x4 x5 x6 x7 x8) &&& 1 = (v_196 I x1 x2 x3 x4 x5 x6 x7 x8) := by
  unfold v_196
  repeat' split
  all_goals first | rfl | exact sb_197 ..
/-- VectorShelfModel.opens()Z -/
def v_203 (I : WI) (L : WL) : Int32 × WI × WL := (if ¬ (I 74 31) = 5 then (bx ((v_194 (up2 I 74 31 ((I 74 31) + 1)) L) : WI × WL) (fun p1 => (1, p1.1, p1.2))) else (bx ((v_199 I) : WI) (fun p2 => (0, p2, L))))
def g_203 (I : WI) (L : WL) : Prop := ((¬ (I 74 31) = 5) → (g_194 (up2 I 74 31 ((I 74 31) + 1)) L))
theorem cc_203 {l : LX} {d : Nat} {I : WI} {F : WF} {L : WL} {t : Nat} (hg : g_203 I L) : Con l 203 (d + 2) 0 0 [.ref 74] SH (I, F, L, RT t) (po_I_IL F t (v_203 I L)) := by
  refine cn_203 ?_
  obtain ⟨T1, hT1⟩ : ∃ r : Int32 × WI × WL, r = (v_203 I L) := ⟨_, rfl⟩
  rw [← hT1]
  have he := (hT1.trans (v_203.eq_1 ..)).symm
  have hg := Eq.mp (g_203.eq_1 ..) hg
  refine bk_203_0 (fun h1 => ?_) (fun h1 => ?_)
  · have he := ite_p h1 he
    have hg := hg h1
    have k2 := hg
    refine bk_203_14 (cq_V_IL (cc_194 (d := d + 0)  k2)) ?_
    rintro _ _ _ _ ⟨p1, hr, rfl, rfl, rfl, rfl⟩
    have he := bx_eq hr he
    exact bk_203_28 (rl_I_IL he)
  · have he := ite_n h1 he
    refine bk_203_8 (cq_V_I (cc_199 (d := d + 1) )) ?_
    rintro _ _ _ _ ⟨p2, hr, rfl, rfl, rfl, rfl⟩
    have he := bx_eq hr he
    exact bk_203_12 (rl_I_IL he)
/-- VectorShelfModel.name()I -/
def v_208 (I : WI) : Int32 × WI := (if (v_196 I (120 : Int32) (0 : Int32) (0 : Int32) (0 : Int32) (0 : Int32) (0 : Int32) (0 : Int32) (0 : Int32)) = 0 then (if (v_196 I (121 : Int32) (0 : Int32) (0 : Int32) (0 : Int32) (0 : Int32) (0 : Int32) (0 : Int32) (0 : Int32)) = 0 then (if (v_196 I (122 : Int32) (0 : Int32) (0 : Int32) (0 : Int32) (0 : Int32) (0 : Int32) (0 : Int32) (0 : Int32)) = 0 then (if (v_196 I (116 : Int32) (97 : Int32) (103 : Int32) (0 : Int32) (0 : Int32) (0 : Int32) (0 : Int32) (0 : Int32)) = 0 then (if (v_196 I (110 : Int32) (117 : Int32) (109 : Int32) (98 : Int32) (101 : Int32) (114 : Int32) (0 : Int32) (0 : Int32)) = 0 then (if (v_196 I (99 : Int32) (101 : Int32) (108 : Int32) (108 : Int32) (0 : Int32) (0 : Int32) (0 : Int32) (0 : Int32)) = 0 then (bx ((v_199 I) : WI) (fun p1 => (0, p1))) else ((I 74 24), I)) else ((I 74 23), I)) else ((I 74 22), I)) else ((I 74 21), I)) else ((I 74 20), I)) else ((I 74 19), I))
def g_208 (I : WI) : Prop := ((g_196 I (120 : Int32) (0 : Int32) (0 : Int32) (0 : Int32) (0 : Int32) (0 : Int32) (0 : Int32)) ∧ (((v_196 I (120 : Int32) (0 : Int32) (0 : Int32) (0 : Int32) (0 : Int32) (0 : Int32) (0 : Int32) (0 : Int32)) = 0) → ((g_196 I (121 : Int32) (0 : Int32) (0 : Int32) (0 : Int32) (0 : Int32) (0 : Int32) (0 : Int32)) ∧ (((v_196 I (121 : Int32) (0 : Int32) (0 : Int32) (0 : Int32) (0 : Int32) (0 : Int32) (0 : Int32) (0 : Int32)) = 0) → ((g_196 I (122 : Int32) (0 : Int32) (0 : Int32) (0 : Int32) (0 : Int32) (0 : Int32) (0 : Int32)) ∧ (((v_196 I (122 : Int32) (0 : Int32) (0 : Int32) (0 : Int32) (0 : Int32) (0 : Int32) (0 : Int32) (0 : Int32)) = 0) → ((g_196 I (116 : Int32) (97 : Int32) (103 : Int32) (0 : Int32) (0 : Int32) (0 : Int32) (0 : Int32)) ∧ (((v_196 I (116 : Int32) (97 : Int32) (103 : Int32) (0 : Int32) (0 : Int32) (0 : Int32) (0 : Int32) (0 : Int32)) = 0) → ((g_196 I (110 : Int32) (117 : Int32) (109 : Int32) (98 : Int32) (101 : Int32) (114 : Int32) (0 : Int32)) ∧ (((v_196 I (110 : Int32) (117 : Int32) (109 : Int32) (98 : Int32) (101 : Int32) (114 : Int32) (0 : Int32) (0 : Int32)) = 0) → (g_196 I (99 : Int32) (101 : Int32) (108 : Int32) (108 : Int32) (0 : Int32) (0 : Int32) (0 : Int32))))))))))))
theorem cc_208 {l : LX} {d : Nat} {I : WI} {F : WF} {L : WL} {t : Nat} (hg : g_208 I) : Con l 208 (d + 3) 0 0 [.ref 74] SH (I, F, L, RT t) (po_I_I F L t (v_208 I)) := by
  refine cn_208 ?_
  obtain ⟨T1, hT1⟩ : ∃ r : Int32 × WI, r = (v_208 I) := ⟨_, rfl⟩
  rw [← hT1]
  have he := (hT1.trans (v_208.eq_1 ..)).symm
  have hg := Eq.mp (g_208.eq_1 ..) hg
  obtain ⟨k1, hg⟩ := hg
  refine bk_208_0 (cc_196 (d := d + 0)  k1) ?_
  refine bk_208_13 (fun h2 => ?_) (fun h2 => ?_)
  · have he := ite_p h2 he
    have hg := hg h2
    obtain ⟨k3, hg⟩ := hg
    refine bk_208_21 (cc_196 (d := d + 0)  k3) ?_
    refine bk_208_34 (fun h4 => ?_) (fun h4 => ?_)
    · have he := ite_p h4 he
      have hg := hg h4
      obtain ⟨k5, hg⟩ := hg
      refine bk_208_42 (cc_196 (d := d + 0)  k5) ?_
      refine bk_208_55 (fun h6 => ?_) (fun h6 => ?_)
      · have he := ite_p h6 he
        have hg := hg h6
        obtain ⟨k7, hg⟩ := hg
        refine bk_208_63 (cc_196 (d := d + 0)  k7) ?_
        refine bk_208_78 (fun h8 => ?_) (fun h8 => ?_)
        · have he := ite_p h8 he
          have hg := hg h8
          obtain ⟨k9, hg⟩ := hg
          refine bk_208_86 (cc_196 (d := d + 0)  k9) ?_
          refine bk_208_104 (fun h10 => ?_) (fun h10 => ?_)
          · have he := ite_p h10 he
            have hg := hg h10
            have k11 := hg
            refine bk_208_112 (cc_196 (d := d + 0)  k11) ?_
            refine bk_208_128 (fun h12 => ?_) (fun h12 => ?_)
            · have he := ite_p h12 he
              refine bk_208_136 (cq_V_I (cc_199 (d := d + 2) )) ?_
              rintro _ _ _ _ ⟨p1, hr, rfl, rfl, rfl, rfl⟩
              have he := bx_eq hr he
              exact bk_208_140 (rl_I_I he)
            · have he := ite_n h12 he
              exact bk_208_131 (rl_I_I he)
          · have he := ite_n h10 he
            exact bk_208_107 (rl_I_I he)
        · have he := ite_n h8 he
          exact bk_208_81 (rl_I_I he)
      · have he := ite_n h6 he
        exact bk_208_58 (rl_I_I he)
    · have he := ite_n h4 he
      exact bk_208_37 (rl_I_I he)
  · have he := ite_n h2 he
    exact bk_208_16 (rl_I_I he)
/-- VectorShelfModel.codeOf(II)I -/
def v_211 (I : WI) (x1 : Int32) (x2 : Int32) : Int32 := (if (-128) ≤ (v_212 ((I 84 ((3 * x1) + x2).toNatClampNeg) - (I 80 ((3 * (I 86 x1.toNatClampNeg)) + x2).toNatClampNeg)) (I 78 0)) then (if (v_212 ((I 84 ((3 * x1) + x2).toNatClampNeg) - (I 80 ((3 * (I 86 x1.toNatClampNeg)) + x2).toNatClampNeg)) (I 78 0)) ≤ 127 then (v_212 ((I 84 ((3 * x1) + x2).toNatClampNeg) - (I 80 ((3 * (I 86 x1.toNatClampNeg)) + x2).toNatClampNeg)) (I 78 0)) else 127) else (-128))
def g_211 (I : WI) (x1 : Int32) (x2 : Int32) : Prop := ((vp_in ((3 * x1) + x2) 36) ∧ ((vp_in x1 12) ∧ ((vp_in ((3 * (I 86 x1.toNatClampNeg)) + x2) 12) ∧ (g_212 (I 78 0)))))
theorem cc_211 {l : LX} {d : Nat} {I : WI} {F : WF} {L : WL} {t : Nat} {x1 : Int32} {x2 : Int32} (hg : g_211 I x1 x2) : Con l 211 (d + 1) 0 0 [.ref 74, .int x1, .int x2] SH (I, F, L, RT t) (rI (v_211 I x1 x2) (I, F, L, RT t)) := by
  refine cn_211 ?_
  obtain ⟨T1, hT1⟩ : ∃ r : Int32, r = (v_211 I x1 x2) := ⟨_, rfl⟩
  rw [← hT1]
  have he := (hT1.trans (v_211.eq_1 ..)).symm
  have hg := Eq.mp (g_211.eq_1 ..) hg
  obtain ⟨k1, k2, k3, k4⟩ := hg
  refine bk_211_0 k1 k2 k3 (cc_212 (d := d + 0)  k4) ?_
  refine bk_211_35 (fun h5 => ?_) (fun h5 => ?_)
  · have he := ite_p h5 he
    refine bk_211_47 (fun h6 => ?_) (fun h6 => ?_)
    · have he := ite_p h6 he
      refine bk_211_58 ?_
      exact bk_211_59 (rl_p_I he)
    · have he := ite_n h6 he
      refine bk_211_53 ?_
      exact bk_211_59 (rl_p_I he)
  · have he := ite_n h5 he
    refine bk_211_42 ?_
    exact bk_211_59 (rl_p_I he)
/-- VectorShelfModel.outsideCode(II)I -/
def v_219 (I : WI) (x1 : Int32) (x2 : Int32) : Int32 := (bx ((if ¬ (v_211 I x1 x2) = (-128) then ((I 80 ((3 * (I 86 x1.toNatClampNeg)) + x2).toNatClampNeg) + ((v_211 I x1 x2) * (I 78 0))) else (-999)) : Int32) (fun p1 => (bx ((if ¬ (v_211 I x1 x2) = 127 then ((((I 80 ((3 * (I 86 x1.toNatClampNeg)) + x2).toNatClampNeg) + ((v_211 I x1 x2) * (I 78 0))) + (I 78 0)) - 1) else 999) : Int32) (fun p2 => (v_220 (I 79 x2.toNatClampNeg) p1 p2)))))
def g_219 (I : WI) (x1 : Int32) (x2 : Int32) : Prop := ((g_211 I x1 x2) ∧ ((vp_in x1 12) ∧ ((vp_in ((3 * (I 86 x1.toNatClampNeg)) + x2) 12) ∧ (vp_in x2 3))))
theorem cc_219 {l : LX} {d : Nat} {I : WI} {F : WF} {L : WL} {t : Nat} {x1 : Int32} {x2 : Int32} (hg : g_219 I x1 x2) : Con l 219 (d + 2) 0 0 [.ref 74, .int x1, .int x2] SH (I, F, L, RT t) (rI (v_219 I x1 x2) (I, F, L, RT t)) := by
  refine cn_219 ?_
  obtain ⟨T1, hT1⟩ : ∃ r : Int32, r = (v_219 I x1 x2) := ⟨_, rfl⟩
  rw [← hT1]
  have he := (hT1.trans (v_219.eq_1 ..)).symm
  have hg := Eq.mp (g_219.eq_1 ..) hg
  obtain ⟨k1, hg⟩ := hg
  refine bk_219_0 (cc_211 (d := d + 0)  k1) ?_
  obtain ⟨k2, k3, k4⟩ := hg
  obtain ⟨X1, hX1⟩ : ∃ r : Int32, r = (if ¬ (v_211 I x1 x2) = (-128) then ((I 80 ((3 * (I 86 x1.toNatClampNeg)) + x2).toNatClampNeg) + ((v_211 I x1 x2) * (I 78 0))) else (-999)) := ⟨_, rfl⟩
  have J1 : ∀ p1 : Int32, p1 = X1 → Wp l 219 (d + 2) 0 0 (rI T1 (I, F, L, RT t)) 0 0 53 [(0, .ref 74), (3, .int (v_211 I x1 x2)), (4, .int ((I 80 ((3 * (I 86 x1.toNatClampNeg)) + x2).toNatClampNeg) + ((v_211 I x1 x2) * (I 78 0))))] [.int p1, .int (I 79 x2.toNatClampNeg)] SH (I, F, L, RT t) := by
    intro p1 hr
    have hr := hr.trans hX1
    have he := bx_eq hr he
    obtain ⟨X2, hX2⟩ : ∃ r : Int32, r = (if ¬ (v_211 I x1 x2) = 127 then ((((I 80 ((3 * (I 86 x1.toNatClampNeg)) + x2).toNatClampNeg) + ((v_211 I x1 x2) * (I 78 0))) + (I 78 0)) - 1) else 999) := ⟨_, rfl⟩
    have J2 : ∀ p2 : Int32, p2 = X2 → Wp l 219 (d + 2) 0 0 (rI T1 (I, F, L, RT t)) 0 0 76 [] [.int p2, .int p1, .int (I 79 x2.toNatClampNeg)] SH (I, F, L, RT t) := by
      intro p2 hr
      have hr := hr.trans hX2
      have he := bx_eq hr he
      refine bk_219_76 (cc_220 (d := d + 1) ) ?_
      exact bk_219_79 (rl_p_I he)
    have he := hX2.symm
    refine bk_219_53 (fun h6 => ?_) (fun h6 => ?_)
    · have he := ite_p h6 he
      refine bk_219_65 ?_
      exact J2 ((((I 80 ((3 * (I 86 x1.toNatClampNeg)) + x2).toNatClampNeg) + ((v_211 I x1 x2) * (I 78 0))) + (I 78 0)) - 1) he
    · have he := ite_n h6 he
      refine bk_219_59 ?_
      exact J2 999 he
  have he := hX1.symm
  refine bk_219_6 k2 k3 k4 (fun h5 => ?_) (fun h5 => ?_)
  · have he := ite_p h5 he
    refine bk_219_51 ?_
    exact J1 ((I 80 ((3 * (I 86 x1.toNatClampNeg)) + x2).toNatClampNeg) + ((v_211 I x1 x2) * (I 78 0))) he
  · have he := ite_n h5 he
    refine bk_219_45 ?_
    exact J1 (-999) he
/-- VectorShelfModel.low(III)F -/
def v_221 (I : WI) (x1 : Int32) (x2 : Int32) (x3 : Int32) : UInt32 := (bx ((if ¬ (I 78 3) = 4 then (bx ((if ¬ (I 78 3) = 2 then (if ¬ (I 78 3) = 5 then (FP.fadd (FP.fadd (v_222 I x1 (0 : Int32)) (v_222 I x2 (1 : Int32))) (v_222 I x3 (2 : Int32))) else (if (Op.cmpValue (FP.fcmp (FP.fadd (FP.fadd (v_222 I x1 (0 : Int32)) (v_222 I x2 (1 : Int32))) (v_222 I x3 (2 : Int32))) (FP.i2f (I 78 2))) .l) ≤ 0 then (FP.fadd (FP.fadd (v_222 I x1 (0 : Int32)) (v_222 I x2 (1 : Int32))) (v_222 I x3 (2 : Int32))) else (FP.i2f (I 78 2)))) else (FP.fmul 1082130432 (FP.fadd (FP.fadd (v_222 I x1 (0 : Int32)) (v_222 I x2 (1 : Int32))) (v_222 I x3 (2 : Int32))))) : UInt32) (fun p1 => p1)) else (bx ((if (Op.cmpValue (FP.fcmp (v_222 I x1 (0 : Int32)) (v_222 I x2 (1 : Int32))) .l) ≤ 0 then (v_222 I x2 (1 : Int32)) else (v_222 I x1 (0 : Int32))) : UInt32) (fun p2 => (bx ((if (Op.cmpValue (FP.fcmp p2 (v_222 I x3 (2 : Int32))) .l) ≤ 0 then (v_222 I x3 (2 : Int32)) else p2) : UInt32) (fun p3 => (FP.fadd (FP.fmul 1082130432 p3) FP.fconst1)))))) : UInt32) (fun p4 => (FP.fmul p4 1065353200)))
def g_221 (I : WI) (x1 : Int32) (x2 : Int32) (x3 : Int32) : Prop := ((g_222 I x1 (0 : Int32)) ∧ ((g_222 I x2 (1 : Int32)) ∧ ((g_222 I x3 (2 : Int32)) ∧ ((((¬ (I 78 3) = 4) → ((vf_n32 (FP.fadd (v_222 I x1 (0 : Int32)) (v_222 I x2 (1 : Int32)))) ∧ ((vf_n32 (FP.fadd (FP.fadd (v_222 I x1 (0 : Int32)) (v_222 I x2 (1 : Int32))) (v_222 I x3 (2 : Int32)))) ∧ (¬ (¬ (I 78 3) = 2) → (vf_n32 (FP.fmul 1082130432 (FP.fadd (FP.fadd (v_222 I x1 (0 : Int32)) (v_222 I x2 (1 : Int32))) (v_222 I x3 (2 : Int32))))))))) ∧ (¬ (¬ (I 78 3) = 4) → (bx ((if (Op.cmpValue (FP.fcmp (v_222 I x1 (0 : Int32)) (v_222 I x2 (1 : Int32))) .l) ≤ 0 then (v_222 I x2 (1 : Int32)) else (v_222 I x1 (0 : Int32))) : UInt32) (fun p2 => (bx ((if (Op.cmpValue (FP.fcmp p2 (v_222 I x3 (2 : Int32))) .l) ≤ 0 then (v_222 I x3 (2 : Int32)) else p2) : UInt32) (fun p3 => ((vf_n32 (FP.fmul 1082130432 p3)) ∧ (vf_n32 (FP.fadd (FP.fmul 1082130432 p3) FP.fconst1))))))))) ∧ (bx ((if ¬ (I 78 3) = 4 then (bx ((if ¬ (I 78 3) = 2 then (if ¬ (I 78 3) = 5 then (FP.fadd (FP.fadd (v_222 I x1 (0 : Int32)) (v_222 I x2 (1 : Int32))) (v_222 I x3 (2 : Int32))) else (if (Op.cmpValue (FP.fcmp (FP.fadd (FP.fadd (v_222 I x1 (0 : Int32)) (v_222 I x2 (1 : Int32))) (v_222 I x3 (2 : Int32))) (FP.i2f (I 78 2))) .l) ≤ 0 then (FP.fadd (FP.fadd (v_222 I x1 (0 : Int32)) (v_222 I x2 (1 : Int32))) (v_222 I x3 (2 : Int32))) else (FP.i2f (I 78 2)))) else (FP.fmul 1082130432 (FP.fadd (FP.fadd (v_222 I x1 (0 : Int32)) (v_222 I x2 (1 : Int32))) (v_222 I x3 (2 : Int32))))) : UInt32) (fun p1 => p1)) else (bx ((if (Op.cmpValue (FP.fcmp (v_222 I x1 (0 : Int32)) (v_222 I x2 (1 : Int32))) .l) ≤ 0 then (v_222 I x2 (1 : Int32)) else (v_222 I x1 (0 : Int32))) : UInt32) (fun p2 => (bx ((if (Op.cmpValue (FP.fcmp p2 (v_222 I x3 (2 : Int32))) .l) ≤ 0 then (v_222 I x3 (2 : Int32)) else p2) : UInt32) (fun p3 => (FP.fadd (FP.fmul 1082130432 p3) FP.fconst1)))))) : UInt32) (fun p4 => (vf_n32 (FP.fmul p4 1065353200))))))))
theorem cc_221 {l : LX} {d : Nat} {I : WI} {F : WF} {L : WL} {t : Nat} {x1 : Int32} {x2 : Int32} {x3 : Int32} (hg : g_221 I x1 x2 x3) : Con l 221 (d + 2) 0 0 [.ref 74, .int x1, .int x2, .int x3] SH (I, F, L, RT t) (rF (v_221 I x1 x2 x3) (I, F, L, RT t)) := by
  refine cn_221 ?_
  obtain ⟨T1, hT1⟩ : ∃ r : UInt32, r = (v_221 I x1 x2 x3) := ⟨_, rfl⟩
  rw [← hT1]
  have he := (hT1.trans (v_221.eq_1 ..)).symm
  have hg := Eq.mp (g_221.eq_1 ..) hg
  obtain ⟨k1, hg⟩ := hg
  refine bk_221_0 (cc_222 (d := d + 0)  k1) ?_
  obtain ⟨k2, hg⟩ := hg
  refine bk_221_6 (cc_222 (d := d + 0)  k2) ?_
  obtain ⟨k3, hg⟩ := hg
  refine bk_221_14 (cc_222 (d := d + 0)  k3) ?_
  obtain ⟨hgX, hg⟩ := hg
  obtain ⟨X1, hX1⟩ : ∃ r : UInt32, r = (if ¬ (I 78 3) = 4 then (bx ((if ¬ (I 78 3) = 2 then (if ¬ (I 78 3) = 5 then (FP.fadd (FP.fadd (v_222 I x1 (0 : Int32)) (v_222 I x2 (1 : Int32))) (v_222 I x3 (2 : Int32))) else (if (Op.cmpValue (FP.fcmp (FP.fadd (FP.fadd (v_222 I x1 (0 : Int32)) (v_222 I x2 (1 : Int32))) (v_222 I x3 (2 : Int32))) (FP.i2f (I 78 2))) .l) ≤ 0 then (FP.fadd (FP.fadd (v_222 I x1 (0 : Int32)) (v_222 I x2 (1 : Int32))) (v_222 I x3 (2 : Int32))) else (FP.i2f (I 78 2)))) else (FP.fmul 1082130432 (FP.fadd (FP.fadd (v_222 I x1 (0 : Int32)) (v_222 I x2 (1 : Int32))) (v_222 I x3 (2 : Int32))))) : UInt32) (fun p1 => p1)) else (bx ((if (Op.cmpValue (FP.fcmp (v_222 I x1 (0 : Int32)) (v_222 I x2 (1 : Int32))) .l) ≤ 0 then (v_222 I x2 (1 : Int32)) else (v_222 I x1 (0 : Int32))) : UInt32) (fun p2 => (bx ((if (Op.cmpValue (FP.fcmp p2 (v_222 I x3 (2 : Int32))) .l) ≤ 0 then (v_222 I x3 (2 : Int32)) else p2) : UInt32) (fun p3 => (FP.fadd (FP.fmul 1082130432 p3) FP.fconst1)))))) := ⟨_, rfl⟩
  have J1 : ∀ p4 : UInt32, p4 = X1 → Wp l 221 (d + 2) 0 0 (rF T1 (I, F, L, RT t)) 0 0 152 [(7, .float p4)] [] SH (I, F, L, RT t) := by
    intro p4 hr
    have hr := hr.trans hX1
    have he := bx_eq hr he
    have hg := bx_un hr hg
    have k15 := hg
    exact bk_221_152 k15 (rl_p_F he)
  have he := hX1.symm
  have hg := hgX
  refine bk_221_22 (fun h4 => ?_) (fun h4 => ?_)
  · have he := ite_p h4 he
    have hg := hg.1 h4
    obtain ⟨k5, k6, hg⟩ := hg
    have hgX := hg
    obtain ⟨X2, hX2⟩ : ∃ r : UInt32, r = (if ¬ (I 78 3) = 2 then (if ¬ (I 78 3) = 5 then (FP.fadd (FP.fadd (v_222 I x1 (0 : Int32)) (v_222 I x2 (1 : Int32))) (v_222 I x3 (2 : Int32))) else (if (Op.cmpValue (FP.fcmp (FP.fadd (FP.fadd (v_222 I x1 (0 : Int32)) (v_222 I x2 (1 : Int32))) (v_222 I x3 (2 : Int32))) (FP.i2f (I 78 2))) .l) ≤ 0 then (FP.fadd (FP.fadd (v_222 I x1 (0 : Int32)) (v_222 I x2 (1 : Int32))) (v_222 I x3 (2 : Int32))) else (FP.i2f (I 78 2)))) else (FP.fmul 1082130432 (FP.fadd (FP.fadd (v_222 I x1 (0 : Int32)) (v_222 I x2 (1 : Int32))) (v_222 I x3 (2 : Int32))))) := ⟨_, rfl⟩
    have J2 : ∀ p1 : UInt32, p1 = X2 → Wp l 221 (d + 2) 0 0 (rF T1 (I, F, L, RT t)) 0 0 150 [] [.float p1] SH (I, F, L, RT t) := by
      intro p1 hr
      have hr := hr.trans hX2
      have he := bx_eq hr he
      refine bk_221_150 ?_
      exact J1 p1 he
    have he := hX2.symm
    have hg := hgX
    refine bk_221_84 k5 k6 (fun h7 => ?_) (fun h7 => ?_)
    · have he := ite_p h7 he
      refine bk_221_125 (fun h8 => ?_) (fun h8 => ?_)
      · have he := ite_p h8 he
        refine bk_221_148 ?_
        exact J2 (FP.fadd (FP.fadd (v_222 I x1 (0 : Int32)) (v_222 I x2 (1 : Int32))) (v_222 I x3 (2 : Int32))) he
      · have he := ite_n h8 he
        refine bk_221_135 (fun h9 => ?_) (fun h9 => ?_)
        · have he := ite_p h9 he
          refine bk_221_148 ?_
          exact J2 (FP.fadd (FP.fadd (v_222 I x1 (0 : Int32)) (v_222 I x2 (1 : Int32))) (v_222 I x3 (2 : Int32))) he
        · have he := ite_n h9 he
          refine bk_221_143 ?_
          exact J2 (FP.i2f (I 78 2)) he
    · have he := ite_n h7 he
      have hg := hg h7
      have k10 := hg
      refine bk_221_117 k10 ?_
      exact J2 (FP.fmul 1082130432 (FP.fadd (FP.fadd (v_222 I x1 (0 : Int32)) (v_222 I x2 (1 : Int32))) (v_222 I x3 (2 : Int32)))) he
  · have he := ite_n h4 he
    have hg := hg.2 h4
    obtain ⟨X3, hX3⟩ : ∃ r : UInt32, r = (if (Op.cmpValue (FP.fcmp (v_222 I x1 (0 : Int32)) (v_222 I x2 (1 : Int32))) .l) ≤ 0 then (v_222 I x2 (1 : Int32)) else (v_222 I x1 (0 : Int32))) := ⟨_, rfl⟩
    have J3 : ∀ p2 : UInt32, p2 = X3 → Wp l 221 (d + 2) 0 0 (rF T1 (I, F, L, RT t)) 0 0 49 [(6, .float (v_222 I x3 (2 : Int32)))] [.float p2] SH (I, F, L, RT t) := by
      intro p2 hr
      have hr := hr.trans hX3
      have he := bx_eq hr he
      have hg := bx_un hr hg
      obtain ⟨X4, hX4⟩ : ∃ r : UInt32, r = (if (Op.cmpValue (FP.fcmp p2 (v_222 I x3 (2 : Int32))) .l) ≤ 0 then (v_222 I x3 (2 : Int32)) else p2) := ⟨_, rfl⟩
      have J4 : ∀ p3 : UInt32, p3 = X4 → Wp l 221 (d + 2) 0 0 (rF T1 (I, F, L, RT t)) 0 0 66 [] [.float p3] SH (I, F, L, RT t) := by
        intro p3 hr
        have hr := hr.trans hX4
        have he := bx_eq hr he
        have hg := bx_un hr hg
        obtain ⟨k13, k14⟩ := hg
        refine bk_221_66 k13 k14 ?_
        exact J1 (FP.fadd (FP.fmul 1082130432 p3) FP.fconst1) he
      have he := hX4.symm
      refine bk_221_49 (fun h12 => ?_) (fun h12 => ?_)
      · have he := ite_p h12 he
        refine bk_221_64 ?_
        exact J4 (v_222 I x3 (2 : Int32)) he
      · have he := ite_n h12 he
        refine bk_221_59 ?_
        exact J4 p2 he
    have he := hX3.symm
    refine bk_221_34 (fun h11 => ?_) (fun h11 => ?_)
    · have he := ite_p h11 he
      refine bk_221_47 ?_
      exact J3 (v_222 I x2 (1 : Int32)) he
    · have he := ite_n h11 he
      refine bk_221_42 ?_
      exact J3 (v_222 I x1 (0 : Int32)) he
end
