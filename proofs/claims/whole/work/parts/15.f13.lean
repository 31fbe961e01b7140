section
/-- VectorShelfModel.isBeyond(FI)Z -/
def v_240 (I : WI) (f1 : UInt32) (x2 : Int32) : Int32 := (if (v_241 I (x2 - 1) (1 : Int32)) = (-1) then 0 else (if (Op.cmpValue (FP.fcmp f1 (v_190 (I 96 (v_241 I (x2 - 1) (1 : Int32)).toNatClampNeg))) .l) ≤ 0 then 0 else 1))
def g_240 (I : WI) (x2 : Int32) : Prop := ((g_241 I (x2 - 1) (1 : Int32)) ∧ (¬ ((v_241 I (x2 - 1) (1 : Int32)) = (-1)) → ((vp_in (v_241 I (x2 - 1) (1 : Int32)) 12) ∧ (g_190 (I 96 (v_241 I (x2 - 1) (1 : Int32)).toNatClampNeg)))))
theorem cc_240 {l : LX} {d : Nat} {I : WI} {F : WF} {L : WL} {t : Nat} {f1 : UInt32} {x2 : Int32} (hg : g_240 I x2) : Con l 240 (d + 2) 0 0 [.ref 74, .float f1, .int x2] SH (I, F, L, RT t) (rI (v_240 I f1 x2) (I, F, L, RT t)) := by
  refine cn_240 ?_
  obtain ⟨T1, hT1⟩ : ∃ r : Int32, r = (v_240 I f1 x2) := ⟨_, rfl⟩
  rw [← hT1]
  have he := (hT1.trans (v_240.eq_1 ..)).symm
  have hg := Eq.mp (g_240.eq_1 ..) hg
  obtain ⟨k1, hg⟩ := hg
  refine bk_240_0 (cc_241 (d := d + 0)  k1) ?_
  refine bk_240_8 (fun h2 => ?_) (fun h2 => ?_)
  · have he := ite_p h2 he
    refine bk_240_32 ?_
    exact bk_240_33 (by decide) (rl_p_I he)
  · have he := ite_n h2 he
    have hg := hg h2
    obtain ⟨k3, k4⟩ := hg
    refine bk_240_14 k3 (cc_190 (d := d + 1)  k4) ?_
    refine bk_240_24 (fun h5 => ?_) (fun h5 => ?_)
    · have he := ite_p h5 he
      refine bk_240_32 ?_
      exact bk_240_33 (by decide) (rl_p_I he)
    · have he := ite_n h5 he
      refine bk_240_28 ?_
      exact bk_240_33 (by decide) (rl_p_I he)
theorem sb_240 (I : WI) (f1 : UInt32) (x2 : Int32) : (v_240 I f1 x2) &&& 1 = (v_240 I f1 x2) := by
  unfold v_240
  repeat' split
  all_goals first | rfl
/-- the loop at 75 of VectorShelfModel.shelve -/
def lp_277_75 (F : WF) (x1 : Int32) (x3 : Int32) (x4 : Int32) : Nat → Int32 → Int32 → WI → Int32 × WI
  | 0, x5, x6, I => (0, I)
  | k + 1, x5, x6, I => (if x4 ≤ x6 then (x5, I) else (if x3 < 0 then ((-12), I) else (if x3 ≤ (((I 113 x1.toNatClampNeg) - (4 * x6)) - 4) then (bx ((v_174 I (v_264 I F x1 (x3 + (4 * x6))) (v_264 I F x1 ((x3 + (4 * x6)) + 1)) (v_264 I F x1 ((x3 + (4 * x6)) + 2)) (v_264 I F x1 ((x3 + (4 * x6)) + 3))) : Int32 × WI) (fun p1 => (bx ((if p1.1 < 0 then 0 else 1) : Int32) (fun p2 => (lp_277_75 F x1 x3 x4 k (x5 + p2) (x6 + 1) p1.2))))) else ((-12), I))))
def gl_277_75 (F : WF) (x1 : Int32) (x3 : Int32) (x4 : Int32) : Nat → Int32 → Int32 → WI → Prop
  | 0, _, _, _ => False
  | k + 1, x5, x6, I => (¬ (x4 ≤ x6) → (¬ (x3 < 0) → ((vp_in x1 4) ∧ ((x3 ≤ (((I 113 x1.toNatClampNeg) - (4 * x6)) - 4)) → ((g_264 I F x1 (x3 + (4 * x6))) ∧ ((g_264 I F x1 ((x3 + (4 * x6)) + 1)) ∧ ((g_264 I F x1 ((x3 + (4 * x6)) + 2)) ∧ ((g_264 I F x1 ((x3 + (4 * x6)) + 3)) ∧ ((g_174 I (v_264 I F x1 (x3 + (4 * x6))) (v_264 I F x1 ((x3 + (4 * x6)) + 1)) (v_264 I F x1 ((x3 + (4 * x6)) + 2)) (v_264 I F x1 ((x3 + (4 * x6)) + 3))) ∧ (bx ((v_174 I (v_264 I F x1 (x3 + (4 * x6))) (v_264 I F x1 ((x3 + (4 * x6)) + 1)) (v_264 I F x1 ((x3 + (4 * x6)) + 2)) (v_264 I F x1 ((x3 + (4 * x6)) + 3))) : Int32 × WI) (fun p1 => (bx ((if p1.1 < 0 then 0 else 1) : Int32) (fun p2 => (gl_277_75 F x1 x3 x4 k (x5 + p2) (x6 + 1) p1.2))))))))))))))
theorem lw_277_75 {l : LX} {d : Nat} {F : WF} {L : WL} {t : Nat} {x1 : Int32} {x3 : Int32} {x4 : Int32} : ∀ k : Nat, ∀ (x5 : Int32) (x6 : Int32) (I : WI), gl_277_75 F x1 x3 x4 k x5 x6 I → Wp l 277 (d + 3) 0 0 (po_I_I F L t (lp_277_75 F x1 x3 x4 k x5 x6 I)) 0 0 75 [(0, .ref 74), (1, .int x1), (3, .int x3), (4, .int x4), (5, .int x5), (6, .int x6)] [] SH (I, F, L, RT t) := by
  intro k
  induction k with
  | zero =>
    intro x5 x6 I hg
    exact hg.elim
  | succ k ih =>
    intro x5 x6 I hg
    have hg := Eq.mp (gl_277_75.eq_2 ..) hg
    obtain ⟨T1, hT1⟩ : ∃ r : Int32 × WI, r = lp_277_75 F x1 x3 x4 (k + 1) x5 x6 I := ⟨_, rfl⟩
    rw [← hT1]
    have he := (hT1.trans (lp_277_75.eq_2 ..)).symm
    refine bk_277_75 (fun h11 => ?_) (fun h11 => ?_)
    · have he := ite_p h11 he
      exact bk_277_171 (rl_I_I he)
    · have he := ite_n h11 he
      have hg := hg h11
      refine bk_277_82 (fun h12 => ?_) (fun h12 => ?_)
      · have he := ite_p h12 he
        exact bk_277_103 (rl_I_I he)
      · have he := ite_n h12 he
        have hg := hg h12
        obtain ⟨k13, hg⟩ := hg
        refine bk_277_86 k13 (fun h14 => ?_) (fun h14 => ?_)
        · have he := ite_p h14 he
          have hg := hg h14
          obtain ⟨k15, hg⟩ := hg
          refine bk_277_106 (cc_264 (d := d + 2)  k15) ?_
          obtain ⟨k16, hg⟩ := hg
          refine bk_277_124 (cc_264 (d := d + 2)  k16) ?_
          obtain ⟨k17, hg⟩ := hg
          refine bk_277_133 (cc_264 (d := d + 2)  k17) ?_
          obtain ⟨k18, hg⟩ := hg
          refine bk_277_142 (cc_264 (d := d + 2)  k18) ?_
          obtain ⟨k19, hg⟩ := hg
          refine bk_277_151 (cq_I_I (cc_174 (d := d + 0)  k19)) ?_
          rintro _ _ _ _ _ ⟨p1, hr, rfl, rfl, rfl, rfl, rfl⟩
          have he := bx_eq hr he
          have hg := bx_un hr hg
          obtain ⟨X1, hX1⟩ : ∃ r : Int32, r = (if p1.1 < 0 then 0 else 1) := ⟨_, rfl⟩
          have J1 : ∀ p2 : Int32, p2 = X1 → Wp l 277 (d + 3) 0 0 (po_I_I F L t T1) 0 0 162 [(0, .ref 74), (1, .int x1), (3, .int x3), (4, .int x4), (6, .int x6)] [.int p2, .int x5] SH (p1.2, F, L, RT t) := by
            intro p2 hr
            have hr := hr.trans hX1
            have he := bx_eq hr he
            have hg := bx_un hr hg
            refine bk_277_162 ?_
            exact Wp_eq (post := fun r => (po_I_I F L t r)) he (ih _ _ _ hg)
          have he := hX1.symm
          refine bk_277_154 (fun h20 => ?_) (fun h20 => ?_)
          · have he := ite_p h20 he
            refine bk_277_161 ?_
            exact J1 _ he
          · have he := ite_n h20 he
            refine bk_277_157 ?_
            exact J1 _ he
        · have he := ite_n h14 he
          exact bk_277_103 (rl_I_I he)
/-- VectorShelfModel.shelve(IIII)I -/
def v_277 (I : WI) (F : WF) (x1 : Int32) (x2 : Int32) (x3 : Int32) (x4 : Int32) : Int32 × WI := (if (v_262 x1) = 0 then ((-2), I) else (if (v_170 (Int32.toInt64 x2) (0 : Int64) (2 : Int64)) = 0 then ((-2), I) else (if ¬ (v_170 (Int32.toInt64 x4) (0 : Int64) (12 : Int64)) = 0 then (if (I 111 x1.toNatClampNeg) = 0 then (if ¬ (I 111 x1.toNatClampNeg) = 0 then (lp_277_75 F x1 x3 x4 400 (0 : Int32) (0 : Int32) I) else ((-11), I)) else (if (I 112 x1.toNatClampNeg) = x2 then (if ¬ (I 111 x1.toNatClampNeg) = 0 then (lp_277_75 F x1 x3 x4 400 (0 : Int32) (0 : Int32) I) else ((-11), I)) else ((-13), I))) else ((-2), I))))
def g_277 (I : WI) (F : WF) (x1 : Int32) (x2 : Int32) (x3 : Int32) (x4 : Int32) : Prop := (¬ ((v_262 x1) = 0) → (¬ ((v_170 (Int32.toInt64 x2) (0 : Int64) (2 : Int64)) = 0) → ((¬ (v_170 (Int32.toInt64 x4) (0 : Int64) (12 : Int64)) = 0) → ((vp_in x1 4) ∧ ((((I 111 x1.toNatClampNeg) = 0) → ((vp_in x1 4) ∧ ((¬ (I 111 x1.toNatClampNeg) = 0) → (gl_277_75 F x1 x3 x4 400 (0 : Int32) (0 : Int32) I)))) ∧ (¬ ((I 111 x1.toNatClampNeg) = 0) → ((vp_in x1 4) ∧ (((I 112 x1.toNatClampNeg) = x2) → ((vp_in x1 4) ∧ ((¬ (I 111 x1.toNatClampNeg) = 0) → (gl_277_75 F x1 x3 x4 400 (0 : Int32) (0 : Int32) I)))))))))))
theorem cc_277 {l : LX} {d : Nat} {I : WI} {F : WF} {L : WL} {t : Nat} {x1 : Int32} {x2 : Int32} {x3 : Int32} {x4 : Int32} (hg : g_277 I F x1 x2 x3 x4) : Con l 277 (d + 3) 0 0 [.ref 74, .int x1, .int x2, .int x3, .int x4] SH (I, F, L, RT t) (po_I_I F L t (v_277 I F x1 x2 x3 x4)) := by
  refine cn_277 ?_
  obtain ⟨T1, hT1⟩ : ∃ r : Int32 × WI, r = (v_277 I F x1 x2 x3 x4) := ⟨_, rfl⟩
  rw [← hT1]
  have he := (hT1.trans (v_277.eq_1 ..)).symm
  have hg := Eq.mp (g_277.eq_1 ..) hg
  refine bk_277_0 (cc_262 (d := d + 1) ) ?_
  refine bk_277_4 (fun h2 => ?_) (fun h2 => ?_)
  · have he := ite_p h2 he
    exact bk_277_32 (rl_I_I he)
  · have he := ite_n h2 he
    have hg := hg h2
    refine bk_277_7 (cc_170 (d := d + 2) ) ?_
    refine bk_277_16 (fun h4 => ?_) (fun h4 => ?_)
    · have he := ite_p h4 he
      exact bk_277_32 (rl_I_I he)
    · have he := ite_n h4 he
      have hg := hg h4
      refine bk_277_19 (cc_170 (d := d + 2) ) ?_
      refine bk_277_29 (fun h6 => ?_) (fun h6 => ?_)
      · have he := ite_p h6 he
        have hg := hg h6
        obtain ⟨k7, hg⟩ := hg
        refine bk_277_35 k7 (fun h8 => ?_) (fun h8 => ?_)
        · have he := ite_p h8 he
          have hg := hg.1 h8
          obtain ⟨k9, hg⟩ := hg
          refine bk_277_57 k9 (fun h10 => ?_) (fun h10 => ?_)
          · have he := ite_p h10 he
            have hg := hg h10
            refine bk_277_69 ?_
            exact Wp_eq (post := fun r => (po_I_I F L t r)) he (lw_277_75 (d := d)  400 _ _ _ hg)
          · have he := ite_n h10 he
            exact bk_277_66 (rl_I_I he)
        · have he := ite_n h8 he
          have hg := hg.2 h8
          obtain ⟨k21, hg⟩ := hg
          refine bk_277_44 k21 (fun h22 => ?_) (fun h22 => ?_)
          · have he := ite_p h22 he
            have hg := hg h22
            obtain ⟨k23, hg⟩ := hg
            refine bk_277_57 k23 (fun h24 => ?_) (fun h24 => ?_)
            · have he := ite_p h24 he
              have hg := hg h24
              refine bk_277_69 ?_
              exact Wp_eq (post := fun r => (po_I_I F L t r)) he (lw_277_75 (d := d)  400 _ _ _ hg)
            · have he := ite_n h24 he
              exact bk_277_66 (rl_I_I he)
          · have he := ite_n h22 he
            exact bk_277_54 (rl_I_I he)
      · have he := ite_n h6 he
        exact bk_277_32 (rl_I_I he)
/-- the loop at 23 of VectorShelf$Company.bestTwo -/
def lp_3_23s (I : WI) (r1 : Nat) (x2 : Int32) (x5 : Int32) (a6 : Int32) (a3 : Int32) (a4 : Int32) : Nat → Int32 × Int32
  | 0 => (a3, a4)
  | k + 1 => bx (lp_3_23s I r1 x2 x5 a6 a3 a4 k) (fun p2 => (bx ((if (v_61 I r1 x5) = 0 then (p2.1, p2.2) else (if (v_61 I r1 (a6 + nI k)) = 0 then (p2.1, p2.2) else (if p2.1 = (-1) then (((x5 * 12) + (a6 + nI k)), (v_4 I r1 x5 (a6 + nI k) x2)) else (if p2.2 ≤ (v_4 I r1 x5 (a6 + nI k) x2) then (p2.1, p2.2) else (((x5 * 12) + (a6 + nI k)), (v_4 I r1 x5 (a6 + nI k) x2)))))) : Int32 × Int32) (fun p3 => (p3.1, p3.2))))
def gl_3_23s (I : WI) (r1 : Nat) (x2 : Int32) (x5 : Int32) (a6 : Int32) (a3 : Int32) (a4 : Int32) (N : Nat) : Prop := (∀ k, k < N → bx (lp_3_23s I r1 x2 x5 a6 a3 a4 k) (fun p2 => (¬ ((v_61 I r1 x5) = 0) → (¬ ((v_61 I r1 (a6 + nI k)) = 0) → (g_4 I r1 x5 (a6 + nI k) x2)))))
theorem lw_3_23s {l : LX} {d : Nat} {P : RP} {I : WI} {F : WF} {L : WL} {t : Nat} {r1 : Nat} {x2 : Int32} {x5 : Int32} {a6 : Int32} {a3 : Int32} {a4 : Int32} (hr1 : isS r1) (hgl : gl_3_23s I r1 x2 x5 a6 a3 a4 (((I r1 8).toInt - a6.toInt).toNat)) (hx : ∀ p2 : Int32 × Int32, p2 = lp_3_23s I r1 x2 x5 a6 a3 a4 (((I r1 8).toInt - a6.toInt).toNat) → Wp l 3 (d + 4) 0 0 P 0 0 93 [(0, .ref 42), (1, .ref r1), (2, .int x2), (3, .int p2.1), (4, .int p2.2), (5, .int x5)] [] SH (I, F, L, RT t)) : Wp l 3 (d + 4) 0 0 P 0 0 23 [(0, .ref 42), (1, .ref r1), (2, .int x2), (3, .int a3), (4, .int a4), (5, .int x5), (6, .int a6)] [] SH (I, F, L, RT t) := by
  have hin := hgl
  have loop : ∀ m k, k + m = ((I r1 8).toInt - a6.toInt).toNat → ∀ p2 : Int32 × Int32, p2 = lp_3_23s I r1 x2 x5 a6 a3 a4 k → Wp l 3 (d + 4) 0 0 P 0 0 23 [(0, .ref 42), (1, .ref r1), (2, .int x2), (3, .int p2.1), (4, .int p2.2), (5, .int x5), (6, .int (a6 + nI k))] [] SH (I, F, L, RT t) := by
    intro m
    induction m with
    | zero =>
      intro k hk p2 hs
      obtain rfl : k = ((I r1 8).toInt - a6.toInt).toNat := by omega
      exact bk_3_23 hr1 (fun _ => hx _ hs) (fun h => absurd ((cl_ge (Nat.le_refl _)).mpr rfl) h)
    | succ m ih =>
      intro k hk p2 hs
      have hk2 : k < ((I r1 8).toInt - a6.toInt).toNat := by omega
      have ih := ih (k + 1) (by omega)
      rw [nI_succ, ← Int32.add_assoc] at ih
      have he := bx_eq hs (lp_3_23s.eq_2 ..).symm
      have hg := bx_un hs (hin k hk2)
      refine bk_3_23 hr1 (fun h => absurd ((cl_ge (by omega)).mp h) (by omega)) (fun _ => ?_)
      refine bk_3_32 hr1 (cc_61 (d := d + 2) hr1) ?_
      have hgX := hg
      obtain ⟨X1, hX1⟩ : ∃ r : Int32 × Int32, r = (if (v_61 I r1 x5) = 0 then (p2.1, p2.2) else (if (v_61 I r1 (a6 + nI k)) = 0 then (p2.1, p2.2) else (if p2.1 = (-1) then (((x5 * 12) + (a6 + nI k)), (v_4 I r1 x5 (a6 + nI k) x2)) else (if p2.2 ≤ (v_4 I r1 x5 (a6 + nI k) x2) then (p2.1, p2.2) else (((x5 * 12) + (a6 + nI k)), (v_4 I r1 x5 (a6 + nI k) x2)))))) := ⟨_, rfl⟩
      have J1 : ∀ p3 : Int32 × Int32, p3 = X1 → Wp l 3 (d + 4) 0 0 P 0 0 87 [(0, .ref 42), (1, .ref r1), (2, .int x2), (3, .int p3.1), (4, .int p3.2), (5, .int x5), (6, .int (a6 + nI k))] [] SH (I, F, L, RT t) := by
        intro p3 hr
        have hr := hr.trans hX1
        have he := bx_eq hr he
        refine bk_3_87 ?_
        exact ih _ he
      have he := hX1.symm
      have hg := hgX
      refine bk_3_38 (fun h2 => ?_) (fun h2 => ?_)
      · have he := ite_p h2 he
        exact J1 _ he
      · have he := ite_n h2 he
        have hg := hg h2
        refine bk_3_41 hr1 (cc_61 (d := d + 2) hr1) ?_
        refine bk_3_47 (fun h4 => ?_) (fun h4 => ?_)
        · have he := ite_p h4 he
          exact J1 _ he
        · have he := ite_n h4 he
          have hg := hg h4
          have k5 := hg
          refine bk_3_50 (cc_4 (d := d + 0) hr1 k5) ?_
          refine bk_3_60 (fun h6 => ?_) (fun h6 => ?_)
          · have he := ite_p h6 he
            refine bk_3_74 ?_
            exact J1 _ he
          · have he := ite_n h6 he
            refine bk_3_67 (fun h7 => ?_) (fun h7 => ?_)
            · have he := ite_p h7 he
              exact J1 _ he
            · have he := ite_n h7 he
              refine bk_3_74 ?_
              exact J1 _ he
  have h0 := loop _ 0 (by omega) _ rfl
  rw [show a6 + nI 0 = a6 from by rw [nI_0, Int32.add_zero]] at h0
  exact h0
/-- the loop at 8 of VectorShelf$Company.bestTwo -/
def lp_3_8 (I : WI) (r1 : Nat) (x2 : Int32) (a3 : Int32) (a4 : Int32) : Nat → Int32 × Int32
  | 0 => (a3, a4)
  | k + 1 => bx (lp_3_8 I r1 x2 a3 a4 k) (fun p1 => (bx ((lp_3_23s I r1 x2 (nI k) ((nI k) + 1) p1.1 p1.2 (((I r1 8).toInt - ((nI k) + 1).toInt).toNat)) : Int32 × Int32) (fun p4 => (p4.1, p4.2))))
def gl_3_8 (I : WI) (r1 : Nat) (x2 : Int32) (a3 : Int32) (a4 : Int32) (N : Nat) : Prop := (∀ k, k < N → bx (lp_3_8 I r1 x2 a3 a4 k) (fun p1 => (gl_3_23s I r1 x2 (nI k) ((nI k) + 1) p1.1 p1.2 (((I r1 8).toInt - ((nI k) + 1).toInt).toNat))))
theorem lw_3_8 {l : LX} {d : Nat} {P : RP} {I : WI} {F : WF} {L : WL} {t : Nat} {r1 : Nat} {x2 : Int32} {a3 : Int32} {a4 : Int32} (hr1 : isS r1) (hgl : gl_3_8 I r1 x2 a3 a4 ((I r1 8).toNatClampNeg)) (hx : ∀ p1 : Int32 × Int32, p1 = lp_3_8 I r1 x2 a3 a4 ((I r1 8).toNatClampNeg) → Wp l 3 (d + 4) 0 0 P 0 0 99 [(3, .int p1.1)] [] SH (I, F, L, RT t)) : Wp l 3 (d + 4) 0 0 P 0 0 8 [(0, .ref 42), (1, .ref r1), (2, .int x2), (3, .int a3), (4, .int a4), (5, .int 0)] [] SH (I, F, L, RT t) := by
  have hin := hgl
  have loop : ∀ m k, k + m = (I r1 8).toNatClampNeg → ∀ p1 : Int32 × Int32, p1 = lp_3_8 I r1 x2 a3 a4 k → Wp l 3 (d + 4) 0 0 P 0 0 8 [(0, .ref 42), (1, .ref r1), (2, .int x2), (3, .int p1.1), (4, .int p1.2), (5, .int (nI k))] [] SH (I, F, L, RT t) := by
    intro m
    induction m with
    | zero =>
      intro k hk p1 hs
      obtain rfl : k = (I r1 8).toNatClampNeg := by omega
      exact bk_3_8 hr1 (fun _ => hx _ hs) (fun h => absurd ((le_cl (Nat.le_refl _)).mpr rfl) h)
    | succ m ih =>
      intro k hk p1 hs
      have hk2 : k < (I r1 8).toNatClampNeg := by omega
      have ih := ih (k + 1) (by omega)
      rw [nI_succ] at ih
      have he := bx_eq hs (lp_3_8.eq_2 ..).symm
      have hg := bx_un hs (hin k hk2)
      refine bk_3_8 hr1 (fun h => absurd ((le_cl (by omega)).mp h) (by omega)) (fun _ => ?_)
      refine bk_3_17 ?_
      have hgX := hg
      refine lw_3_23s (d := d) hr1 hgX (fun p4 hr => ?_)
      have he := bx_eq hr he
      refine bk_3_93 ?_
      exact ih _ he
  exact loop _ 0 (by omega) _ rfl
/-- VectorShelf$Company.bestTwo(LVectorShelf$Shelf;Z)I -/
def v_3 (I : WI) (r1 : Nat) (x2 : Int32) : Int32 := (bx ((lp_3_8 I r1 x2 ((-1) : Int32) (0 : Int32) ((I r1 8).toNatClampNeg)) : Int32 × Int32) (fun p5 => p5.1))
def g_3 (I : WI) (r1 : Nat) (x2 : Int32) : Prop := (gl_3_8 I r1 x2 ((-1) : Int32) (0 : Int32) ((I r1 8).toNatClampNeg))
theorem cc_3 {l : LX} {d : Nat} {I : WI} {F : WF} {L : WL} {t : Nat} {r1 : Nat} {x2 : Int32} (hr1 : isS r1) (hg : g_3 I r1 x2) : Con l 3 (d + 4) 0 0 [.ref 42, .ref r1, .int x2] SH (I, F, L, RT t) (rI (v_3 I r1 x2) (I, F, L, RT t)) := by
  refine cn_3 ?_
  obtain ⟨T1, hT1⟩ : ∃ r : Int32, r = (v_3 I r1 x2) := ⟨_, rfl⟩
  rw [← hT1]
  have he := (hT1.trans (v_3.eq_1 ..)).symm
  have hg := Eq.mp (g_3.eq_1 ..) hg
  refine bk_3_0 ?_
  have hgX := hg
  refine lw_3_8 (d := d) hr1 hgX (fun p5 hr => ?_)
  have he := bx_eq hr he
  exact bk_3_99 (rl_p_I he)
/-- the loop at 8 of VectorShelf$Company.farthestFrom -/
def lp_6_8 (I : WI) (r1 : Nat) (x2 : Int32) (a3 : Int32) (a4 : Int32) : Nat → Int32 × Int32
  | 0 => (a3, a4)
  | k + 1 => bx (lp_6_8 I r1 x2 a3 a4 k) (fun p1 => (bx ((if (v_61 I r1 (nI k)) = 0 then (p1.1, p1.2) else (if ¬ (v_111 x2 (nI k)) = 0 then (p1.1, p1.2) else (if (v_7 I r1 (nI k) x2) ≤ p1.2 then (p1.1, p1.2) else ((nI k), (v_7 I r1 (nI k) x2))))) : Int32 × Int32) (fun p2 => (p2.1, p2.2))))
def gl_6_8 (I : WI) (r1 : Nat) (x2 : Int32) (a3 : Int32) (a4 : Int32) (N : Nat) : Prop := (∀ k, k < N → bx (lp_6_8 I r1 x2 a3 a4 k) (fun p1 => (¬ ((v_61 I r1 (nI k)) = 0) → (¬ (¬ (v_111 x2 (nI k)) = 0) → (g_7 I r1 (nI k) x2)))))
theorem lw_6_8 {l : LX} {d : Nat} {P : RP} {I : WI} {F : WF} {L : WL} {t : Nat} {r1 : Nat} {x2 : Int32} {a3 : Int32} {a4 : Int32} (hr1 : isS r1) (hgl : gl_6_8 I r1 x2 a3 a4 ((I r1 8).toNatClampNeg)) (hx : ∀ p1 : Int32 × Int32, p1 = lp_6_8 I r1 x2 a3 a4 ((I r1 8).toNatClampNeg) → Wp l 6 (d + 4) 0 0 P 0 0 65 [(3, .int p1.1)] [] SH (I, F, L, RT t)) : Wp l 6 (d + 4) 0 0 P 0 0 8 [(0, .ref 42), (1, .ref r1), (2, .int x2), (3, .int a3), (4, .int a4), (5, .int 0)] [] SH (I, F, L, RT t) := by
  have hin := hgl
  have loop : ∀ m k, k + m = (I r1 8).toNatClampNeg → ∀ p1 : Int32 × Int32, p1 = lp_6_8 I r1 x2 a3 a4 k → Wp l 6 (d + 4) 0 0 P 0 0 8 [(0, .ref 42), (1, .ref r1), (2, .int x2), (3, .int p1.1), (4, .int p1.2), (5, .int (nI k))] [] SH (I, F, L, RT t) := by
    intro m
    induction m with
    | zero =>
      intro k hk p1 hs
      obtain rfl : k = (I r1 8).toNatClampNeg := by omega
      exact bk_6_8 hr1 (fun _ => hx _ hs) (fun h => absurd ((le_cl (Nat.le_refl _)).mpr rfl) h)
    | succ m ih =>
      intro k hk p1 hs
      have hk2 : k < (I r1 8).toNatClampNeg := by omega
      have ih := ih (k + 1) (by omega)
      rw [nI_succ] at ih
      have he := bx_eq hs (lp_6_8.eq_2 ..).symm
      have hg := bx_un hs (hin k hk2)
      refine bk_6_8 hr1 (fun h => absurd ((le_cl (by omega)).mp h) (by omega)) (fun _ => ?_)
      refine bk_6_17 hr1 (cc_61 (d := d + 2) hr1) ?_
      have hgX := hg
      obtain ⟨X1, hX1⟩ : ∃ r : Int32 × Int32, r = (if (v_61 I r1 (nI k)) = 0 then (p1.1, p1.2) else (if ¬ (v_111 x2 (nI k)) = 0 then (p1.1, p1.2) else (if (v_7 I r1 (nI k) x2) ≤ p1.2 then (p1.1, p1.2) else ((nI k), (v_7 I r1 (nI k) x2))))) := ⟨_, rfl⟩
      have J1 : ∀ p2 : Int32 × Int32, p2 = X1 → Wp l 6 (d + 4) 0 0 P 0 0 59 [(0, .ref 42), (1, .ref r1), (2, .int x2), (3, .int p2.1), (4, .int p2.2), (5, .int (nI k))] [] SH (I, F, L, RT t) := by
        intro p2 hr
        have hr := hr.trans hX1
        have he := bx_eq hr he
        refine bk_6_59 ?_
        exact ih _ he
      have he := hX1.symm
      have hg := hgX
      refine bk_6_23 (fun h2 => ?_) (fun h2 => ?_)
      · have he := ite_p h2 he
        exact J1 _ he
      · have he := ite_n h2 he
        have hg := hg h2
        refine bk_6_26 (cc_111 (d := d + 3) ) ?_
        refine bk_6_32 (fun h4 => ?_) (fun h4 => ?_)
        · have he := ite_p h4 he
          exact J1 _ he
        · have he := ite_n h4 he
          have hg := hg h4
          have k5 := hg
          refine bk_6_35 (cc_7 (d := d + 0) hr1 k5) ?_
          refine bk_6_43 (fun h6 => ?_) (fun h6 => ?_)
          · have he := ite_p h6 he
            exact J1 _ he
          · have he := ite_n h6 he
            refine bk_6_52 ?_
            exact J1 _ he
  exact loop _ 0 (by omega) _ rfl
/-- VectorShelf$Company.farthestFrom(LVectorShelf$Shelf;I)I -/
def v_6 (I : WI) (r1 : Nat) (x2 : Int32) : Int32 := (bx ((lp_6_8 I r1 x2 (0 : Int32) ((-1) : Int32) ((I r1 8).toNatClampNeg)) : Int32 × Int32) (fun p3 => p3.1))
def g_6 (I : WI) (r1 : Nat) (x2 : Int32) : Prop := (gl_6_8 I r1 x2 (0 : Int32) ((-1) : Int32) ((I r1 8).toNatClampNeg))
theorem cc_6 {l : LX} {d : Nat} {I : WI} {F : WF} {L : WL} {t : Nat} {r1 : Nat} {x2 : Int32} (hr1 : isS r1) (hg : g_6 I r1 x2) : Con l 6 (d + 4) 0 0 [.ref 42, .ref r1, .int x2] SH (I, F, L, RT t) (rI (v_6 I r1 x2) (I, F, L, RT t)) := by
  refine cn_6 ?_
  obtain ⟨T1, hT1⟩ : ∃ r : Int32, r = (v_6 I r1 x2) := ⟨_, rfl⟩
  rw [← hT1]
  have he := (hT1.trans (v_6.eq_1 ..)).symm
  have hg := Eq.mp (g_6.eq_1 ..) hg
  refine bk_6_0 ?_
  have hgX := hg
  refine lw_6_8 (d := d) hr1 hgX (fun p3 hr => ?_)
  have he := bx_eq hr he
  exact bk_6_65 (rl_p_I he)
/-- the loop at 2 of VectorShelf$Company.fewestCovering -/
def lp_8_2 (I : WI) (r1 : Nat) (x2 : Int32) : Nat → WI
  | 0 => I
  | k + 1 => bx (lp_8_2 I r1 x2 k) (fun p1 => (up2 p1 43 (nI k).toNatClampNeg (v_9 p1 r1 (nI k) x2)))
def gl_8_2 (I : WI) (r1 : Nat) (x2 : Int32) (N : Nat) : Prop := ((∀ k, k < N → bx (lp_8_2 I r1 x2 k) (fun p1 => (((p1 r1 8) = (I r1 8)) ∧ ((g_9 p1 r1 (nI k) x2) ∧ (vp_in (nI k) 12))))) ∧ (bx (lp_8_2 I r1 x2 N) (fun p1 => (p1 r1 8) = (I r1 8))))
theorem lw_8_2 {l : LX} {d : Nat} {P : RP} {I : WI} {F : WF} {L : WL} {t : Nat} {r1 : Nat} {x2 : Int32} (hr1 : isS r1) (hgl : gl_8_2 I r1 x2 ((I r1 8).toNatClampNeg)) (hx : ∀ p1 : WI, p1 = lp_8_2 I r1 x2 ((I r1 8).toNatClampNeg) → Wp l 8 (d + 4) 0 0 P 0 0 29 [(0, .ref 42), (1, .ref r1)] [] SH (p1, F, L, RT t)) : Wp l 8 (d + 4) 0 0 P 0 0 2 [(0, .ref 42), (1, .ref r1), (2, .int x2), (3, .int 0)] [] SH (I, F, L, RT t) := by
  obtain ⟨hin, hend⟩ := hgl
  have loop : ∀ m k, k + m = (I r1 8).toNatClampNeg → ∀ p1 : WI, p1 = lp_8_2 I r1 x2 k → Wp l 8 (d + 4) 0 0 P 0 0 2 [(0, .ref 42), (1, .ref r1), (2, .int x2), (3, .int (nI k))] [] SH (p1, F, L, RT t) := by
    intro m
    induction m with
    | zero =>
      intro k hk p1 hs
      obtain rfl : k = (I r1 8).toNatClampNeg := by omega
      have hE := bx_un hs hend
      exact bk_8_2 hr1 (fun _ => hx _ hs) (fun h => absurd ((show (p1 r1 8) ≤ (nI ((I r1 8).toNatClampNeg)) from by rw [show (p1 r1 8) = (I r1 8) from hE]; exact (le_cl (Nat.le_refl _)).mpr rfl)) h)
    | succ m ih =>
      intro k hk p1 hs
      have hk2 : k < (I r1 8).toNatClampNeg := by omega
      have ih := ih (k + 1) (by omega)
      rw [nI_succ] at ih
      have he := bx_eq hs (lp_8_2.eq_2 ..).symm
      have hg := bx_un hs (hin k hk2)
      have hE : (p1 r1 8) = (I r1 8) := hg.1
      have hg := hg.2
      refine bk_8_2 hr1 (fun h => absurd ((le_cl (by omega)).mp (by rw [show (p1 r1 8) = (I r1 8) from hE] at h; exact h)) (by omega)) (fun _ => ?_)
      obtain ⟨k1, hg⟩ := hg
      refine bk_8_10 (cc_9 (d := d + 0) hr1 k1) ?_
      have k2 := hg
      refine bk_8_22 k2 ?_
      exact ih _ he
  exact loop _ 0 (by omega) _ rfl
/-- the loop at 34 of VectorShelf$Company.fewestCovering -/
def lp_8_34 (I : WI) (r1 : Nat) (a3 : Int32) : Nat → Int32
  | 0 => a3
  | k + 1 => bx (lp_8_34 I r1 a3 k) (fun p3 => (bx ((if ¬ ((nI k) &&& ((I r1 12) ^^^ (-1))) = 0 then 0 else 1) : Int32) (fun p4 => (bx ((if p3 = (-1) then 1 else (if (v_286 p3) ≤ (v_286 (nI k)) then 0 else 1)) : Int32) (fun p5 => (bx ((if p4 = 0 then p3 else (if p5 = 0 then p3 else (if (v_10 I (nI k) (I r1 12)) = 0 then p3 else (nI k)))) : Int32) (fun p6 => p6)))))))
def gl_8_34 (I : WI) (r1 : Nat) (a3 : Int32) (N : Nat) : Prop := (((I r1 12).toInt < 2147483647) ∧ (∀ k, k < N → bx (lp_8_34 I r1 a3 k) (fun p3 => (bx ((if ¬ ((nI k) &&& ((I r1 12) ^^^ (-1))) = 0 then 0 else 1) : Int32) (fun p4 => (bx ((if p3 = (-1) then 1 else (if (v_286 p3) ≤ (v_286 (nI k)) then 0 else 1)) : Int32) (fun p5 => (¬ (p4 = 0) → (¬ (p5 = 0) → (g_10 I (nI k)))))))))))
theorem lw_8_34 {l : LX} {d : Nat} {P : RP} {I : WI} {F : WF} {L : WL} {t : Nat} {r1 : Nat} {a3 : Int32} (hr1 : isS r1) (hgl : gl_8_34 I r1 a3 (((I r1 12).toInt + 1 - (0 : Int32).toInt).toNat)) (hx : ∀ p3 : Int32, p3 = lp_8_34 I r1 a3 (((I r1 12).toInt + 1 - (0 : Int32).toInt).toNat) → Wp l 8 (d + 4) 0 0 P 0 0 118 [(3, .int p3)] [] SH (I, F, L, RT t)) : Wp l 8 (d + 4) 0 0 P 0 0 34 [(0, .ref 42), (1, .ref r1), (3, .int a3), (4, .int 0)] [] SH (I, F, L, RT t) := by
  obtain ⟨hbig, hin⟩ := hgl
  have loop : ∀ m k, k + m = ((I r1 12).toInt + 1 - (0 : Int32).toInt).toNat → ∀ p3 : Int32, p3 = lp_8_34 I r1 a3 k → Wp l 8 (d + 4) 0 0 P 0 0 34 [(0, .ref 42), (1, .ref r1), (3, .int p3), (4, .int (nI k))] [] SH (I, F, L, RT t) := by
    intro m
    induction m with
    | zero =>
      intro k hk p3 hs
      obtain rfl : k = ((I r1 12).toInt + 1 - (0 : Int32).toInt).toNat := by omega
      exact bk_8_34 hr1 (fun _ => hx _ hs) (fun h => absurd ((cl_gt0 hbig (Nat.le_refl _)).mpr rfl) h)
    | succ m ih =>
      intro k hk p3 hs
      have hk2 : k < ((I r1 12).toInt + 1 - (0 : Int32).toInt).toNat := by omega
      have ih := ih (k + 1) (by omega)
      rw [nI_succ] at ih
      have he := bx_eq hs (lp_8_34.eq_2 ..).symm
      have hg := bx_un hs (hin k hk2)
      refine bk_8_34 hr1 (fun h => absurd ((cl_gt0 hbig (by omega)).mp h) (by omega)) (fun _ => ?_)
      obtain ⟨X1, hX1⟩ : ∃ r : Int32, r = (if ¬ ((nI k) &&& ((I r1 12) ^^^ (-1))) = 0 then 0 else 1) := ⟨_, rfl⟩
      have J1 : ∀ p4 : Int32, p4 = X1 → Wp l 8 (d + 4) 0 0 P 0 0 60 [(0, .ref 42), (1, .ref r1), (3, .int p3), (4, .int (nI k))] [.int p4] SH (I, F, L, RT t) := by
        intro p4 hr
        have hr := hr.trans hX1
        have he := bx_eq hr he
        have hg := bx_un hr hg
        obtain ⟨X2, hX2⟩ : ∃ r : Int32, r = (if p3 = (-1) then 1 else (if (v_286 p3) ≤ (v_286 (nI k)) then 0 else 1)) := ⟨_, rfl⟩
        have J2 : ∀ p5 : Int32, p5 = X2 → Wp l 8 (d + 4) 0 0 P 0 0 84 [(0, .ref 42), (1, .ref r1), (3, .int p3), (4, .int (nI k)), (5, .int p4)] [.int p5] SH (I, F, L, RT t) := by
          intro p5 hr
          have hr := hr.trans hX2
          have he := bx_eq hr he
          have hg := bx_un hr hg
          have hgX := hg
          obtain ⟨X3, hX3⟩ : ∃ r : Int32, r = (if p4 = 0 then p3 else (if p5 = 0 then p3 else (if (v_10 I (nI k) (I r1 12)) = 0 then p3 else (nI k)))) := ⟨_, rfl⟩
          have J3 : ∀ p6 : Int32, p6 = X3 → Wp l 8 (d + 4) 0 0 P 0 0 112 [(0, .ref 42), (1, .ref r1), (3, .int p6), (4, .int (nI k))] [] SH (I, F, L, RT t) := by
            intro p6 hr
            have hr := hr.trans hX3
            have he := bx_eq hr he
            refine bk_8_112 ?_
            exact ih _ he
          have he := hX3.symm
          have hg := hgX
          refine bk_8_84 (fun h8 => ?_) (fun h8 => ?_)
          · have he := ite_p h8 he
            exact J3 _ he
          · have he := ite_n h8 he
            have hg := hg h8
            refine bk_8_91 (fun h9 => ?_) (fun h9 => ?_)
            · have he := ite_p h9 he
              exact J3 _ he
            · have he := ite_n h9 he
              have hg := hg h9
              have k10 := hg
              refine bk_8_96 hr1 (cc_10 (d := d + 2)  k10) ?_
              refine bk_8_106 (fun h11 => ?_) (fun h11 => ?_)
              · have he := ite_p h11 he
                exact J3 _ he
              · have he := ite_n h11 he
                refine bk_8_109 ?_
                exact J3 _ he
        have he := hX2.symm
        refine bk_8_60 (fun h4 => ?_) (fun h4 => ?_)
        · have he := ite_p h4 he
          refine bk_8_79 ?_
          exact J2 _ he
        · have he := ite_n h4 he
          refine bk_8_67 (cc_286 (d := d + 3) ) ?_
          refine bk_8_72 (cc_286 (d := d + 3) ) ?_
          refine bk_8_76 (fun h7 => ?_) (fun h7 => ?_)
          · have he := ite_p h7 he
            refine bk_8_83 ?_
            exact J2 _ he
          · have he := ite_n h7 he
            refine bk_8_79 ?_
            exact J2 _ he
      have he := hX1.symm
      refine bk_8_43 hr1 (fun h3 => ?_) (fun h3 => ?_)
      · have he := ite_p h3 he
        refine bk_8_59 ?_
        exact J1 _ he
      · have he := ite_n h3 he
        refine bk_8_55 ?_
        exact J1 _ he
  exact loop _ 0 (by omega) _ rfl
/-- VectorShelf$Company.fewestCovering(LVectorShelf$Shelf;I)I -/
def v_8 (I : WI) (r1 : Nat) (x2 : Int32) : Int32 × WI := (bx ((lp_8_2 I r1 x2 ((I r1 8).toNatClampNeg)) : WI) (fun p2 => (bx ((lp_8_34 p2 r1 ((-1) : Int32) (((p2 r1 12).toInt + 1 - (0 : Int32).toInt).toNat)) : Int32) (fun p7 => (p7, p2)))))
def g_8 (I : WI) (r1 : Nat) (x2 : Int32) : Prop := ((gl_8_2 I r1 x2 ((I r1 8).toNatClampNeg)) ∧ (bx ((lp_8_2 I r1 x2 ((I r1 8).toNatClampNeg)) : WI) (fun p2 => (gl_8_34 p2 r1 ((-1) : Int32) (((p2 r1 12).toInt + 1 - (0 : Int32).toInt).toNat)))))
theorem cc_8 {l : LX} {d : Nat} {I : WI} {F : WF} {L : WL} {t : Nat} {r1 : Nat} {x2 : Int32} (hr1 : isS r1) (hg : g_8 I r1 x2) : Con l 8 (d + 4) 0 0 [.ref 42, .ref r1, .int x2] SH (I, F, L, RT t) (po_I_I F L t (v_8 I r1 x2)) := by
  refine cn_8 ?_
  obtain ⟨T1, hT1⟩ : ∃ r : Int32 × WI, r = (v_8 I r1 x2) := ⟨_, rfl⟩
  rw [← hT1]
  have he := (hT1.trans (v_8.eq_1 ..)).symm
  have hg := Eq.mp (g_8.eq_1 ..) hg
  refine bk_8_0 ?_
  obtain ⟨hgX, hg⟩ := hg
  refine lw_8_2 (d := d) hr1 hgX (fun p2 hr => ?_)
  have he := bx_eq hr he
  have hg := bx_un hr hg
  refine bk_8_29 ?_
  have hgX := hg
  refine lw_8_34 (d := d) hr1 hgX (fun p7 hr => ?_)
  have he := bx_eq hr he
  exact bk_8_118 (rl_I_I he)
/-- the loop at 7 of VectorShelf$Judge.weigh -/
def lp_12_7 (I : WI) (r1 : Nat) (r2 : Nat) : Nat → WI
  | 0 => I
  | k + 1 => bx (lp_12_7 I r1 r2 k) (fun p1 => (bx ((v_13 p1 r2 (0 : Int32) (p1 r2 2) r1 (nI k)) : Int32 × WI) (fun p2 => (bx ((if p2.1 = 0 then p2.2 else (up2 p2.2 35 2 ((p2.2 35 2) ||| (1 <<< ((nI k) &&& 31))))) : WI) (fun p3 => (bx ((v_13 p3 r2 (p3 r2 2) (p3 r2 1) r1 (nI k)) : Int32 × WI) (fun p4 => (up2 p4.2 37 (nI k).toNatClampNeg (v_283 (0 : Int32) (v_282 (99 : Int32) p4.1))))))))))
def gl_12_7 (I : WI) (r1 : Nat) (r2 : Nat) (N : Nat) : Prop := ((∀ k, k < N → bx (lp_12_7 I r1 r2 k) (fun p1 => (((p1 r1 8) = (I r1 8)) ∧ ((g_13 p1 r2 (0 : Int32) (p1 r2 2) r1 (nI k)) ∧ (bx ((v_13 p1 r2 (0 : Int32) (p1 r2 2) r1 (nI k)) : Int32 × WI) (fun p2 => (bx ((if p2.1 = 0 then p2.2 else (up2 p2.2 35 2 ((p2.2 35 2) ||| (1 <<< ((nI k) &&& 31))))) : WI) (fun p3 => ((g_13 p3 r2 (p3 r2 2) (p3 r2 1) r1 (nI k)) ∧ (bx ((v_13 p3 r2 (p3 r2 2) (p3 r2 1) r1 (nI k)) : Int32 × WI) (fun p4 => (vp_in (nI k) 12)))))))))))) ∧ (bx (lp_12_7 I r1 r2 N) (fun p1 => (p1 r1 8) = (I r1 8))))
theorem lw_12_7 {l : LX} {d : Nat} {P : RP} {I : WI} {F : WF} {L : WL} {t : Nat} {r1 : Nat} {r2 : Nat} (hr1 : isS r1) (hr2 : isT r2) (hgl : gl_12_7 I r1 r2 ((I r1 8).toNatClampNeg)) (hx : ∀ p1 : WI, p1 = lp_12_7 I r1 r2 ((I r1 8).toNatClampNeg) → Wp l 12 (d + 4) 0 0 P 0 0 82 [] [] SH (p1, F, L, RT t)) : Wp l 12 (d + 4) 0 0 P 0 0 7 [(0, .ref 35), (1, .ref r1), (2, .ref r2), (3, .int 0)] [] SH (I, F, L, RT t) := by
  obtain ⟨hin, hend⟩ := hgl
  have loop : ∀ m k, k + m = (I r1 8).toNatClampNeg → ∀ p1 : WI, p1 = lp_12_7 I r1 r2 k → Wp l 12 (d + 4) 0 0 P 0 0 7 [(0, .ref 35), (1, .ref r1), (2, .ref r2), (3, .int (nI k))] [] SH (p1, F, L, RT t) := by
    intro m
    induction m with
    | zero =>
      intro k hk p1 hs
      obtain rfl : k = (I r1 8).toNatClampNeg := by omega
      have hE := bx_un hs hend
      exact bk_12_7 hr1 (fun _ => hx _ hs) (fun h => absurd ((show (p1 r1 8) ≤ (nI ((I r1 8).toNatClampNeg)) from by rw [show (p1 r1 8) = (I r1 8) from hE]; exact (le_cl (Nat.le_refl _)).mpr rfl)) h)
    | succ m ih =>
      intro k hk p1 hs
      have hk2 : k < (I r1 8).toNatClampNeg := by omega
      have ih := ih (k + 1) (by omega)
      rw [nI_succ] at ih
      have he := bx_eq hs (lp_12_7.eq_2 ..).symm
      have hg := bx_un hs (hin k hk2)
      have hE : (p1 r1 8) = (I r1 8) := hg.1
      have hg := hg.2
      refine bk_12_7 hr1 (fun h => absurd ((le_cl (by omega)).mp (by rw [show (p1 r1 8) = (I r1 8) from hE] at h; exact h)) (by omega)) (fun _ => ?_)
      obtain ⟨k1, hg⟩ := hg
      refine bk_12_15 hr2 (cq_I_I (cc_13 (d := d + 0) hr2 hr1 k1)) ?_
      rintro _ _ _ _ _ ⟨p2, hr, rfl, rfl, rfl, rfl, rfl⟩
      have he := bx_eq hr he
      have hg := bx_un hr hg
      obtain ⟨X1, hX1⟩ : ∃ r : WI, r = (if p2.1 = 0 then p2.2 else (up2 p2.2 35 2 ((p2.2 35 2) ||| (1 <<< ((nI k) &&& 31))))) := ⟨_, rfl⟩
      have J1 : ∀ p3 : WI, p3 = X1 → Wp l 12 (d + 4) 0 0 P 0 0 42 [(0, .ref 35), (1, .ref r1), (2, .ref r2), (3, .int (nI k))] [] SH (p3, F, L, RT t) := by
        intro p3 hr
        have hr := hr.trans hX1
        have he := bx_eq hr he
        have hg := bx_un hr hg
        obtain ⟨k3, hg⟩ := hg
        refine bk_12_42 hr2 (cq_I_I (cc_13 (d := d + 0) hr2 hr1 k3)) ?_
        rintro _ _ _ _ _ ⟨p4, hr, rfl, rfl, rfl, rfl, rfl⟩
        have he := bx_eq hr he
        have hg := bx_un hr hg
        refine bk_12_57 (cc_282 (d := d + 3) ) ?_
        refine bk_12_72 (cc_283 (d := d + 3) ) ?_
        have k6 := hg
        refine bk_12_75 k6 ?_
        exact ih _ he
      have he := hX1.symm
      refine bk_12_27 (fun h2 => ?_) (fun h2 => ?_)
      · have he := ite_p h2 he
        exact J1 _ he
      · have he := ite_n h2 he
        refine bk_12_30 ?_
        exact J1 _ he
  exact loop _ 0 (by omega) _ rfl
/-- VectorShelf$Judge.weigh(LVectorShelf$Shelf;LVectorShelf$Text;)V -/
def v_12 (I : WI) (r1 : Nat) (r2 : Nat) : WI := (bx ((lp_12_7 (up2 I 35 2 0) r1 r2 (((up2 I 35 2 0) r1 8).toNatClampNeg)) : WI) (fun p5 => p5))
def g_12 (I : WI) (r1 : Nat) (r2 : Nat) : Prop := (gl_12_7 (up2 I 35 2 0) r1 r2 (((up2 I 35 2 0) r1 8).toNatClampNeg))
theorem cc_12 {l : LX} {d : Nat} {I : WI} {F : WF} {L : WL} {t : Nat} {r1 : Nat} {r2 : Nat} (hr1 : isS r1) (hr2 : isT r2) (hg : g_12 I r1 r2) : Con l 12 (d + 4) 0 0 [.ref 35, .ref r1, .ref r2] SH (I, F, L, RT t) (po_V_I F L t (v_12 I r1 r2)) := by
  refine cn_12 ?_
  obtain ⟨T1, hT1⟩ : ∃ r : WI, r = (v_12 I r1 r2) := ⟨_, rfl⟩
  rw [← hT1]
  have he := (hT1.trans (v_12.eq_1 ..)).symm
  have hg := Eq.mp (g_12.eq_1 ..) hg
  refine bk_12_0 ?_
  have hgX := hg
  refine lw_12_7 (d := d) hr1 hr2 hgX (fun p5 hr => ?_)
  have he := bx_eq hr he
  exact bk_12_82 (rl_V_I he)
/-- the loop at 23 of VectorShelf$Reading.readCell -/
def lp_39_23 (I : WI) (x2 : Int32) (r3 : Nat) (x5 : Int32) (x6 : Int32) : Nat → WI
  | 0 => I
  | k + 1 => bx (lp_39_23 I x2 r3 x5 x6 k) (fun p1 => (bx ((if (v_111 x5 (nI k)) = 0 then p1 else (if (v_38 p1 (v_63 p1 r3 (nI k)) x2) = 0 then (if (v_111 x6 (nI k)) = 0 then (up2 p1 38 4 ((p1 38 4) + 1)) else (bx ((v_40 (up2 p1 38 4 ((p1 38 4) + 1)) (nI k) (v_22 (up2 p1 38 4 ((p1 38 4) + 1)) r3 (nI k)) x2) : WI) (fun p2 => p2))) else (up2 p1 38 5 ((p1 38 5) + 1)))) : WI) (fun p3 => p3)))
def gl_39_23 (I : WI) (x2 : Int32) (r3 : Nat) (x5 : Int32) (x6 : Int32) (N : Nat) : Prop := ((∀ k, k < N → bx (lp_39_23 I x2 r3 x5 x6 k) (fun p1 => (((p1 r3 8) = (I r3 8)) ∧ (¬ ((v_111 x5 (nI k)) = 0) → ((g_63 p1 r3 (nI k)) ∧ ((g_38 p1 x2) ∧ (((v_38 p1 (v_63 p1 r3 (nI k)) x2) = 0) → (¬ ((v_111 x6 (nI k)) = 0) → ((g_22 (up2 p1 38 4 ((p1 38 4) + 1)) r3 (nI k)) ∧ (g_40 (up2 p1 38 4 ((p1 38 4) + 1)) (nI k) (v_22 (up2 p1 38 4 ((p1 38 4) + 1)) r3 (nI k)))))))))))) ∧ (bx (lp_39_23 I x2 r3 x5 x6 N) (fun p1 => (p1 r3 8) = (I r3 8))))
theorem lw_39_23 {l : LX} {d : Nat} {P : RP} {I : WI} {F : WF} {L : WL} {t : Nat} {x2 : Int32} {r3 : Nat} {x5 : Int32} {x6 : Int32} (hr3 : isS r3) (hgl : gl_39_23 I x2 r3 x5 x6 ((I r3 8).toNatClampNeg)) (hx : ∀ p1 : WI, p1 = lp_39_23 I x2 r3 x5 x6 ((I r3 8).toNatClampNeg) → Wp l 39 (d + 4) 0 0 P 0 0 110 [] [] SH (p1, F, L, RT t)) : Wp l 39 (d + 4) 0 0 P 0 0 23 [(0, .ref 38), (2, .int x2), (3, .ref r3), (4, .ref 35), (5, .int x5), (6, .int x6), (7, .int 0)] [] SH (I, F, L, RT t) := by
  obtain ⟨hin, hend⟩ := hgl
  have loop : ∀ m k, k + m = (I r3 8).toNatClampNeg → ∀ p1 : WI, p1 = lp_39_23 I x2 r3 x5 x6 k → Wp l 39 (d + 4) 0 0 P 0 0 23 [(0, .ref 38), (2, .int x2), (3, .ref r3), (4, .ref 35), (5, .int x5), (6, .int x6), (7, .int (nI k))] [] SH (p1, F, L, RT t) := by
    intro m
    induction m with
    | zero =>
      intro k hk p1 hs
      obtain rfl : k = (I r3 8).toNatClampNeg := by omega
      have hE := bx_un hs hend
      exact bk_39_23 hr3 (fun _ => hx _ hs) (fun h => absurd ((show (p1 r3 8) ≤ (nI ((I r3 8).toNatClampNeg)) from by rw [show (p1 r3 8) = (I r3 8) from hE]; exact (le_cl (Nat.le_refl _)).mpr rfl)) h)
    | succ m ih =>
      intro k hk p1 hs
      have hk2 : k < (I r3 8).toNatClampNeg := by omega
      have ih := ih (k + 1) (by omega)
      rw [nI_succ] at ih
      have he := bx_eq hs (lp_39_23.eq_2 ..).symm
      have hg := bx_un hs (hin k hk2)
      have hE : (p1 r3 8) = (I r3 8) := hg.1
      have hg := hg.2
      refine bk_39_23 hr3 (fun h => absurd ((le_cl (by omega)).mp (by rw [show (p1 r3 8) = (I r3 8) from hE] at h; exact h)) (by omega)) (fun _ => ?_)
      refine bk_39_32 (cc_111 (d := d + 3) ) ?_
      have hgX := hg
      obtain ⟨X1, hX1⟩ : ∃ r : WI, r = (if (v_111 x5 (nI k)) = 0 then p1 else (if (v_38 p1 (v_63 p1 r3 (nI k)) x2) = 0 then (if (v_111 x6 (nI k)) = 0 then (up2 p1 38 4 ((p1 38 4) + 1)) else (bx ((v_40 (up2 p1 38 4 ((p1 38 4) + 1)) (nI k) (v_22 (up2 p1 38 4 ((p1 38 4) + 1)) r3 (nI k)) x2) : WI) (fun p2 => p2))) else (up2 p1 38 5 ((p1 38 5) + 1)))) := ⟨_, rfl⟩
      have J1 : ∀ p3 : WI, p3 = X1 → Wp l 39 (d + 4) 0 0 P 0 0 104 [(0, .ref 38), (2, .int x2), (3, .ref r3), (4, .ref 35), (5, .int x5), (6, .int x6), (7, .int (nI k))] [] SH (p3, F, L, RT t) := by
        intro p3 hr
        have hr := hr.trans hX1
        have he := bx_eq hr he
        refine bk_39_104 ?_
        exact ih _ he
      have he := hX1.symm
      have hg := hgX
      refine bk_39_39 (fun h4 => ?_) (fun h4 => ?_)
      · have he := ite_p h4 he
        exact J1 _ he
      · have he := ite_n h4 he
        have hg := hg h4
        obtain ⟨k5, hg⟩ := hg
        refine bk_39_42 hr3 (cc_63 (d := d + 0) hr3 k5) ?_
        obtain ⟨k6, hg⟩ := hg
        refine bk_39_49 (cc_38 (d := d + 2)  k6) ?_
        refine bk_39_53 (fun h7 => ?_) (fun h7 => ?_)
        · have he := ite_p h7 he
          have hg := hg h7
          refine bk_39_69 (cc_111 (d := d + 3) ) ?_
          refine bk_39_86 (fun h9 => ?_) (fun h9 => ?_)
          · have he := ite_p h9 he
            exact J1 _ he
          · have he := ite_n h9 he
            have hg := hg h9
            obtain ⟨k10, hg⟩ := hg
            refine bk_39_89 (cc_22 (d := d + 1) hr3 k10) ?_
            have k11 := hg
            refine bk_39_100 (cq_V_I (cc_40 (d := d + 2)  k11)) ?_
            rintro _ _ _ _ ⟨p2, hr, rfl, rfl, rfl, rfl⟩
            have he := bx_eq hr he
            exact J1 _ he
        · have he := ite_n h7 he
          refine bk_39_56 ?_
          exact J1 _ he
  exact loop _ 0 (by omega) _ rfl
/-- VectorShelf$Reading.readCell(IILVectorShelf$Shelf;LVectorShelf$Judge;)V -/
def v_39 (I : WI) (x1 : Int32) (x2 : Int32) (r3 : Nat) : WI := (bx ((lp_39_23 I x2 r3 ((v_66 I r3 x1) &&& (I r3 12)) (v_21 I r3) ((I r3 8).toNatClampNeg)) : WI) (fun p4 => p4))
def g_39 (I : WI) (x1 : Int32) (x2 : Int32) (r3 : Nat) : Prop := ((g_66 I r3 x1) ∧ (gl_39_23 I x2 r3 ((v_66 I r3 x1) &&& (I r3 12)) (v_21 I r3) ((I r3 8).toNatClampNeg)))
theorem cc_39 {l : LX} {d : Nat} {I : WI} {F : WF} {L : WL} {t : Nat} {x1 : Int32} {x2 : Int32} {r3 : Nat} (hr3 : isS r3) (hg : g_39 I x1 x2 r3) : Con l 39 (d + 4) 0 0 [.ref 38, .int x1, .int x2, .ref r3, .ref 35] SH (I, F, L, RT t) (po_V_I F L t (v_39 I x1 x2 r3)) := by
  refine cn_39 ?_
  obtain ⟨T1, hT1⟩ : ∃ r : WI, r = (v_39 I x1 x2 r3) := ⟨_, rfl⟩
  rw [← hT1]
  have he := (hT1.trans (v_39.eq_1 ..)).symm
  have hg := Eq.mp (g_39.eq_1 ..) hg
  obtain ⟨k1, hg⟩ := hg
  refine bk_39_0 hr3 (cc_66 (d := d + 3) hr3 k1) ?_
  refine bk_39_5 hr3 (cc_21 (d := d + 3) hr3) ?_
  refine bk_39_18 ?_
  have hgX := hg
  refine lw_39_23 (d := d) hr3 hgX (fun p4 hr => ?_)
  have he := bx_eq hr he
  exact bk_39_110 (rl_V_I he)
/-- VectorShelf$Shelf.addVector(IIII)I -/
def v_55 (I : WI) (b : Nat) (x1 : Int32) (x2 : Int32) (x3 : Int32) (x4 : Int32) : Int32 × WI := (if (I b 8) < 12 then (bx ((v_56 (up2 (up2 I b 8 ((I b 8) + 1)) (b + 8) (I b 8).toNatClampNeg x4) b (I b 8) (1 : Int32)) : WI) (fun p1 => (bx ((v_57 p1 b (I b 8) x1 x2 x3) : WI) (fun p2 => ((I b 8), p2))))) else ((-4), I))
def g_55 (I : WI) (b : Nat) (x1 : Int32) (x2 : Int32) (x3 : Int32) (x4 : Int32) : Prop := (((I b 8) < 12) → ((vp_in (I b 8) 12) ∧ (bx ((v_56 (up2 (up2 I b 8 ((I b 8) + 1)) (b + 8) (I b 8).toNatClampNeg x4) b (I b 8) (1 : Int32)) : WI) (fun p1 => (g_57 p1 b (I b 8) x1 x2 x3)))))
theorem cc_55 {l : LX} {d : Nat} {I : WI} {F : WF} {L : WL} {t : Nat} {b : Nat} {x1 : Int32} {x2 : Int32} {x3 : Int32} {x4 : Int32} (hb : isS b) (hg : g_55 I b x1 x2 x3 x4) : Con l 55 (d + 3) 0 0 [.ref b, .int x1, .int x2, .int x3, .int x4] SH (I, F, L, RT t) (po_I_I F L t (v_55 I b x1 x2 x3 x4)) := by
  refine cn_55 ?_
  obtain ⟨T1, hT1⟩ : ∃ r : Int32 × WI, r = (v_55 I b x1 x2 x3 x4) := ⟨_, rfl⟩
  rw [← hT1]
  have he := (hT1.trans (v_55.eq_1 ..)).symm
  have hg := Eq.mp (g_55.eq_1 ..) hg
  refine bk_55_0 hb (fun h1 => ?_) (fun h1 => ?_)
  · have he := ite_p h1 he
    have hg := hg h1
    obtain ⟨k2, hg⟩ := hg
    refine bk_55_12 hb k2 (cq_V_I (cc_56 (d := d + 2) hb)) ?_
    rintro _ _ _ _ ⟨p1, hr, rfl, rfl, rfl, rfl⟩
    have he := bx_eq hr he
    have hg := bx_un hr hg
    have k4 := hg
    refine bk_55_44 hb (cq_V_I (cc_57 (d := d + 0) hb k4)) ?_
    rintro _ _ _ _ ⟨p2, hr, rfl, rfl, rfl, rfl⟩
    have he := bx_eq hr he
    exact bk_55_53 (rl_I_I he)
  · have he := ite_n h1 he
    exact bk_55_9 (rl_I_I he)
end
