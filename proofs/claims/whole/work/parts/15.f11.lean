section
/-- the loop at 8 of VectorShelf$Judge.valueOf -/
def lp_13_8 (r1 : Nat) (x3 : Int32) (r4 : Nat) (x5 : Int32) : Nat → Int32 → WI → WI
  | 0, x6, I => I
  | k + 1, x6, I => (if x3 ≤ x6 then I else (if 160 ≤ x6 then I else (bx ((if (I (r1 + 1) x6.toNatClampNeg) < 0 then (if (I (r1 + 1) x6.toNatClampNeg) < (-6) then (if (I (r1 + 1) x6.toNatClampNeg) < (-8) then (bx ((v_18 I (I (r1 + 1) x6.toNatClampNeg)) : WI) (fun p1 => p1)) else (bx ((v_16 I (I (r1 + 1) x6.toNatClampNeg)) : WI) (fun p2 => p2))) else (bx ((v_14 I (v_15 I (I (r1 + 1) x6.toNatClampNeg) r4 x5)) : WI) (fun p3 => p3))) else (bx ((v_14 I (I (r1 + 1) x6.toNatClampNeg)) : WI) (fun p4 => p4))) : WI) (fun p5 => (lp_13_8 r1 x3 r4 x5 k (x6 + 1) p5)))))
def gl_13_8 (r1 : Nat) (x3 : Int32) (r4 : Nat) (x5 : Int32) : Nat → Int32 → WI → Prop
  | 0, _, _ => False
  | k + 1, x6, I => (¬ (x3 ≤ x6) → (¬ (160 ≤ x6) → ((vp_in x6 160) ∧ (((((I (r1 + 1) x6.toNatClampNeg) < 0) → ((((I (r1 + 1) x6.toNatClampNeg) < (-6)) → ((((I (r1 + 1) x6.toNatClampNeg) < (-8)) → (g_18 I)) ∧ (¬ ((I (r1 + 1) x6.toNatClampNeg) < (-8)) → (g_16 I (I (r1 + 1) x6.toNatClampNeg))))) ∧ (¬ ((I (r1 + 1) x6.toNatClampNeg) < (-6)) → ((g_15 (I (r1 + 1) x6.toNatClampNeg) x5) ∧ (g_14 I))))) ∧ (¬ ((I (r1 + 1) x6.toNatClampNeg) < 0) → (g_14 I))) ∧ (bx ((if (I (r1 + 1) x6.toNatClampNeg) < 0 then (if (I (r1 + 1) x6.toNatClampNeg) < (-6) then (if (I (r1 + 1) x6.toNatClampNeg) < (-8) then (bx ((v_18 I (I (r1 + 1) x6.toNatClampNeg)) : WI) (fun p1 => p1)) else (bx ((v_16 I (I (r1 + 1) x6.toNatClampNeg)) : WI) (fun p2 => p2))) else (bx ((v_14 I (v_15 I (I (r1 + 1) x6.toNatClampNeg) r4 x5)) : WI) (fun p3 => p3))) else (bx ((v_14 I (I (r1 + 1) x6.toNatClampNeg)) : WI) (fun p4 => p4))) : WI) (fun p5 => (gl_13_8 r1 x3 r4 x5 k (x6 + 1) p5)))))))
theorem lw_13_8 {l : LX} {d : Nat} {P : RP} {F : WF} {L : WL} {t : Nat} {r1 : Nat} {x3 : Int32} {r4 : Nat} {x5 : Int32} (hr1 : isT r1) (hr4 : isS r4) : ∀ k : Nat, ∀ (x6 : Int32) (I : WI), gl_13_8 r1 x3 r4 x5 k x6 I → (∀ r : WI, r = lp_13_8 r1 x3 r4 x5 k x6 I → Wp l 13 (d + 3) 0 0 P 0 0 98 [(0, .ref 35)] [] SH (r, F, L, RT t)) → Wp l 13 (d + 3) 0 0 P 0 0 8 [(0, .ref 35), (1, .ref r1), (3, .int x3), (4, .ref r4), (5, .int x5), (6, .int x6)] [] SH (I, F, L, RT t) := by
  intro k
  induction k with
  | zero =>
    intro x6 I hg hx
    exact hg.elim
  | succ k ih =>
    intro x6 I hg hx
    have hg := Eq.mp (gl_13_8.eq_2 ..) hg
    obtain ⟨T1, hT1⟩ : ∃ r : WI, r = lp_13_8 r1 x3 r4 x5 (k + 1) x6 I := ⟨_, rfl⟩
    have hx : ∀ r : WI, r = T1 → Wp l 13 (d + 3) 0 0 P 0 0 98 [(0, .ref 35)] [] SH (r, F, L, RT t) := fun r hr => hx r (hr.trans hT1)
    have he := (hT1.trans (lp_13_8.eq_2 ..)).symm
    refine bk_13_8 (fun h1 => ?_) (fun h1 => ?_)
    · have he := ite_p h1 he
      exact hx _ he
    · have he := ite_n h1 he
      have hg := hg h1
      refine bk_13_14 hr1 (fun h2 => ?_) (fun h2 => ?_)
      · have he := ite_p h2 he
        exact hx _ he
      · have he := ite_n h2 he
        have hg := hg h2
        obtain ⟨k3, hg⟩ := hg
        obtain ⟨hgX, hg⟩ := hg
        obtain ⟨X1, hX1⟩ : ∃ r : WI, r = (if (I (r1 + 1) x6.toNatClampNeg) < 0 then (if (I (r1 + 1) x6.toNatClampNeg) < (-6) then (if (I (r1 + 1) x6.toNatClampNeg) < (-8) then (bx ((v_18 I (I (r1 + 1) x6.toNatClampNeg)) : WI) (fun p1 => p1)) else (bx ((v_16 I (I (r1 + 1) x6.toNatClampNeg)) : WI) (fun p2 => p2))) else (bx ((v_14 I (v_15 I (I (r1 + 1) x6.toNatClampNeg) r4 x5)) : WI) (fun p3 => p3))) else (bx ((v_14 I (I (r1 + 1) x6.toNatClampNeg)) : WI) (fun p4 => p4))) := ⟨_, rfl⟩
        have J1 : ∀ p5 : WI, p5 = X1 → Wp l 13 (d + 3) 0 0 P 0 0 92 [(0, .ref 35), (1, .ref r1), (3, .int x3), (4, .ref r4), (5, .int x5), (6, .int x6)] [] SH (p5, F, L, RT t) := by
          intro p5 hr
          have hr := hr.trans hX1
          have he := bx_eq hr he
          have hg := bx_un hr hg
          refine bk_13_92 ?_
          exact ih _ _ hg (fun r hr => hx r (hr.trans he))
        have he := hX1.symm
        have hg := hgX
        refine bk_13_24 hr1 k3 (fun h4 => ?_) (fun h4 => ?_)
        · have he := ite_p h4 he
          have hg := hg.1 h4
          refine bk_13_47 (fun h5 => ?_) (fun h5 => ?_)
          · have he := ite_p h5 he
            have hg := hg.1 h5
            refine bk_13_70 (fun h6 => ?_) (fun h6 => ?_)
            · have he := ite_p h6 he
              have hg := hg.1 h6
              have k7 := hg
              refine bk_13_86 (cq_V_I (cc_18 (d := d + 0)  k7)) ?_
              rintro _ _ _ _ ⟨p1, hr, rfl, rfl, rfl, rfl⟩
              have he := bx_eq hr he
              exact J1 _ he
            · have he := ite_n h6 he
              have hg := hg.2 h6
              have k8 := hg
              refine bk_13_77 (cq_V_I (cc_16 (d := d + 1)  k8)) ?_
              rintro _ _ _ _ ⟨p2, hr, rfl, rfl, rfl, rfl⟩
              have he := bx_eq hr he
              refine bk_13_83 ?_
              exact J1 _ he
          · have he := ite_n h5 he
            have hg := hg.2 h5
            obtain ⟨k9, hg⟩ := hg
            refine bk_13_54 (cc_15 (d := d + 2) hr4 k9) ?_
            have k10 := hg
            refine bk_13_64 (cq_V_I (cc_14 (d := d + 2)  k10)) ?_
            rintro _ _ _ _ ⟨p3, hr, rfl, rfl, rfl, rfl⟩
            have he := bx_eq hr he
            refine bk_13_67 ?_
            exact J1 _ he
        · have he := ite_n h4 he
          have hg := hg.2 h4
          have k11 := hg
          refine bk_13_38 (cq_V_I (cc_14 (d := d + 2)  k11)) ?_
          rintro _ _ _ _ ⟨p4, hr, rfl, rfl, rfl, rfl⟩
          have he := bx_eq hr he
          refine bk_13_44 ?_
          exact J1 _ he
/-- VectorShelf$Judge.valueOf(LVectorShelf$Text;IILVectorShelf$Shelf;I)I -/
def v_13 (I : WI) (r1 : Nat) (x2 : Int32) (x3 : Int32) (r4 : Nat) (x5 : Int32) : Int32 × WI := (bx ((lp_13_8 r1 x3 r4 x5 400 x2 (up2 I 35 1 0)) : WI) (fun p6 => (if (p6 35 1) ≤ 0 then (0, p6) else ((p6 36 0), p6))))
def g_13 (I : WI) (r1 : Nat) (x2 : Int32) (x3 : Int32) (r4 : Nat) (x5 : Int32) : Prop := (gl_13_8 r1 x3 r4 x5 400 x2 (up2 I 35 1 0))
theorem cc_13 {l : LX} {d : Nat} {I : WI} {F : WF} {L : WL} {t : Nat} {r1 : Nat} {x2 : Int32} {x3 : Int32} {r4 : Nat} {x5 : Int32} (hr1 : isT r1) (hr4 : isS r4) (hg : g_13 I r1 x2 x3 r4 x5) : Con l 13 (d + 3) 0 0 [.ref 35, .ref r1, .int x2, .int x3, .ref r4, .int x5] SH (I, F, L, RT t) (po_I_I F L t (v_13 I r1 x2 x3 r4 x5)) := by
  refine cn_13 ?_
  obtain ⟨T1, hT1⟩ : ∃ r : Int32 × WI, r = (v_13 I r1 x2 x3 r4 x5) := ⟨_, rfl⟩
  rw [← hT1]
  have he := (hT1.trans (v_13.eq_1 ..)).symm
  have hg := Eq.mp (g_13.eq_1 ..) hg
  refine bk_13_0 ?_
  have hgX := hg
  refine lw_13_8 (d := d) hr1 hr4 400 _ _ hgX (fun p6 hr => ?_)
  have he := bx_eq hr he
  refine bk_13_98 (fun h12 => ?_) (fun h12 => ?_)
  · have he := ite_p h12 he
    refine bk_13_114 ?_
    exact bk_13_115 (rl_I_I he)
  · have he := ite_n h12 he
    refine bk_13_105 ?_
    exact bk_13_115 (rl_I_I he)
/-- VectorShelf$Judge.far(LVectorShelf$Shelf;I)I -/
def v_22 (I : WI) (r1 : Nat) (x2 : Int32) : Int32 := (bx ((v_29 I (r1 + 1) (v_285 ((I (r1 + 7) (3 * x2).toNatClampNeg) - (I (r1 + 3) 0))) (v_285 ((I (r1 + 7) ((3 * x2) + 1).toNatClampNeg) - (I (r1 + 3) 1))) (v_285 ((I (r1 + 7) ((3 * x2) + 2).toNatClampNeg) - (I (r1 + 3) 2)))) : Int32) (fun p1 => (p1 + (I 37 x2.toNatClampNeg))))
def g_22 (I : WI) (r1 : Nat) (x2 : Int32) : Prop := ((vp_in (3 * x2) 36) ∧ ((vp_in ((3 * x2) + 1) 36) ∧ ((vp_in ((3 * x2) + 2) 36) ∧ ((g_29 I (r1 + 1) (v_285 ((I (r1 + 7) (3 * x2).toNatClampNeg) - (I (r1 + 3) 0))) (v_285 ((I (r1 + 7) ((3 * x2) + 1).toNatClampNeg) - (I (r1 + 3) 1))) (v_285 ((I (r1 + 7) ((3 * x2) + 2).toNatClampNeg) - (I (r1 + 3) 2)))) ∧ (bx ((v_29 I (r1 + 1) (v_285 ((I (r1 + 7) (3 * x2).toNatClampNeg) - (I (r1 + 3) 0))) (v_285 ((I (r1 + 7) ((3 * x2) + 1).toNatClampNeg) - (I (r1 + 3) 1))) (v_285 ((I (r1 + 7) ((3 * x2) + 2).toNatClampNeg) - (I (r1 + 3) 2)))) : Int32) (fun p1 => (vp_in x2 12)))))))
theorem cc_22 {l : LX} {d : Nat} {I : WI} {F : WF} {L : WL} {t : Nat} {r1 : Nat} {x2 : Int32} (hr1 : isS r1) (hg : g_22 I r1 x2) : Con l 22 (d + 2) 0 0 [.ref 35, .ref r1, .int x2] SH (I, F, L, RT t) (rI (v_22 I r1 x2) (I, F, L, RT t)) := by
  refine cn_22 ?_
  obtain ⟨T1, hT1⟩ : ∃ r : Int32, r = (v_22 I r1 x2) := ⟨_, rfl⟩
  rw [← hT1]
  have he := (hT1.trans (v_22.eq_1 ..)).symm
  have hg := Eq.mp (g_22.eq_1 ..) hg
  obtain ⟨k1, hg⟩ := hg
  refine bk_22_0 hr1 k1 (cc_285 (d := d + 1) ) ?_
  obtain ⟨k3, hg⟩ := hg
  refine bk_22_24 hr1 k3 (cc_285 (d := d + 1) ) ?_
  obtain ⟨k5, hg⟩ := hg
  refine bk_22_42 hr1 k5 (cc_285 (d := d + 1) ) ?_
  obtain ⟨k7, hg⟩ := hg
  obtain ⟨p1, hr⟩ : ∃ q : Int32, q = (v_29 I (r1 + 1) (v_285 ((I (r1 + 7) (3 * x2).toNatClampNeg) - (I (r1 + 3) 0))) (v_285 ((I (r1 + 7) ((3 * x2) + 1).toNatClampNeg) - (I (r1 + 3) 1))) (v_285 ((I (r1 + 7) ((3 * x2) + 2).toNatClampNeg) - (I (r1 + 3) 2)))) := ⟨_, rfl⟩
  have he := bx_eq hr he
  have hg := bx_un hr hg
  refine bk_22_60 hr1 (show Con l 29 _ 0 0 _ SH _ (rI p1 _) from by rw [hr]; exact (cc_29 (d := d + 0) (isM_S hr1) k7)) ?_
  have k8 := hg
  exact bk_22_63 k8 (rl_p_I he)
/-- the loop at 14 of VectorShelf$Judge.first -/
def lp_23_14 (I : WI) (r1 : Nat) (x2 : Int32) (a3 : Int32) (a4 : Int32) : Nat → Int32 × Int32
  | 0 => (a3, a4)
  | k + 1 => bx (lp_23_14 I r1 x2 a3 a4 k) (fun p1 => (bx ((if (v_111 x2 (nI k)) = 0 then (p1.1, p1.2) else (if p1.1 = (-1) then ((nI k), (v_22 I r1 (nI k))) else (if p1.2 ≤ (v_22 I r1 (nI k)) then (p1.1, p1.2) else ((nI k), (v_22 I r1 (nI k)))))) : Int32 × Int32) (fun p2 => (p2.1, p2.2))))
def gl_23_14 (I : WI) (r1 : Nat) (x2 : Int32) (a3 : Int32) (a4 : Int32) (N : Nat) : Prop := (∀ k, k < N → bx (lp_23_14 I r1 x2 a3 a4 k) (fun p1 => (¬ ((v_111 x2 (nI k)) = 0) → (g_22 I r1 (nI k)))))
theorem lw_23_14 {l : LX} {d : Nat} {P : RP} {I : WI} {F : WF} {L : WL} {t : Nat} {r1 : Nat} {x2 : Int32} {a3 : Int32} {a4 : Int32} (hr1 : isS r1) (hgl : gl_23_14 I r1 x2 a3 a4 ((I r1 8).toNatClampNeg)) (hx : ∀ p1 : Int32 × Int32, p1 = lp_23_14 I r1 x2 a3 a4 ((I r1 8).toNatClampNeg) → Wp l 23 (d + 3) 0 0 P 0 0 66 [(3, .int p1.1)] [] SH (I, F, L, RT t)) : Wp l 23 (d + 3) 0 0 P 0 0 14 [(0, .ref 35), (1, .ref r1), (2, .int x2), (3, .int a3), (4, .int a4), (5, .int 0)] [] SH (I, F, L, RT t) := by
  have hin := hgl
  have loop : ∀ m k, k + m = (I r1 8).toNatClampNeg → ∀ p1 : Int32 × Int32, p1 = lp_23_14 I r1 x2 a3 a4 k → Wp l 23 (d + 3) 0 0 P 0 0 14 [(0, .ref 35), (1, .ref r1), (2, .int x2), (3, .int p1.1), (4, .int p1.2), (5, .int (nI k))] [] SH (I, F, L, RT t) := by
    intro m
    induction m with
    | zero =>
      intro k hk p1 hs
      obtain rfl : k = (I r1 8).toNatClampNeg := by omega
      exact bk_23_14 hr1 (fun _ => hx _ hs) (fun h => absurd ((le_cl (Nat.le_refl _)).mpr rfl) h)
    | succ m ih =>
      intro k hk p1 hs
      have hk2 : k < (I r1 8).toNatClampNeg := by omega
      have ih := ih (k + 1) (by omega)
      rw [nI_succ] at ih
      have he := bx_eq hs (lp_23_14.eq_2 ..).symm
      have hg := bx_un hs (hin k hk2)
      refine bk_23_14 hr1 (fun h => absurd ((le_cl (by omega)).mp h) (by omega)) (fun _ => ?_)
      refine bk_23_23 (cc_111 (d := d + 2) ) ?_
      have hgX := hg
      obtain ⟨X1, hX1⟩ : ∃ r : Int32 × Int32, r = (if (v_111 x2 (nI k)) = 0 then (p1.1, p1.2) else (if p1.1 = (-1) then ((nI k), (v_22 I r1 (nI k))) else (if p1.2 ≤ (v_22 I r1 (nI k)) then (p1.1, p1.2) else ((nI k), (v_22 I r1 (nI k)))))) := ⟨_, rfl⟩
      have J1 : ∀ p2 : Int32 × Int32, p2 = X1 → Wp l 23 (d + 3) 0 0 P 0 0 60 [(0, .ref 35), (1, .ref r1), (2, .int x2), (3, .int p2.1), (4, .int p2.2), (5, .int (nI k))] [] SH (I, F, L, RT t) := by
        intro p2 hr
        have hr := hr.trans hX1
        have he := bx_eq hr he
        refine bk_23_60 ?_
        exact ih _ he
      have he := hX1.symm
      have hg := hgX
      refine bk_23_29 (fun h3 => ?_) (fun h3 => ?_)
      · have he := ite_p h3 he
        exact J1 _ he
      · have he := ite_n h3 he
        have hg := hg h3
        have k4 := hg
        refine bk_23_32 (cc_22 (d := d + 0) hr1 k4) ?_
        refine bk_23_39 (fun h5 => ?_) (fun h5 => ?_)
        · have he := ite_p h5 he
          refine bk_23_53 ?_
          exact J1 _ he
        · have he := ite_n h5 he
          refine bk_23_46 (fun h6 => ?_) (fun h6 => ?_)
          · have he := ite_p h6 he
            exact J1 _ he
          · have he := ite_n h6 he
            refine bk_23_53 ?_
            exact J1 _ he
  exact loop _ 0 (by omega) _ rfl
/-- VectorShelf$Judge.first(LVectorShelf$Shelf;)I -/
def v_23 (I : WI) (r1 : Nat) : Int32 := (bx ((lp_23_14 I r1 (v_21 I r1) ((-1) : Int32) (0 : Int32) ((I r1 8).toNatClampNeg)) : Int32 × Int32) (fun p3 => p3.1))
def g_23 (I : WI) (r1 : Nat) : Prop := (gl_23_14 I r1 (v_21 I r1) ((-1) : Int32) (0 : Int32) ((I r1 8).toNatClampNeg))
theorem cc_23 {l : LX} {d : Nat} {I : WI} {F : WF} {L : WL} {t : Nat} {r1 : Nat} (hr1 : isS r1) (hg : g_23 I r1) : Con l 23 (d + 3) 0 0 [.ref 35, .ref r1] SH (I, F, L, RT t) (rI (v_23 I r1) (I, F, L, RT t)) := by
  refine cn_23 ?_
  obtain ⟨T1, hT1⟩ : ∃ r : Int32, r = (v_23 I r1) := ⟨_, rfl⟩
  rw [← hT1]
  have he := (hT1.trans (v_23.eq_1 ..)).symm
  have hg := Eq.mp (g_23.eq_1 ..) hg
  refine bk_23_0 (cc_21 (d := d + 2) hr1) ?_
  refine bk_23_5 ?_
  have hgX := hg
  refine lw_23_14 (d := d) hr1 hgX (fun p3 hr => ?_)
  have he := bx_eq hr he
  exact bk_23_66 (rl_p_I he)
/-- the loop at 4 of VectorShelf$Reading.boxedCells -/
def lp_36_4 (I : WI) (F : WF) (r1 : Nat) (a2 : Int32) : Nat → Int32 × WF
  | 0 => (a2, F)
  | k + 1 => bx (lp_36_4 I F r1 a2 k) (fun p1 => (bx ((if ¬ (v_67 I r1 (nI k)) = 0 then (p1.1, p1.2) else ((p1.1 ||| (1 <<< ((nI k) &&& 31))), (up2 p1.2 39 (nI k).toNatClampNeg (v_68 I r1 (nI k))))) : Int32 × WF) (fun p2 => (p2.1, p2.2))))
def gl_36_4 (I : WI) (F : WF) (r1 : Nat) (a2 : Int32) (N : Nat) : Prop := (∀ k, k < N → bx (lp_36_4 I F r1 a2 k) (fun p1 => ((g_67 (nI k)) ∧ (¬ (¬ (v_67 I r1 (nI k)) = 0) → ((g_68 I r1 (nI k)) ∧ (vp_in (nI k) 4))))))
theorem lw_36_4 {l : LX} {d : Nat} {P : RP} {I : WI} {F : WF} {L : WL} {t : Nat} {r1 : Nat} {a2 : Int32} (hr1 : isS r1) (hgl : gl_36_4 I F r1 a2 ((I r1 4).toNatClampNeg)) (hx : ∀ p1 : Int32 × WF, p1 = lp_36_4 I F r1 a2 ((I r1 4).toNatClampNeg) → Wp l 36 (d + 3) 0 0 P 0 0 43 [(2, .int p1.1)] [] SH (I, p1.2, L, RT t)) : Wp l 36 (d + 3) 0 0 P 0 0 4 [(0, .ref 38), (1, .ref r1), (2, .int a2), (3, .int 0)] [] SH (I, F, L, RT t) := by
  have hin := hgl
  have loop : ∀ m k, k + m = (I r1 4).toNatClampNeg → ∀ p1 : Int32 × WF, p1 = lp_36_4 I F r1 a2 k → Wp l 36 (d + 3) 0 0 P 0 0 4 [(0, .ref 38), (1, .ref r1), (2, .int p1.1), (3, .int (nI k))] [] SH (I, p1.2, L, RT t) := by
    intro m
    induction m with
    | zero =>
      intro k hk p1 hs
      obtain rfl : k = (I r1 4).toNatClampNeg := by omega
      exact bk_36_4 hr1 (fun _ => hx _ hs) (fun h => absurd ((le_cl (Nat.le_refl _)).mpr rfl) h)
    | succ m ih =>
      intro k hk p1 hs
      have hk2 : k < (I r1 4).toNatClampNeg := by omega
      have ih := ih (k + 1) (by omega)
      rw [nI_succ] at ih
      have he := bx_eq hs (lp_36_4.eq_2 ..).symm
      have hg := bx_un hs (hin k hk2)
      refine bk_36_4 hr1 (fun h => absurd ((le_cl (by omega)).mp h) (by omega)) (fun _ => ?_)
      obtain ⟨k1, hg⟩ := hg
      refine bk_36_12 hr1 (cc_67 (d := d + 2) hr1 k1) ?_
      have hgX := hg
      obtain ⟨X1, hX1⟩ : ∃ r : Int32 × WF, r = (if ¬ (v_67 I r1 (nI k)) = 0 then (p1.1, p1.2) else ((p1.1 ||| (1 <<< ((nI k) &&& 31))), (up2 p1.2 39 (nI k).toNatClampNeg (v_68 I r1 (nI k))))) := ⟨_, rfl⟩
      have J1 : ∀ p2 : Int32 × WF, p2 = X1 → Wp l 36 (d + 3) 0 0 P 0 0 37 [(0, .ref 38), (1, .ref r1), (2, .int p2.1), (3, .int (nI k))] [] SH (I, p2.2, L, RT t) := by
        intro p2 hr
        have hr := hr.trans hX1
        have he := bx_eq hr he
        refine bk_36_37 ?_
        exact ih _ he
      have he := hX1.symm
      have hg := hgX
      refine bk_36_17 (fun h2 => ?_) (fun h2 => ?_)
      · have he := ite_p h2 he
        exact J1 _ he
      · have he := ite_n h2 he
        have hg := hg h2
        obtain ⟨k3, hg⟩ := hg
        refine bk_36_20 hr1 (cc_68 (d := d + 0) hr1 k3) ?_
        have k4 := hg
        refine bk_36_30 k4 ?_
        exact J1 _ he
  exact loop _ 0 (by omega) _ rfl
/-- VectorShelf$Reading.boxedCells(LVectorShelf$Shelf;)I -/
def v_36 (I : WI) (F : WF) (r1 : Nat) : Int32 × WF := (bx ((lp_36_4 I F r1 (0 : Int32) ((I r1 4).toNatClampNeg)) : Int32 × WF) (fun p3 => (p3.1, p3.2)))
def g_36 (I : WI) (F : WF) (r1 : Nat) : Prop := (gl_36_4 I F r1 (0 : Int32) ((I r1 4).toNatClampNeg))
theorem cc_36 {l : LX} {d : Nat} {I : WI} {F : WF} {L : WL} {t : Nat} {r1 : Nat} (hr1 : isS r1) (hg : g_36 I F r1) : Con l 36 (d + 3) 0 0 [.ref 38, .ref r1] SH (I, F, L, RT t) (po_I_F I L t (v_36 I F r1)) := by
  refine cn_36 ?_
  obtain ⟨T1, hT1⟩ : ∃ r : Int32 × WF, r = (v_36 I F r1) := ⟨_, rfl⟩
  rw [← hT1]
  have he := (hT1.trans (v_36.eq_1 ..)).symm
  have hg := Eq.mp (g_36.eq_1 ..) hg
  refine bk_36_0 ?_
  have hgX := hg
  refine lw_36_4 (d := d) hr1 hgX (fun p3 hr => ?_)
  have he := bx_eq hr he
  exact bk_36_43 (rl_I_F he)
/-- VectorShelf$Shelf.putAt(IIII)V -/
def v_57 (I : WI) (b : Nat) (x1 : Int32) (x2 : Int32) (x3 : Int32) (x4 : Int32) : WI := (bx ((v_60 (up2 (up2 (up2 I (b + 7) (3 * x1).toNatClampNeg x2) (b + 7) ((3 * x1) + 1).toNatClampNeg x3) (b + 7) ((3 * x1) + 2).toNatClampNeg x4) b x1 (v_58 (up2 (up2 (up2 I (b + 7) (3 * x1).toNatClampNeg x2) (b + 7) ((3 * x1) + 1).toNatClampNeg x3) (b + 7) ((3 * x1) + 2).toNatClampNeg x4) b x1)) : WI) (fun p1 => p1))
def g_57 (I : WI) (b : Nat) (x1 : Int32) (x2 : Int32) (x3 : Int32) (x4 : Int32) : Prop := ((vp_in (3 * x1) 36) ∧ ((vp_in ((3 * x1) + 1) 36) ∧ ((vp_in ((3 * x1) + 2) 36) ∧ ((g_58 (up2 (up2 (up2 I (b + 7) (3 * x1).toNatClampNeg x2) (b + 7) ((3 * x1) + 1).toNatClampNeg x3) (b + 7) ((3 * x1) + 2).toNatClampNeg x4) b x1) ∧ (g_60 (up2 (up2 (up2 I (b + 7) (3 * x1).toNatClampNeg x2) (b + 7) ((3 * x1) + 1).toNatClampNeg x3) (b + 7) ((3 * x1) + 2).toNatClampNeg x4) b x1 (v_58 (up2 (up2 (up2 I (b + 7) (3 * x1).toNatClampNeg x2) (b + 7) ((3 * x1) + 1).toNatClampNeg x3) (b + 7) ((3 * x1) + 2).toNatClampNeg x4) b x1))))))
theorem cc_57 {l : LX} {d : Nat} {I : WI} {F : WF} {L : WL} {t : Nat} {b : Nat} {x1 : Int32} {x2 : Int32} {x3 : Int32} {x4 : Int32} (hb : isS b) (hg : g_57 I b x1 x2 x3 x4) : Con l 57 (d + 2) 0 0 [.ref b, .int x1, .int x2, .int x3, .int x4] SH (I, F, L, RT t) (po_V_I F L t (v_57 I b x1 x2 x3 x4)) := by
  refine cn_57 ?_
  obtain ⟨T1, hT1⟩ : ∃ r : WI, r = (v_57 I b x1 x2 x3 x4) := ⟨_, rfl⟩
  rw [← hT1]
  have he := (hT1.trans (v_57.eq_1 ..)).symm
  have hg := Eq.mp (g_57.eq_1 ..) hg
  obtain ⟨k1, k2, k3, k4, hg⟩ := hg
  refine bk_57_0 hb k1 k2 k3 (cc_58 (d := d + 0) hb k4) ?_
  have k5 := hg
  refine bk_57_39 hb (cq_V_I (cc_60 (d := d + 0) hb k5)) ?_
  rintro _ _ _ _ ⟨p1, hr, rfl, rfl, rfl, rfl⟩
  have he := bx_eq hr he
  exact bk_57_42 (rl_V_I he)
/-- VectorShelf$Shelf.lowOfVector(I)F -/
def v_63 (I : WI) (b : Nat) (x1 : Int32) : UInt32 := (v_25 I (b + 1) (v_64 I b x1 (0 : Int32)) (v_64 I b x1 (1 : Int32)) (v_64 I b x1 (2 : Int32)))
def g_63 (I : WI) (b : Nat) (x1 : Int32) : Prop := ((g_64 I b x1 (0 : Int32)) ∧ ((g_64 I b x1 (1 : Int32)) ∧ ((g_64 I b x1 (2 : Int32)) ∧ (g_25 I (b + 1) (v_64 I b x1 (0 : Int32)) (v_64 I b x1 (1 : Int32)) (v_64 I b x1 (2 : Int32))))))
theorem cc_63 {l : LX} {d : Nat} {I : WI} {F : WF} {L : WL} {t : Nat} {b : Nat} {x1 : Int32} (hb : isS b) (hg : g_63 I b x1) : Con l 63 (d + 3) 0 0 [.ref b, .int x1] SH (I, F, L, RT t) (rF (v_63 I b x1) (I, F, L, RT t)) := by
  refine cn_63 ?_
  obtain ⟨T1, hT1⟩ : ∃ r : UInt32, r = (v_63 I b x1) := ⟨_, rfl⟩
  rw [← hT1]
  have he := (hT1.trans (v_63.eq_1 ..)).symm
  have hg := Eq.mp (g_63.eq_1 ..) hg
  obtain ⟨k1, hg⟩ := hg
  refine bk_63_0 hb (cc_64 (d := d + 0) hb k1) ?_
  obtain ⟨k2, hg⟩ := hg
  refine bk_63_10 hb (cc_64 (d := d + 0) hb k2) ?_
  obtain ⟨k3, hg⟩ := hg
  refine bk_63_16 hb (cc_64 (d := d + 0) hb k3) ?_
  have k4 := hg
  refine bk_63_22 hb (cc_25 (d := d + 1) (isM_S hb) k4) ?_
  exact bk_63_25 (rl_p_F he)
/-- the loop at 13 of VectorShelf$Shelf.tidyUp -/
def lp_72_13 (I : WI) (b : Nat) (x1 : Int32) : Nat → WI
  | 0 => I
  | k + 1 => bx (lp_72_13 I b x1 k) (fun p3 => (bx ((if ¬ (p3 (b + 9) (nI k).toNatClampNeg) = x1 then p3 else (bx ((v_60 p3 b (nI k) x1) : WI) (fun p4 => p4))) : WI) (fun p5 => p5)))
def gl_72_13 (I : WI) (b : Nat) (x1 : Int32) (N : Nat) : Prop := ((∀ k, k < N → bx (lp_72_13 I b x1 k) (fun p3 => (((p3 b 8) = (I b 8)) ∧ ((vp_in (nI k) 12) ∧ (¬ (¬ (p3 (b + 9) (nI k).toNatClampNeg) = x1) → (g_60 p3 b (nI k) x1)))))) ∧ (bx (lp_72_13 I b x1 N) (fun p3 => (p3 b 8) = (I b 8))))
theorem lw_72_13 {l : LX} {d : Nat} {P : RP} {I : WI} {F : WF} {L : WL} {t : Nat} {b : Nat} {x1 : Int32} {x2 : Int32} (hb : isS b) (hgl : gl_72_13 I b x1 ((I b 8).toNatClampNeg)) (hx : ∀ p3 : WI, p3 = lp_72_13 I b x1 ((I b 8).toNatClampNeg) → Wp l 72 (d + 3) 0 0 P 0 0 43 [(2, .int x2)] [] SH (p3, F, L, RT t)) : Wp l 72 (d + 3) 0 0 P 0 0 13 [(0, .ref b), (1, .int x1), (2, .int x2), (3, .int 0)] [] SH (I, F, L, RT t) := by
  obtain ⟨hin, hend⟩ := hgl
  have loop : ∀ m k, k + m = (I b 8).toNatClampNeg → ∀ p3 : WI, p3 = lp_72_13 I b x1 k → Wp l 72 (d + 3) 0 0 P 0 0 13 [(0, .ref b), (1, .int x1), (2, .int x2), (3, .int (nI k))] [] SH (p3, F, L, RT t) := by
    intro m
    induction m with
    | zero =>
      intro k hk p3 hs
      obtain rfl : k = (I b 8).toNatClampNeg := by omega
      have hE := bx_un hs hend
      exact bk_72_13 hb (fun _ => hx _ hs) (fun h => absurd ((show (p3 b 8) ≤ (nI ((I b 8).toNatClampNeg)) from by rw [show (p3 b 8) = (I b 8) from hE]; exact (le_cl (Nat.le_refl _)).mpr rfl)) h)
    | succ m ih =>
      intro k hk p3 hs
      have hk2 : k < (I b 8).toNatClampNeg := by omega
      have ih := ih (k + 1) (by omega)
      rw [nI_succ] at ih
      have he := bx_eq hs (lp_72_13.eq_2 ..).symm
      have hg := bx_un hs (hin k hk2)
      have hE : (p3 b 8) = (I b 8) := hg.1
      have hg := hg.2
      refine bk_72_13 hb (fun h => absurd ((le_cl (by omega)).mp (by rw [show (p3 b 8) = (I b 8) from hE] at h; exact h)) (by omega)) (fun _ => ?_)
      obtain ⟨k3, hg⟩ := hg
      have hgX := hg
      obtain ⟨X1, hX1⟩ : ∃ r : WI, r = (if ¬ (p3 (b + 9) (nI k).toNatClampNeg) = x1 then p3 else (bx ((v_60 p3 b (nI k) x1) : WI) (fun p4 => p4))) := ⟨_, rfl⟩
      have J1 : ∀ p5 : WI, p5 = X1 → Wp l 72 (d + 3) 0 0 P 0 0 37 [(0, .ref b), (1, .int x1), (2, .int x2), (3, .int (nI k))] [] SH (p5, F, L, RT t) := by
        intro p5 hr
        have hr := hr.trans hX1
        have he := bx_eq hr he
        refine bk_72_37 ?_
        exact ih _ he
      have he := hX1.symm
      have hg := hgX
      refine bk_72_21 hb k3 (fun h4 => ?_) (fun h4 => ?_)
      · have he := ite_p h4 he
        exact J1 _ he
      · have he := ite_n h4 he
        have hg := hg h4
        have k5 := hg
        refine bk_72_31 hb (cq_V_I (cc_60 (d := d + 1) hb k5)) ?_
        rintro _ _ _ _ ⟨p4, hr, rfl, rfl, rfl, rfl⟩
        have he := bx_eq hr he
        exact J1 _ he
  exact loop _ 0 (by omega) _ rfl
/-- VectorShelf$Shelf.tidyUp(I)I -/
def v_72 (I : WI) (b : Nat) (x1 : Int32) : Int32 × WI := (bx ((v_73 I b x1) : Int32 × WI) (fun p1 => (bx ((v_54 p1.2 b x1) : WI) (fun p2 => (bx ((lp_72_13 p2 b x1 ((p2 b 8).toNatClampNeg)) : WI) (fun p6 => (p1.1, p6)))))))
def g_72 (I : WI) (b : Nat) (x1 : Int32) : Prop := ((g_73 I b x1) ∧ (bx ((v_73 I b x1) : Int32 × WI) (fun p1 => ((g_54 p1.2 b x1) ∧ (bx ((v_54 p1.2 b x1) : WI) (fun p2 => (gl_72_13 p2 b x1 ((p2 b 8).toNatClampNeg))))))))
theorem cc_72 {l : LX} {d : Nat} {I : WI} {F : WF} {L : WL} {t : Nat} {b : Nat} {x1 : Int32} (hb : isS b) (hg : g_72 I b x1) : Con l 72 (d + 3) 0 0 [.ref b, .int x1] SH (I, F, L, RT t) (po_I_I F L t (v_72 I b x1)) := by
  refine cn_72 ?_
  obtain ⟨T1, hT1⟩ : ∃ r : Int32 × WI, r = (v_72 I b x1) := ⟨_, rfl⟩
  rw [← hT1]
  have he := (hT1.trans (v_72.eq_1 ..)).symm
  have hg := Eq.mp (g_72.eq_1 ..) hg
  obtain ⟨k1, hg⟩ := hg
  refine bk_72_0 hb (cq_I_I (cc_73 (d := d + 0) hb k1)) ?_
  rintro _ _ _ _ _ ⟨p1, hr, rfl, rfl, rfl, rfl, rfl⟩
  have he := bx_eq hr he
  have hg := bx_un hr hg
  obtain ⟨k2, hg⟩ := hg
  refine bk_72_5 hb (cq_V_I (cc_54 (d := d + 2) hb k2)) ?_
  rintro _ _ _ _ ⟨p2, hr, rfl, rfl, rfl, rfl⟩
  have he := bx_eq hr he
  have hg := bx_un hr hg
  refine bk_72_11 ?_
  have hgX := hg
  refine lw_72_13 (d := d) hb hgX (fun p6 hr => ?_)
  have he := bx_eq hr he
  exact bk_72_43 (rl_I_I he)
/-- the loop at 4 of VectorShelf$Shelf.centreAnew -/
def lp_74_4 (I : WI) (b : Nat) (a1 : Int32) : Nat → Int32 × WI
  | 0 => (a1, I)
  | k + 1 => bx (lp_74_4 I b a1 k) (fun p1 => (bx ((v_73 p1.2 b (nI k)) : Int32 × WI) (fun p2 => (bx ((v_75 p2.2 b (nI k)) : Int32 × WI) (fun p3 => (bx ((if p3.1 = 0 then p1.1 else (p1.1 + 1)) : Int32) (fun p4 => (bx ((v_54 p3.2 b (nI k)) : WI) (fun p5 => (p4, p5))))))))))
def gl_74_4 (I : WI) (b : Nat) (a1 : Int32) (N : Nat) : Prop := ((∀ k, k < N → bx (lp_74_4 I b a1 k) (fun p1 => (((p1.2 b 4) = (I b 4)) ∧ ((g_73 p1.2 b (nI k)) ∧ (bx ((v_73 p1.2 b (nI k)) : Int32 × WI) (fun p2 => ((g_75 p2.2 b (nI k)) ∧ (bx ((v_75 p2.2 b (nI k)) : Int32 × WI) (fun p3 => (bx ((if p3.1 = 0 then p1.1 else (p1.1 + 1)) : Int32) (fun p4 => (g_54 p3.2 b (nI k))))))))))))) ∧ (bx (lp_74_4 I b a1 N) (fun p1 => (p1.2 b 4) = (I b 4))))
theorem lw_74_4 {l : LX} {d : Nat} {P : RP} {I : WI} {F : WF} {L : WL} {t : Nat} {b : Nat} {a1 : Int32} (hb : isS b) (hgl : gl_74_4 I b a1 ((I b 4).toNatClampNeg)) (hx : ∀ p1 : Int32 × WI, p1 = lp_74_4 I b a1 ((I b 4).toNatClampNeg) → Wp l 74 (d + 3) 0 0 P 0 0 40 [(0, .ref b), (1, .int p1.1)] [] SH (p1.2, F, L, RT t)) : Wp l 74 (d + 3) 0 0 P 0 0 4 [(0, .ref b), (1, .int a1), (2, .int 0)] [] SH (I, F, L, RT t) := by
  obtain ⟨hin, hend⟩ := hgl
  have loop : ∀ m k, k + m = (I b 4).toNatClampNeg → ∀ p1 : Int32 × WI, p1 = lp_74_4 I b a1 k → Wp l 74 (d + 3) 0 0 P 0 0 4 [(0, .ref b), (1, .int p1.1), (2, .int (nI k))] [] SH (p1.2, F, L, RT t) := by
    intro m
    induction m with
    | zero =>
      intro k hk p1 hs
      obtain rfl : k = (I b 4).toNatClampNeg := by omega
      have hE := bx_un hs hend
      exact bk_74_4 hb (fun _ => hx _ hs) (fun h => absurd ((show (p1.2 b 4) ≤ (nI ((I b 4).toNatClampNeg)) from by rw [show (p1.2 b 4) = (I b 4) from hE]; exact (le_cl (Nat.le_refl _)).mpr rfl)) h)
    | succ m ih =>
      intro k hk p1 hs
      have hk2 : k < (I b 4).toNatClampNeg := by omega
      have ih := ih (k + 1) (by omega)
      rw [nI_succ] at ih
      have he := bx_eq hs (lp_74_4.eq_2 ..).symm
      have hg := bx_un hs (hin k hk2)
      have hE : (p1.2 b 4) = (I b 4) := hg.1
      have hg := hg.2
      refine bk_74_4 hb (fun h => absurd ((le_cl (by omega)).mp (by rw [show (p1.2 b 4) = (I b 4) from hE] at h; exact h)) (by omega)) (fun _ => ?_)
      obtain ⟨k1, hg⟩ := hg
      refine bk_74_12 hb (cq_I_I (cc_73 (d := d + 0) hb k1)) ?_
      rintro _ _ _ _ _ ⟨p2, hr, rfl, rfl, rfl, rfl, rfl⟩
      have he := bx_eq hr he
      have hg := bx_un hr hg
      obtain ⟨k2, hg⟩ := hg
      refine bk_74_17 hb (cq_I_I (cc_75 (d := d + 1) hb k2)) ?_
      rintro _ _ _ _ _ ⟨p3, hr, rfl, rfl, rfl, rfl, rfl⟩
      have he := bx_eq hr he
      have hg := bx_un hr hg
      obtain ⟨X1, hX1⟩ : ∃ r : Int32, r = (if p3.1 = 0 then p1.1 else (p1.1 + 1)) := ⟨_, rfl⟩
      have J1 : ∀ p4 : Int32, p4 = X1 → Wp l 74 (d + 3) 0 0 P 0 0 29 [(0, .ref b), (1, .int p4), (2, .int (nI k))] [] SH (p3.2, F, L, RT t) := by
        intro p4 hr
        have hr := hr.trans hX1
        have he := bx_eq hr he
        have hg := bx_un hr hg
        have k4 := hg
        refine bk_74_29 hb (cq_V_I (cc_54 (d := d + 2) hb k4)) ?_
        rintro _ _ _ _ ⟨p5, hr, rfl, rfl, rfl, rfl⟩
        have he := bx_eq hr he
        refine bk_74_34 ?_
        exact ih _ he
      have he := hX1.symm
      refine bk_74_23 (fun h3 => ?_) (fun h3 => ?_)
      · have he := ite_p h3 he
        exact J1 _ he
      · have he := ite_n h3 he
        refine bk_74_26 ?_
        exact J1 _ he
  exact loop _ 0 (by omega) _ rfl
/-- the loop at 42 of VectorShelf$Shelf.centreAnew -/
def lp_74_42 (I : WI) (b : Nat) : Nat → WI
  | 0 => I
  | k + 1 => bx (lp_74_42 I b k) (fun p7 => (bx ((if (v_61 p7 b (nI k)) = 0 then p7 else (bx ((v_60 p7 b (nI k) (v_58 p7 b (nI k))) : WI) (fun p8 => p8))) : WI) (fun p9 => p9)))
def gl_74_42 (I : WI) (b : Nat) (N : Nat) : Prop := ((∀ k, k < N → bx (lp_74_42 I b k) (fun p7 => (((p7 b 8) = (I b 8)) ∧ (¬ ((v_61 p7 b (nI k)) = 0) → ((g_58 p7 b (nI k)) ∧ (g_60 p7 b (nI k) (v_58 p7 b (nI k)))))))) ∧ (bx (lp_74_42 I b N) (fun p7 => (p7 b 8) = (I b 8))))
theorem lw_74_42 {l : LX} {d : Nat} {P : RP} {I : WI} {F : WF} {L : WL} {t : Nat} {b : Nat} {x1 : Int32} (hb : isS b) (hgl : gl_74_42 I b ((I b 8).toNatClampNeg)) (hx : ∀ p7 : WI, p7 = lp_74_42 I b ((I b 8).toNatClampNeg) → Wp l 74 (d + 3) 0 0 P 0 0 74 [(1, .int x1)] [] SH (p7, F, L, RT t)) : Wp l 74 (d + 3) 0 0 P 0 0 42 [(0, .ref b), (1, .int x1), (2, .int 0)] [] SH (I, F, L, RT t) := by
  obtain ⟨hin, hend⟩ := hgl
  have loop : ∀ m k, k + m = (I b 8).toNatClampNeg → ∀ p7 : WI, p7 = lp_74_42 I b k → Wp l 74 (d + 3) 0 0 P 0 0 42 [(0, .ref b), (1, .int x1), (2, .int (nI k))] [] SH (p7, F, L, RT t) := by
    intro m
    induction m with
    | zero =>
      intro k hk p7 hs
      obtain rfl : k = (I b 8).toNatClampNeg := by omega
      have hE := bx_un hs hend
      exact bk_74_42 hb (fun _ => hx _ hs) (fun h => absurd ((show (p7 b 8) ≤ (nI ((I b 8).toNatClampNeg)) from by rw [show (p7 b 8) = (I b 8) from hE]; exact (le_cl (Nat.le_refl _)).mpr rfl)) h)
    | succ m ih =>
      intro k hk p7 hs
      have hk2 : k < (I b 8).toNatClampNeg := by omega
      have ih := ih (k + 1) (by omega)
      rw [nI_succ] at ih
      have he := bx_eq hs (lp_74_42.eq_2 ..).symm
      have hg := bx_un hs (hin k hk2)
      have hE : (p7 b 8) = (I b 8) := hg.1
      have hg := hg.2
      refine bk_74_42 hb (fun h => absurd ((le_cl (by omega)).mp (by rw [show (p7 b 8) = (I b 8) from hE] at h; exact h)) (by omega)) (fun _ => ?_)
      refine bk_74_50 hb (cc_61 (d := d + 1) hb) ?_
      have hgX := hg
      obtain ⟨X2, hX2⟩ : ∃ r : WI, r = (if (v_61 p7 b (nI k)) = 0 then p7 else (bx ((v_60 p7 b (nI k) (v_58 p7 b (nI k))) : WI) (fun p8 => p8))) := ⟨_, rfl⟩
      have J2 : ∀ p9 : WI, p9 = X2 → Wp l 74 (d + 3) 0 0 P 0 0 68 [(0, .ref b), (1, .int x1), (2, .int (nI k))] [] SH (p9, F, L, RT t) := by
        intro p9 hr
        have hr := hr.trans hX2
        have he := bx_eq hr he
        refine bk_74_68 ?_
        exact ih _ he
      have he := hX2.symm
      have hg := hgX
      refine bk_74_55 (fun h6 => ?_) (fun h6 => ?_)
      · have he := ite_p h6 he
        exact J2 _ he
      · have he := ite_n h6 he
        have hg := hg h6
        obtain ⟨k7, hg⟩ := hg
        refine bk_74_58 hb (cc_58 (d := d + 1) hb k7) ?_
        have k8 := hg
        refine bk_74_65 hb (cq_V_I (cc_60 (d := d + 1) hb k8)) ?_
        rintro _ _ _ _ ⟨p8, hr, rfl, rfl, rfl, rfl⟩
        have he := bx_eq hr he
        exact J2 _ he
  exact loop _ 0 (by omega) _ rfl
/-- VectorShelf$Shelf.centreAnew()I -/
def v_74 (I : WI) (b : Nat) : Int32 × WI := (bx ((lp_74_4 I b (0 : Int32) ((I b 4).toNatClampNeg)) : Int32 × WI) (fun p6 => (bx ((lp_74_42 p6.2 b ((p6.2 b 8).toNatClampNeg)) : WI) (fun p10 => (p6.1, p10)))))
def g_74 (I : WI) (b : Nat) : Prop := ((gl_74_4 I b (0 : Int32) ((I b 4).toNatClampNeg)) ∧ (bx ((lp_74_4 I b (0 : Int32) ((I b 4).toNatClampNeg)) : Int32 × WI) (fun p6 => (gl_74_42 p6.2 b ((p6.2 b 8).toNatClampNeg)))))
theorem cc_74 {l : LX} {d : Nat} {I : WI} {F : WF} {L : WL} {t : Nat} {b : Nat} (hb : isS b) (hg : g_74 I b) : Con l 74 (d + 3) 0 0 [.ref b] SH (I, F, L, RT t) (po_I_I F L t (v_74 I b)) := by
  refine cn_74 ?_
  obtain ⟨T1, hT1⟩ : ∃ r : Int32 × WI, r = (v_74 I b) := ⟨_, rfl⟩
  rw [← hT1]
  have he := (hT1.trans (v_74.eq_1 ..)).symm
  have hg := Eq.mp (g_74.eq_1 ..) hg
  refine bk_74_0 ?_
  obtain ⟨hgX, hg⟩ := hg
  refine lw_74_4 (d := d) hb hgX (fun p6 hr => ?_)
  have he := bx_eq hr he
  have hg := bx_un hr hg
  refine bk_74_40 ?_
  have hgX := hg
  refine lw_74_42 (d := d) hb hgX (fun p10 hr => ?_)
  have he := bx_eq hr he
  exact bk_74_74 (rl_I_I he)
/-- the loop at 0 of VectorShelf$TextReader.advance -/
def lp_85_0 : Nat → WI → WI
  | 0, I => I
  | k + 1, I => (if (I 31 1) ≤ (I 31 3) then I else (if (v_87 (v_86 I (I 31 3))) = 0 then I else (lp_85_0 k (up2 I 31 3 ((I 31 3) + 1)))))
def gl_85_0 : Nat → WI → Prop
  | 0, _ => False
  | k + 1, I => (¬ ((I 31 1) ≤ (I 31 3)) → ((g_86 I (I 31 3)) ∧ (¬ ((v_87 (v_86 I (I 31 3))) = 0) → (gl_85_0 k (up2 I 31 3 ((I 31 3) + 1))))))
theorem lw_85_0 {l : LX} {d : Nat} {P : RP} {F : WF} {L : WL} {t : Nat} : ∀ k : Nat, ∀ (I : WI), gl_85_0 k I → (∀ r : WI, r = lp_85_0 k I → Wp l 85 (d + 11) 0 0 P 0 0 38 [(0, .ref 31)] [] SH (r, F, L, RT t)) → Wp l 85 (d + 11) 0 0 P 0 0 0 [(0, .ref 31)] [] SH (I, F, L, RT t) := by
  intro k
  induction k with
  | zero =>
    intro I hg hx
    exact hg.elim
  | succ k ih =>
    intro I hg hx
    have hg := Eq.mp (gl_85_0.eq_2 ..) hg
    obtain ⟨T1, hT1⟩ : ∃ r : WI, r = lp_85_0 (k + 1) I := ⟨_, rfl⟩
    have hx : ∀ r : WI, r = T1 → Wp l 85 (d + 11) 0 0 P 0 0 38 [(0, .ref 31)] [] SH (r, F, L, RT t) := fun r hr => hx r (hr.trans hT1)
    have he := (hT1.trans (lp_85_0.eq_2 ..)).symm
    refine bk_85_0 (fun h1 => ?_) (fun h1 => ?_)
    · have he := ite_p h1 he
      exact hx _ he
    · have he := ite_n h1 he
      have hg := hg h1
      obtain ⟨k2, hg⟩ := hg
      refine bk_85_11 (cc_86 (d := d + 10)  k2) ?_
      refine bk_85_19 (cc_87 (d := d + 10) ) ?_
      refine bk_85_22 (fun h4 => ?_) (fun h4 => ?_)
      · have he := ite_p h4 he
        exact hx _ he
      · have he := ite_n h4 he
        have hg := hg h4
        refine bk_85_25 ?_
        exact ih _ hg (fun r hr => hx r (hr.trans he))
/-- VectorShelf$TextReader.advance()V -/
def v_85 (I : WI) : WI := (bx ((lp_85_0 400 I) : WI) (fun p1 => (if ¬ (v_86 (up2 p1 31 2 (p1 31 3)) (p1 31 3)) = (-1) then (if (v_88 (v_86 (up2 p1 31 2 (p1 31 3)) (p1 31 3))) = 0 then (if (v_93 (v_86 (up2 p1 31 2 (p1 31 3)) (p1 31 3))) = 0 then (up2 (up2 (up2 p1 31 2 (p1 31 3)) 31 3 (((up2 p1 31 2 (p1 31 3)) 31 3) + 1)) 31 4 (v_86 (up2 p1 31 2 (p1 31 3)) (p1 31 3))) else (bx ((v_94 (up2 p1 31 2 (p1 31 3))) : WI) (fun p2 => p2))) else (bx ((v_89 (up2 p1 31 2 (p1 31 3))) : WI) (fun p3 => p3))) else (up2 (up2 p1 31 2 (p1 31 3)) 31 4 256))))
def g_85 (I : WI) : Prop := ((gl_85_0 400 I) ∧ (bx ((lp_85_0 400 I) : WI) (fun p1 => ((g_86 (up2 p1 31 2 (p1 31 3)) (p1 31 3)) ∧ ((¬ (v_86 (up2 p1 31 2 (p1 31 3)) (p1 31 3)) = (-1)) → ((((v_88 (v_86 (up2 p1 31 2 (p1 31 3)) (p1 31 3))) = 0) → (¬ ((v_93 (v_86 (up2 p1 31 2 (p1 31 3)) (p1 31 3))) = 0) → (g_94 (up2 p1 31 2 (p1 31 3))))) ∧ (¬ ((v_88 (v_86 (up2 p1 31 2 (p1 31 3)) (p1 31 3))) = 0) → (g_89 (up2 p1 31 2 (p1 31 3))))))))))
theorem cc_85 {l : LX} {d : Nat} {I : WI} {F : WF} {L : WL} {t : Nat} (hg : g_85 I) : Con l 85 (d + 11) 0 0 [.ref 31] SH (I, F, L, RT t) (po_V_I F L t (v_85 I)) := by
  refine cn_85 ?_
  obtain ⟨T1, hT1⟩ : ∃ r : WI, r = (v_85 I) := ⟨_, rfl⟩
  rw [← hT1]
  have he := (hT1.trans (v_85.eq_1 ..)).symm
  have hg := Eq.mp (g_85.eq_1 ..) hg
  obtain ⟨hgX, hg⟩ := hg
  refine lw_85_0 (d := d)  400 _ hgX (fun p1 hr => ?_)
  have he := bx_eq hr he
  have hg := bx_un hr hg
  obtain ⟨k5, hg⟩ := hg
  refine bk_85_38 (cc_86 (d := d + 10)  k5) ?_
  refine bk_85_54 (fun h6 => ?_) (fun h6 => ?_)
  · have he := ite_p h6 he
    have hg := hg h6
    refine bk_85_70 (cc_88 (d := d + 10) ) ?_
    refine bk_85_74 (fun h8 => ?_) (fun h8 => ?_)
    · have he := ite_p h8 he
      have hg := hg.1 h8
      refine bk_85_84 (cc_93 (d := d + 10) ) ?_
      refine bk_85_88 (fun h10 => ?_) (fun h10 => ?_)
      · have he := ite_p h10 he
        refine bk_85_98 ?_
        exact bk_85_113 (rl_V_I he)
      · have he := ite_n h10 he
        have hg := hg h10
        have k11 := hg
        refine bk_85_91 (cq_V_I (cc_94 (d := d + 9)  k11)) ?_
        rintro _ _ _ _ ⟨p2, hr, rfl, rfl, rfl, rfl⟩
        have he := bx_eq hr he
        refine bk_85_95 ?_
        exact bk_85_113 (rl_V_I he)
    · have he := ite_n h8 he
      have hg := hg.2 h8
      have k12 := hg
      refine bk_85_77 (cq_V_I (cc_89 (d := d + 0)  k12)) ?_
      rintro _ _ _ _ ⟨p3, hr, rfl, rfl, rfl, rfl⟩
      have he := bx_eq hr he
      refine bk_85_81 ?_
      exact bk_85_113 (rl_V_I he)
  · have he := ite_n h6 he
    refine bk_85_60 ?_
    exact bk_85_113 (rl_V_I he)
/-- VectorShelf$TextReader.expect(I)V -/
def v_95 (I : WI) (x1 : Int32) : WI := (if ¬ (I 31 4) = x1 then (bx ((v_96 I) : WI) (fun p1 => p1)) else (bx ((v_85 I) : WI) (fun p2 => p2)))
def g_95 (I : WI) (x1 : Int32) : Prop := (¬ (¬ (I 31 4) = x1) → (g_85 I))
theorem cc_95 {l : LX} {d : Nat} {I : WI} {F : WF} {L : WL} {t : Nat} {x1 : Int32} (hg : g_95 I x1) : Con l 95 (d + 12) 0 0 [.ref 31, .int x1] SH (I, F, L, RT t) (po_V_I F L t (v_95 I x1)) := by
  refine cn_95 ?_
  obtain ⟨T1, hT1⟩ : ∃ r : WI, r = (v_95 I x1) := ⟨_, rfl⟩
  rw [← hT1]
  have he := (hT1.trans (v_95.eq_1 ..)).symm
  have hg := Eq.mp (g_95.eq_1 ..) hg
  refine bk_95_0 (fun h1 => ?_) (fun h1 => ?_)
  · have he := ite_p h1 he
    refine bk_95_15 (cq_V_I (cc_96 (d := d + 11) )) ?_
    rintro _ _ _ _ ⟨p1, hr, rfl, rfl, rfl, rfl⟩
    have he := bx_eq hr he
    exact bk_95_19 (rl_V_I he)
  · have he := ite_n h1 he
    have hg := hg h1
    have k3 := hg
    refine bk_95_8 (cq_V_I (cc_85 (d := d + 0)  k3)) ?_
    rintro _ _ _ _ ⟨p2, hr, rfl, rfl, rfl, rfl⟩
    have he := bx_eq hr he
    refine bk_95_12 ?_
    exact bk_95_19 (rl_V_I he)
/-- VectorShelf.cell(III)I -/
def v_105 (I : WI) (x1 : Int32) (x2 : Int32) (x3 : Int32) : Int32 × WI := (if ¬ (v_106 x1 x2 x3) = 0 then (if (I 1 4) < 4 then (bx ((v_53 I 1 x1 x2 x3) : Int32 × WI) (fun p1 => (p1.1, p1.2))) else ((-4), I)) else ((-2), I))
def g_105 (I : WI) (x1 : Int32) (x2 : Int32) (x3 : Int32) : Prop := ((¬ (v_106 x1 x2 x3) = 0) → (((I 1 4) < 4) → (g_53 I 1 x1 x2 x3)))
theorem cc_105 {l : LX} {d : Nat} {I : WI} {F : WF} {L : WL} {t : Nat} {x1 : Int32} {x2 : Int32} {x3 : Int32} (hg : g_105 I x1 x2 x3) : Con l 105 (d + 2) 0 0 [.ref 0, .int x1, .int x2, .int x3] SH (I, F, L, RT t) (po_I_I F L t (v_105 I x1 x2 x3)) := by
  refine cn_105 ?_
  obtain ⟨T1, hT1⟩ : ∃ r : Int32 × WI, r = (v_105 I x1 x2 x3) := ⟨_, rfl⟩
  rw [← hT1]
  have he := (hT1.trans (v_105.eq_1 ..)).symm
  have hg := Eq.mp (g_105.eq_1 ..) hg
  refine bk_105_0 (cc_106 (d := d + 0) ) ?_
  refine bk_105_6 (fun h2 => ?_) (fun h2 => ?_)
  · have he := ite_p h2 he
    have hg := hg h2
    refine bk_105_12 (fun h3 => ?_) (fun h3 => ?_)
    · have he := ite_p h3 he
      have hg := hg h3
      have k4 := hg
      refine bk_105_28 (cq_I_I (cc_53 (d := d + 0) (by first | decide | (unfold isS; decide) | (unfold isS; omega)) k4)) ?_
      rintro _ _ _ _ _ ⟨p1, hr, rfl, rfl, rfl, rfl, rfl⟩
      have he := bx_eq hr he
      exact bk_105_38 (rl_I_I he)
    · have he := ite_n h3 he
      refine bk_105_23 ?_
      exact bk_105_38 (rl_I_I he)
  · have he := ite_n h2 he
    exact bk_105_9 (rl_I_I he)
/-- VectorShelf.move(IIII)I -/
def v_109 (I : WI) (x1 : Int32) (x2 : Int32) (x3 : Int32) (x4 : Int32) : Int32 × WI := (if (v_110 I x1) = 0 then ((-2), I) else (if ¬ (v_106 x2 x3 x4) = 0 then (if ¬ (v_61 I 1 x1) = 0 then (bx ((v_57 I 1 x1 x2 x3 x4) : WI) (fun p1 => ((p1 10 x1.toNatClampNeg), p1))) else ((-3), I)) else ((-2), I)))
def g_109 (I : WI) (x1 : Int32) (x2 : Int32) (x3 : Int32) (x4 : Int32) : Prop := (¬ ((v_110 I x1) = 0) → ((¬ (v_106 x2 x3 x4) = 0) → ((¬ (v_61 I 1 x1) = 0) → ((g_57 I 1 x1 x2 x3 x4) ∧ (bx ((v_57 I 1 x1 x2 x3 x4) : WI) (fun p1 => (vp_in x1 12)))))))
theorem cc_109 {l : LX} {d : Nat} {I : WI} {F : WF} {L : WL} {t : Nat} {x1 : Int32} {x2 : Int32} {x3 : Int32} {x4 : Int32} (hg : g_109 I x1 x2 x3 x4) : Con l 109 (d + 3) 0 0 [.ref 0, .int x1, .int x2, .int x3, .int x4] SH (I, F, L, RT t) (po_I_I F L t (v_109 I x1 x2 x3 x4)) := by
  refine cn_109 ?_
  obtain ⟨T1, hT1⟩ : ∃ r : Int32 × WI, r = (v_109 I x1 x2 x3 x4) := ⟨_, rfl⟩
  rw [← hT1]
  have he := (hT1.trans (v_109.eq_1 ..)).symm
  have hg := Eq.mp (g_109.eq_1 ..) hg
  refine bk_109_0 (cc_110 (d := d + 1) ) ?_
  refine bk_109_5 (fun h2 => ?_) (fun h2 => ?_)
  · have he := ite_p h2 he
    exact bk_109_18 (rl_I_I he)
  · have he := ite_n h2 he
    have hg := hg h2
    refine bk_109_8 (cc_106 (d := d + 1) ) ?_
    refine bk_109_15 (fun h4 => ?_) (fun h4 => ?_)
    · have he := ite_p h4 he
      have hg := hg h4
      refine bk_109_21 (cc_61 (d := d + 1) (by first | decide | (unfold isS; decide) | (unfold isS; omega))) ?_
      refine bk_109_29 (fun h6 => ?_) (fun h6 => ?_)
      · have he := ite_p h6 he
        have hg := hg h6
        obtain ⟨k7, hg⟩ := hg
        refine bk_109_35 (cq_V_I (cc_57 (d := d + 0) (by first | decide | (unfold isS; decide) | (unfold isS; omega)) k7)) ?_
        rintro _ _ _ _ ⟨p1, hr, rfl, rfl, rfl, rfl⟩
        have he := bx_eq hr he
        have hg := bx_un hr hg
        have k8 := hg
        exact bk_109_47 k8 (rl_I_I he)
      · have he := ite_n h6 he
        exact bk_109_32 (rl_I_I he)
    · have he := ite_n h4 he
      exact bk_109_18 (rl_I_I he)
end
