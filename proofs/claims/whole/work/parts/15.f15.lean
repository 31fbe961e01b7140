section
/-- the loop at 55 of VectorShelf.shelve -/
def lp_163_55 (F : WF) (x3 : Int32) (x4 : Int32) (v6 : Nat) : Nat → Int32 → Int32 → WI → Int32 × WI
  | 0, x7, x8, I => (0, I)
  | k + 1, x7, x8, I => (if x4 ≤ x8 then (x7, I) else (if ¬ (v_48 I v6 (x3 + (4 * x8)) (4 : Int32)) = 0 then (bx ((v_108 I (v_45 I F v6 (x3 + (4 * x8))) (v_45 I F v6 ((x3 + (4 * x8)) + 1)) (v_45 I F v6 ((x3 + (4 * x8)) + 2)) (v_45 I F v6 ((x3 + (4 * x8)) + 3))) : Int32 × WI) (fun p2 => (bx ((if p2.1 < 0 then x7 else (x7 + 1)) : Int32) (fun p3 => (lp_163_55 F x3 x4 v6 k p3 (x8 + 1) p2.2))))) else ((-12), I)))
def gl_163_55 (F : WF) (x3 : Int32) (x4 : Int32) (v6 : Nat) : Nat → Int32 → Int32 → WI → Prop
  | 0, _, _, _ => False
  | k + 1, x7, x8, I => (¬ (x4 ≤ x8) → ((¬ (v_48 I v6 (x3 + (4 * x8)) (4 : Int32)) = 0) → ((g_45 I F v6 (x3 + (4 * x8))) ∧ ((g_45 I F v6 ((x3 + (4 * x8)) + 1)) ∧ ((g_45 I F v6 ((x3 + (4 * x8)) + 2)) ∧ ((g_45 I F v6 ((x3 + (4 * x8)) + 3)) ∧ ((g_108 I (v_45 I F v6 (x3 + (4 * x8))) (v_45 I F v6 ((x3 + (4 * x8)) + 1)) (v_45 I F v6 ((x3 + (4 * x8)) + 2)) (v_45 I F v6 ((x3 + (4 * x8)) + 3))) ∧ (bx ((v_108 I (v_45 I F v6 (x3 + (4 * x8))) (v_45 I F v6 ((x3 + (4 * x8)) + 1)) (v_45 I F v6 ((x3 + (4 * x8)) + 2)) (v_45 I F v6 ((x3 + (4 * x8)) + 3))) : Int32 × WI) (fun p2 => (bx ((if p2.1 < 0 then x7 else (x7 + 1)) : Int32) (fun p3 => (gl_163_55 F x3 x4 v6 k p3 (x8 + 1) p2.2))))))))))))
theorem lw_163_55 {l : LX} {d : Nat} {F : WF} {L : WL} {t : Nat} {x3 : Int32} {x4 : Int32} {v6 : Nat} (hv6 : isH v6) : ∀ k : Nat, ∀ (x7 : Int32) (x8 : Int32) (I : WI), gl_163_55 F x3 x4 v6 k x7 x8 I → Wp l 163 (d + 5) 0 0 (po_I_I F L t (lp_163_55 F x3 x4 v6 k x7 x8 I)) 0 0 55 [(0, .ref 0), (3, .int x3), (4, .int x4), (6, .ref v6), (7, .int x7), (8, .int x8)] [] SH (I, F, L, RT t) := by
  intro k
  induction k with
  | zero =>
    intro x7 x8 I hg
    exact hg.elim
  | succ k ih =>
    intro x7 x8 I hg
    have hg := Eq.mp (gl_163_55.eq_2 ..) hg
    obtain ⟨T1, hT1⟩ : ∃ r : Int32 × WI, r = lp_163_55 F x3 x4 v6 (k + 1) x7 x8 I := ⟨_, rfl⟩
    rw [← hT1]
    have he := (hT1.trans (lp_163_55.eq_2 ..)).symm
    refine bk_163_55 (fun h8 => ?_) (fun h8 => ?_)
    · have he := ite_p h8 he
      exact bk_163_134 (rl_I_I he)
    · have he := ite_n h8 he
      have hg := hg h8
      refine bk_163_62 hv6 (cc_48 (d := d + 4) hv6) ?_
      refine bk_163_78 (fun h10 => ?_) (fun h10 => ?_)
      · have he := ite_p h10 he
        have hg := hg h10
        obtain ⟨k11, hg⟩ := hg
        refine bk_163_84 hv6 (cc_45 (d := d + 4) hv6 k11) ?_
        obtain ⟨k12, hg⟩ := hg
        refine bk_163_92 hv6 (cc_45 (d := d + 4) hv6 k12) ?_
        obtain ⟨k13, hg⟩ := hg
        refine bk_163_101 hv6 (cc_45 (d := d + 4) hv6 k13) ?_
        obtain ⟨k14, hg⟩ := hg
        refine bk_163_110 hv6 (cc_45 (d := d + 4) hv6 k14) ?_
        obtain ⟨k15, hg⟩ := hg
        refine bk_163_119 (cq_I_I (cc_108 (d := d + 0)  k15)) ?_
        rintro _ _ _ _ _ ⟨p2, hr, rfl, rfl, rfl, rfl, rfl⟩
        have he := bx_eq hr he
        have hg := bx_un hr hg
        obtain ⟨X1, hX1⟩ : ∃ r : Int32, r = (if p2.1 < 0 then x7 else (x7 + 1)) := ⟨_, rfl⟩
        have J1 : ∀ p3 : Int32, p3 = X1 → Wp l 163 (d + 5) 0 0 (po_I_I F L t T1) 0 0 128 [(0, .ref 0), (3, .int x3), (4, .int x4), (6, .ref v6), (7, .int p3), (8, .int x8)] [] SH (p2.2, F, L, RT t) := by
          intro p3 hr
          have hr := hr.trans hX1
          have he := bx_eq hr he
          have hg := bx_un hr hg
          refine bk_163_128 ?_
          exact Wp_eq (post := fun r => (po_I_I F L t r)) he (ih _ _ _ hg)
        have he := hX1.symm
        refine bk_163_122 (fun h16 => ?_) (fun h16 => ?_)
        · have he := ite_p h16 he
          exact J1 _ he
        · have he := ite_n h16 he
          refine bk_163_125 ?_
          exact J1 _ he
      · have he := ite_n h10 he
        exact bk_163_81 (rl_I_I he)
/-- VectorShelf.shelve(IIII)I -/
def v_163 (I : WI) (F : WF) (x1 : Int32) (x2 : Int32) (x3 : Int32) (x4 : Int32) : Int32 × WI := (if (v_107 x2 (0 : Int32) (2 : Int32)) = 0 then ((-2), I) else (if ¬ (v_107 x4 (0 : Int32) (12 : Int32)) = 0 then (if (v_158 I x1 x2 (0 : Int32) (0 : Int32)) = 0 then (bx ((58 + 4 * x1.toNatClampNeg) : Nat) (fun p1 => (lp_163_55 F x3 x4 p1 400 (0 : Int32) (0 : Int32) I))) else ((v_158 I x1 x2 (0 : Int32) (0 : Int32)), I)) else ((-2), I)))
def g_163 (I : WI) (F : WF) (x1 : Int32) (x2 : Int32) (x3 : Int32) (x4 : Int32) : Prop := (¬ ((v_107 x2 (0 : Int32) (2 : Int32)) = 0) → ((¬ (v_107 x4 (0 : Int32) (12 : Int32)) = 0) → ((g_158 x1) ∧ (((v_158 I x1 x2 (0 : Int32) (0 : Int32)) = 0) → ((vp_in x1 4) ∧ (bx ((58 + 4 * x1.toNatClampNeg) : Nat) (fun p1 => (gl_163_55 F x3 x4 p1 400 (0 : Int32) (0 : Int32) I))))))))
theorem cc_163 {l : LX} {d : Nat} {I : WI} {F : WF} {L : WL} {t : Nat} {x1 : Int32} {x2 : Int32} {x3 : Int32} {x4 : Int32} (hg : g_163 I F x1 x2 x3 x4) : Con l 163 (d + 5) 0 0 [.ref 0, .int x1, .int x2, .int x3, .int x4] SH (I, F, L, RT t) (po_I_I F L t (v_163 I F x1 x2 x3 x4)) := by
  refine cn_163 ?_
  obtain ⟨T1, hT1⟩ : ∃ r : Int32 × WI, r = (v_163 I F x1 x2 x3 x4) := ⟨_, rfl⟩
  rw [← hT1]
  have he := (hT1.trans (v_163.eq_1 ..)).symm
  have hg := Eq.mp (g_163.eq_1 ..) hg
  refine bk_163_0 (cc_107 (d := d + 4) ) ?_
  refine bk_163_6 (fun h2 => ?_) (fun h2 => ?_)
  · have he := ite_p h2 he
    exact bk_163_20 (rl_I_I he)
  · have he := ite_n h2 he
    have hg := hg h2
    refine bk_163_9 (cc_107 (d := d + 4) ) ?_
    refine bk_163_17 (fun h4 => ?_) (fun h4 => ?_)
    · have he := ite_p h4 he
      have hg := hg h4
      obtain ⟨k5, hg⟩ := hg
      refine bk_163_23 (cc_158 (d := d + 2)  k5) ?_
      refine bk_163_31 (fun h6 => ?_) (fun h6 => ?_)
      · have he := ite_p h6 he
        have hg := hg h6
        obtain ⟨k7, hg⟩ := hg
        obtain ⟨p1, hnp1⟩ : ∃ q : Nat, q = (58 + 4 * x1.toNatClampNeg) := ⟨_, rfl⟩
        have hp1 : isH p1 := by rw [hnp1]; exact isH_at k7
        have he := bx_eq hnp1 he
        have hg := bx_un hnp1 hg
        refine bk_163_41 k7 (by rw [hnp1]; exact RT_at57 k7) ?_
        refine bk_163_47 ?_
        exact Wp_eq (post := fun r => (po_I_I F L t r)) he (lw_163_55 (d := d) hp1 400 _ _ _ hg)
      · have he := ite_n h6 he
        exact bk_163_38 (rl_I_I he)
    · have he := ite_n h4 he
      exact bk_163_20 (rl_I_I he)
/-- VectorShelf.ask(II)I -/
def v_164 (I : WI) (F : WF) (x1 : Int32) (x2 : Int32) : Int32 × WI := (if (v_158 I x1 (0 : Int32) x2 (3 : Int32)) = 0 then (bx ((58 + 4 * x1.toNatClampNeg) : Nat) (fun p1 => (bx ((v_70 I 1 (v_51 F p1 x2) (v_51 F p1 (x2 + 1)) (v_51 F p1 (x2 + 2))) : WI) (fun p2 => (bx ((v_120 p2) : Int32 × WI) (fun p3 => ((v_286 p3.1), p3.2))))))) else ((v_158 I x1 (0 : Int32) x2 (3 : Int32)), I))
def g_164 (I : WI) (F : WF) (x1 : Int32) (x2 : Int32) : Prop := ((g_158 x1) ∧ (((v_158 I x1 (0 : Int32) x2 (3 : Int32)) = 0) → ((vp_in x1 4) ∧ (bx ((58 + 4 * x1.toNatClampNeg) : Nat) (fun p1 => ((g_51 F p1 x2) ∧ ((g_51 F p1 (x2 + 1)) ∧ ((g_51 F p1 (x2 + 2)) ∧ (bx ((v_70 I 1 (v_51 F p1 x2) (v_51 F p1 (x2 + 1)) (v_51 F p1 (x2 + 2))) : WI) (fun p2 => (g_120 p2)))))))))))
theorem cc_164 {l : LX} {d : Nat} {I : WI} {F : WF} {L : WL} {t : Nat} {x1 : Int32} {x2 : Int32} (hg : g_164 I F x1 x2) : Con l 164 (d + 6) 0 0 [.ref 0, .int x1, .int x2] SH (I, F, L, RT t) (po_I_I F L t (v_164 I F x1 x2)) := by
  refine cn_164 ?_
  obtain ⟨T1, hT1⟩ : ∃ r : Int32 × WI, r = (v_164 I F x1 x2) := ⟨_, rfl⟩
  rw [← hT1]
  have he := (hT1.trans (v_164.eq_1 ..)).symm
  have hg := Eq.mp (g_164.eq_1 ..) hg
  obtain ⟨k1, hg⟩ := hg
  refine bk_164_0 (cc_158 (d := d + 3)  k1) ?_
  refine bk_164_8 (fun h2 => ?_) (fun h2 => ?_)
  · have he := ite_p h2 he
    have hg := hg h2
    obtain ⟨k3, hg⟩ := hg
    obtain ⟨p1, hnp1⟩ : ∃ q : Nat, q = (58 + 4 * x1.toNatClampNeg) := ⟨_, rfl⟩
    have hp1 : isH p1 := by rw [hnp1]; exact isH_at k3
    have he := bx_eq hnp1 he
    have hg := bx_un hnp1 hg
    refine bk_164_15 k3 (by rw [hnp1]; exact RT_at57 k3) ?_
    obtain ⟨k4, hg⟩ := hg
    refine bk_164_21 hp1 (cc_51 (d := d + 5) hp1 k4) ?_
    obtain ⟨k5, hg⟩ := hg
    refine bk_164_33 hp1 (cc_51 (d := d + 5) hp1 k5) ?_
    obtain ⟨k6, hg⟩ := hg
    refine bk_164_41 hp1 (cc_51 (d := d + 5) hp1 k6) ?_
    refine bk_164_49 (cq_V_I (cc_70 (d := d + 5) (by first | decide | (unfold isS; decide) | (unfold isS; omega)))) ?_
    rintro _ _ _ _ ⟨p2, hr, rfl, rfl, rfl, rfl⟩
    have he := bx_eq hr he
    have hg := bx_un hr hg
    have k8 := hg
    refine bk_164_52 (cq_I_I (cc_120 (d := d + 0)  k8)) ?_
    rintro _ _ _ _ _ ⟨p3, hr, rfl, rfl, rfl, rfl, rfl⟩
    have he := bx_eq hr he
    refine bk_164_56 (cc_286 (d := d + 5) ) ?_
    exact bk_164_59 (rl_I_I he)
  · have he := ite_n h2 he
    exact bk_164_13 (rl_I_I he)
/-- VectorShelfModel.between(II)I -/
def v_183 (I : WI) (x1 : Int32) (x2 : Int32) : Int32 := (bx ((v_185 I (v_184 (I 84 (3 * x1).toNatClampNeg) (I 84 (3 * x2).toNatClampNeg)) (v_184 (I 84 ((3 * x1) + 1).toNatClampNeg) (I 84 ((3 * x2) + 1).toNatClampNeg)) (v_184 (I 84 ((3 * x1) + 2).toNatClampNeg) (I 84 ((3 * x2) + 2).toNatClampNeg))) : Int32) (fun p1 => p1))
def g_183 (I : WI) (x1 : Int32) (x2 : Int32) : Prop := ((vp_in (3 * x1) 36) ∧ ((vp_in (3 * x2) 36) ∧ ((vp_in ((3 * x1) + 1) 36) ∧ ((vp_in ((3 * x2) + 1) 36) ∧ ((vp_in ((3 * x1) + 2) 36) ∧ ((vp_in ((3 * x2) + 2) 36) ∧ (g_185 I (v_184 (I 84 (3 * x1).toNatClampNeg) (I 84 (3 * x2).toNatClampNeg)) (v_184 (I 84 ((3 * x1) + 1).toNatClampNeg) (I 84 ((3 * x2) + 1).toNatClampNeg)) (v_184 (I 84 ((3 * x1) + 2).toNatClampNeg) (I 84 ((3 * x2) + 2).toNatClampNeg)))))))))
theorem cc_183 {l : LX} {d : Nat} {I : WI} {F : WF} {L : WL} {t : Nat} {x1 : Int32} {x2 : Int32} (hg : g_183 I x1 x2) : Con l 183 (d + 3) 0 0 [.ref 74, .int x1, .int x2] SH (I, F, L, RT t) (rI (v_183 I x1 x2) (I, F, L, RT t)) := by
  refine cn_183 ?_
  obtain ⟨T1, hT1⟩ : ∃ r : Int32, r = (v_183 I x1 x2) := ⟨_, rfl⟩
  rw [← hT1]
  have he := (hT1.trans (v_183.eq_1 ..)).symm
  have hg := Eq.mp (g_183.eq_1 ..) hg
  obtain ⟨k1, k2, hg⟩ := hg
  refine bk_183_0 k1 k2 (cc_184 (d := d + 2) ) ?_
  obtain ⟨k4, k5, hg⟩ := hg
  refine bk_183_20 k4 k5 (cc_184 (d := d + 2) ) ?_
  obtain ⟨k7, k8, hg⟩ := hg
  refine bk_183_43 k7 k8 (cc_184 (d := d + 2) ) ?_
  have k10 := hg
  obtain ⟨p1, hr⟩ : ∃ q : Int32, q = (v_185 I (v_184 (I 84 (3 * x1).toNatClampNeg) (I 84 (3 * x2).toNatClampNeg)) (v_184 (I 84 ((3 * x1) + 1).toNatClampNeg) (I 84 ((3 * x2) + 1).toNatClampNeg)) (v_184 (I 84 ((3 * x1) + 2).toNatClampNeg) (I 84 ((3 * x2) + 2).toNatClampNeg))) := ⟨_, rfl⟩
  have he := bx_eq hr he
  refine bk_183_66 (show Con l 185 _ 0 0 _ SH _ (rI p1 _) from by rw [hr]; exact (cc_185 (d := d + 0)  k10)) ?_
  exact bk_183_69 (rl_p_I he)
/-- the loop at 4 of VectorShelfModel.friendOf -/
def lp_246_4 (I : WI) (x1 : Int32) (a2 : Int32) : Nat → Int32
  | 0 => a2
  | k + 1 => bx (lp_246_4 I x1 a2 k) (fun p1 => (bx ((if (nI k) = x1 then p1 else (if (v_180 I (nI k)) = 0 then p1 else (if p1 = (-1) then (nI k) else (if (v_183 I x1 p1) ≤ (v_183 I x1 (nI k)) then p1 else (nI k))))) : Int32) (fun p2 => p2)))
def gl_246_4 (I : WI) (x1 : Int32) (a2 : Int32) (N : Nat) : Prop := (∀ k, k < N → bx (lp_246_4 I x1 a2 k) (fun p1 => (¬ ((nI k) = x1) → ((g_180 I (nI k)) ∧ (¬ ((v_180 I (nI k)) = 0) → (¬ (p1 = (-1)) → ((g_183 I x1 (nI k)) ∧ (g_183 I x1 p1))))))))
theorem lw_246_4 {l : LX} {d : Nat} {P : RP} {I : WI} {F : WF} {L : WL} {t : Nat} {x1 : Int32} {a2 : Int32} (hgl : gl_246_4 I x1 a2 ((I 74 18).toNatClampNeg)) (hx : ∀ p1 : Int32, p1 = lp_246_4 I x1 a2 ((I 74 18).toNatClampNeg) → Wp l 246 (d + 4) 0 0 P 0 0 53 [(2, .int p1)] [] SH (I, F, L, RT t)) : Wp l 246 (d + 4) 0 0 P 0 0 4 [(0, .ref 74), (1, .int x1), (2, .int a2), (3, .int 0)] [] SH (I, F, L, RT t) := by
  have hin := hgl
  have loop : ∀ m k, k + m = (I 74 18).toNatClampNeg → ∀ p1 : Int32, p1 = lp_246_4 I x1 a2 k → Wp l 246 (d + 4) 0 0 P 0 0 4 [(0, .ref 74), (1, .int x1), (2, .int p1), (3, .int (nI k))] [] SH (I, F, L, RT t) := by
    intro m
    induction m with
    | zero =>
      intro k hk p1 hs
      obtain rfl : k = (I 74 18).toNatClampNeg := by omega
      exact bk_246_4  (fun _ => hx _ hs) (fun h => absurd ((le_cl (Nat.le_refl _)).mpr rfl) h)
    | succ m ih =>
      intro k hk p1 hs
      have hk2 : k < (I 74 18).toNatClampNeg := by omega
      have ih := ih (k + 1) (by omega)
      rw [nI_succ] at ih
      have he := bx_eq hs (lp_246_4.eq_2 ..).symm
      have hg := bx_un hs (hin k hk2)
      refine bk_246_4  (fun h => absurd ((le_cl (by omega)).mp h) (by omega)) (fun _ => ?_)
      have hgX := hg
      obtain ⟨X1, hX1⟩ : ∃ r : Int32, r = (if (nI k) = x1 then p1 else (if (v_180 I (nI k)) = 0 then p1 else (if p1 = (-1) then (nI k) else (if (v_183 I x1 p1) ≤ (v_183 I x1 (nI k)) then p1 else (nI k))))) := ⟨_, rfl⟩
      have J1 : ∀ p2 : Int32, p2 = X1 → Wp l 246 (d + 4) 0 0 P 0 0 47 [(0, .ref 74), (1, .int x1), (2, .int p2), (3, .int (nI k))] [] SH (I, F, L, RT t) := by
        intro p2 hr
        have hr := hr.trans hX1
        have he := bx_eq hr he
        refine bk_246_47 ?_
        exact ih _ he
      have he := hX1.symm
      have hg := hgX
      refine bk_246_12 (fun h1 => ?_) (fun h1 => ?_)
      · have he := ite_p h1 he
        exact J1 _ he
      · have he := ite_n h1 he
        have hg := hg h1
        obtain ⟨k2, hg⟩ := hg
        refine bk_246_17 (cc_180 (d := d + 3)  k2) ?_
        refine bk_246_22 (fun h3 => ?_) (fun h3 => ?_)
        · have he := ite_p h3 he
          exact J1 _ he
        · have he := ite_n h3 he
          have hg := hg h3
          refine bk_246_25 (fun h4 => ?_) (fun h4 => ?_)
          · have he := ite_p h4 he
            refine bk_246_45 ?_
            exact J1 _ he
          · have he := ite_n h4 he
            have hg := hg h4
            obtain ⟨k5, hg⟩ := hg
            refine bk_246_30 (cc_183 (d := d + 0)  k5) ?_
            have k6 := hg
            refine bk_246_36 (cc_183 (d := d + 0)  k6) ?_
            refine bk_246_42 (fun h7 => ?_) (fun h7 => ?_)
            · have he := ite_p h7 he
              exact J1 _ he
            · have he := ite_n h7 he
              refine bk_246_45 ?_
              exact J1 _ he
  exact loop _ 0 (by omega) _ rfl
/-- VectorShelfModel.friendOf(I)I -/
def v_246 (I : WI) (x1 : Int32) : Int32 := (bx ((lp_246_4 I x1 ((-1) : Int32) ((I 74 18).toNatClampNeg)) : Int32) (fun p3 => p3))
def g_246 (I : WI) (x1 : Int32) : Prop := (gl_246_4 I x1 ((-1) : Int32) ((I 74 18).toNatClampNeg))
theorem cc_246 {l : LX} {d : Nat} {I : WI} {F : WF} {L : WL} {t : Nat} {x1 : Int32} (hg : g_246 I x1) : Con l 246 (d + 4) 0 0 [.ref 74, .int x1] SH (I, F, L, RT t) (rI (v_246 I x1) (I, F, L, RT t)) := by
  refine cn_246 ?_
  obtain ⟨T1, hT1⟩ : ∃ r : Int32, r = (v_246 I x1) := ⟨_, rfl⟩
  rw [← hT1]
  have he := (hT1.trans (v_246.eq_1 ..)).symm
  have hg := Eq.mp (g_246.eq_1 ..) hg
  refine bk_246_0 ?_
  have hgX := hg
  refine lw_246_4 (d := d)  hgX (fun p3 hr => ?_)
  have he := bx_eq hr he
  exact bk_246_53 (rl_p_I he)
/-- the loop at 37 of VectorShelfModel.pair -/
def lp_247_37s (I : WI) (x4 : Int32) (a5 : Int32) (a2 : Int32) (a3 : Int32) : Nat → Int32 × Int32
  | 0 => (a2, a3)
  | k + 1 => bx (lp_247_37s I x4 a5 a2 a3 k) (fun p2 => (bx ((if (v_180 I x4) = 0 then (p2.1, p2.2) else (if (v_180 I (a5 + nI k)) = 0 then (p2.1, p2.2) else (if p2.1 = (-1) then (x4, (a5 + nI k)) else (if (v_183 I p2.1 p2.2) ≤ (v_183 I x4 (a5 + nI k)) then (p2.1, p2.2) else (x4, (a5 + nI k)))))) : Int32 × Int32) (fun p3 => (p3.1, p3.2))))
def gl_247_37s (I : WI) (x4 : Int32) (a5 : Int32) (a2 : Int32) (a3 : Int32) (N : Nat) : Prop := (∀ k, k < N → bx (lp_247_37s I x4 a5 a2 a3 k) (fun p2 => ((g_180 I x4) ∧ (¬ ((v_180 I x4) = 0) → ((g_180 I (a5 + nI k)) ∧ (¬ ((v_180 I (a5 + nI k)) = 0) → (¬ (p2.1 = (-1)) → ((g_183 I x4 (a5 + nI k)) ∧ (g_183 I p2.1 p2.2)))))))))
theorem lw_247_37s {l : LX} {d : Nat} {P : RP} {I : WI} {F : WF} {L : WL} {t : Nat} {x1 : Int32} {x4 : Int32} {a5 : Int32} {a2 : Int32} {a3 : Int32} (hgl : gl_247_37s I x4 a5 a2 a3 (((I 74 18).toInt - a5.toInt).toNat)) (hx : ∀ p2 : Int32 × Int32, p2 = lp_247_37s I x4 a5 a2 a3 (((I 74 18).toInt - a5.toInt).toNat) → Wp l 247 (d + 4) 0 0 P 0 0 98 [(0, .ref 74), (1, .int x1), (2, .int p2.1), (3, .int p2.2), (4, .int x4)] [] SH (I, F, L, RT t)) : Wp l 247 (d + 4) 0 0 P 0 0 37 [(0, .ref 74), (1, .int x1), (2, .int a2), (3, .int a3), (4, .int x4), (5, .int a5)] [] SH (I, F, L, RT t) := by
  have hin := hgl
  have loop : ∀ m k, k + m = ((I 74 18).toInt - a5.toInt).toNat → ∀ p2 : Int32 × Int32, p2 = lp_247_37s I x4 a5 a2 a3 k → Wp l 247 (d + 4) 0 0 P 0 0 37 [(0, .ref 74), (1, .int x1), (2, .int p2.1), (3, .int p2.2), (4, .int x4), (5, .int (a5 + nI k))] [] SH (I, F, L, RT t) := by
    intro m
    induction m with
    | zero =>
      intro k hk p2 hs
      obtain rfl : k = ((I 74 18).toInt - a5.toInt).toNat := by omega
      exact bk_247_37  (fun _ => hx _ hs) (fun h => absurd ((cl_ge (Nat.le_refl _)).mpr rfl) h)
    | succ m ih =>
      intro k hk p2 hs
      have hk2 : k < ((I 74 18).toInt - a5.toInt).toNat := by omega
      have ih := ih (k + 1) (by omega)
      rw [nI_succ, ← Int32.add_assoc] at ih
      have he := bx_eq hs (lp_247_37s.eq_2 ..).symm
      have hg := bx_un hs (hin k hk2)
      refine bk_247_37  (fun h => absurd ((cl_ge (by omega)).mp h) (by omega)) (fun _ => ?_)
      obtain ⟨k3, hg⟩ := hg
      refine bk_247_46 (cc_180 (d := d + 3)  k3) ?_
      have hgX := hg
      obtain ⟨X1, hX1⟩ : ∃ r : Int32 × Int32, r = (if (v_180 I x4) = 0 then (p2.1, p2.2) else (if (v_180 I (a5 + nI k)) = 0 then (p2.1, p2.2) else (if p2.1 = (-1) then (x4, (a5 + nI k)) else (if (v_183 I p2.1 p2.2) ≤ (v_183 I x4 (a5 + nI k)) then (p2.1, p2.2) else (x4, (a5 + nI k)))))) := ⟨_, rfl⟩
      have J1 : ∀ p3 : Int32 × Int32, p3 = X1 → Wp l 247 (d + 4) 0 0 P 0 0 92 [(0, .ref 74), (1, .int x1), (2, .int p3.1), (3, .int p3.2), (4, .int x4), (5, .int (a5 + nI k))] [] SH (I, F, L, RT t) := by
        intro p3 hr
        have hr := hr.trans hX1
        have he := bx_eq hr he
        refine bk_247_92 ?_
        exact ih _ he
      have he := hX1.symm
      have hg := hgX
      refine bk_247_52 (fun h4 => ?_) (fun h4 => ?_)
      · have he := ite_p h4 he
        exact J1 _ he
      · have he := ite_n h4 he
        have hg := hg h4
        obtain ⟨k5, hg⟩ := hg
        refine bk_247_55 (cc_180 (d := d + 3)  k5) ?_
        refine bk_247_61 (fun h6 => ?_) (fun h6 => ?_)
        · have he := ite_p h6 he
          exact J1 _ he
        · have he := ite_n h6 he
          have hg := hg h6
          refine bk_247_64 (fun h7 => ?_) (fun h7 => ?_)
          · have he := ite_p h7 he
            refine bk_247_86 ?_
            exact J1 _ he
          · have he := ite_n h7 he
            have hg := hg h7
            obtain ⟨k8, hg⟩ := hg
            refine bk_247_69 (cc_183 (d := d + 0)  k8) ?_
            have k9 := hg
            refine bk_247_77 (cc_183 (d := d + 0)  k9) ?_
            refine bk_247_83 (fun h10 => ?_) (fun h10 => ?_)
            · have he := ite_p h10 he
              exact J1 _ he
            · have he := ite_n h10 he
              refine bk_247_86 ?_
              exact J1 _ he
  have h0 := loop _ 0 (by omega) _ rfl
  rw [show a5 + nI 0 = a5 from by rw [nI_0, Int32.add_zero]] at h0
  exact h0
/-- the loop at 22 of VectorShelfModel.pair -/
def lp_247_22 (I : WI) (a2 : Int32) (a3 : Int32) : Nat → Int32 × Int32
  | 0 => (a2, a3)
  | k + 1 => bx (lp_247_22 I a2 a3 k) (fun p1 => (bx ((lp_247_37s I (nI k) ((nI k) + 1) p1.1 p1.2 (((I 74 18).toInt - ((nI k) + 1).toInt).toNat)) : Int32 × Int32) (fun p4 => (p4.1, p4.2))))
def gl_247_22 (I : WI) (a2 : Int32) (a3 : Int32) (N : Nat) : Prop := (∀ k, k < N → bx (lp_247_22 I a2 a3 k) (fun p1 => (gl_247_37s I (nI k) ((nI k) + 1) p1.1 p1.2 (((I 74 18).toInt - ((nI k) + 1).toInt).toNat))))
theorem lw_247_22 {l : LX} {d : Nat} {P : RP} {I : WI} {F : WF} {L : WL} {t : Nat} {x1 : Int32} {a2 : Int32} {a3 : Int32} (hgl : gl_247_22 I a2 a3 ((I 74 18).toNatClampNeg)) (hx : ∀ p1 : Int32 × Int32, p1 = lp_247_22 I a2 a3 ((I 74 18).toNatClampNeg) → Wp l 247 (d + 4) 0 0 P 0 0 104 [(0, .ref 74), (1, .int x1), (2, .int p1.1), (3, .int p1.2)] [] SH (I, F, L, RT t)) : Wp l 247 (d + 4) 0 0 P 0 0 22 [(0, .ref 74), (1, .int x1), (2, .int a2), (3, .int a3), (4, .int 0)] [] SH (I, F, L, RT t) := by
  have hin := hgl
  have loop : ∀ m k, k + m = (I 74 18).toNatClampNeg → ∀ p1 : Int32 × Int32, p1 = lp_247_22 I a2 a3 k → Wp l 247 (d + 4) 0 0 P 0 0 22 [(0, .ref 74), (1, .int x1), (2, .int p1.1), (3, .int p1.2), (4, .int (nI k))] [] SH (I, F, L, RT t) := by
    intro m
    induction m with
    | zero =>
      intro k hk p1 hs
      obtain rfl : k = (I 74 18).toNatClampNeg := by omega
      exact bk_247_22  (fun _ => hx _ hs) (fun h => absurd ((le_cl (Nat.le_refl _)).mpr rfl) h)
    | succ m ih =>
      intro k hk p1 hs
      have hk2 : k < (I 74 18).toNatClampNeg := by omega
      have ih := ih (k + 1) (by omega)
      rw [nI_succ] at ih
      have he := bx_eq hs (lp_247_22.eq_2 ..).symm
      have hg := bx_un hs (hin k hk2)
      refine bk_247_22  (fun h => absurd ((le_cl (by omega)).mp h) (by omega)) (fun _ => ?_)
      refine bk_247_31 ?_
      have hgX := hg
      refine lw_247_37s (d := d)  hgX (fun p4 hr => ?_)
      have he := bx_eq hr he
      refine bk_247_98 ?_
      exact ih _ he
  exact loop _ 0 (by omega) _ rfl
/-- VectorShelfModel.pair(I)I -/
def v_247 (I : WI) (x1 : Int32) : Int32 := (if ¬ (v_170 (Int32.toInt64 x1) (0 : Int64) (2 : Int64)) = 0 then (bx ((lp_247_22 I ((-1) : Int32) ((-1) : Int32) ((I 74 18).toNatClampNeg)) : Int32 × Int32) (fun p5 => (if ¬ x1 = 0 then (if ¬ x1 = 1 then (if ¬ p5.1 = (-1) then (v_183 I p5.1 p5.2) else (-1)) else p5.2) else p5.1))) else (-2))
def g_247 (I : WI) (x1 : Int32) : Prop := ((¬ (v_170 (Int32.toInt64 x1) (0 : Int64) (2 : Int64)) = 0) → ((gl_247_22 I ((-1) : Int32) ((-1) : Int32) ((I 74 18).toNatClampNeg)) ∧ (bx ((lp_247_22 I ((-1) : Int32) ((-1) : Int32) ((I 74 18).toNatClampNeg)) : Int32 × Int32) (fun p5 => ((¬ x1 = 0) → ((¬ x1 = 1) → ((¬ p5.1 = (-1)) → (g_183 I p5.1 p5.2))))))))
theorem cc_247 {l : LX} {d : Nat} {I : WI} {F : WF} {L : WL} {t : Nat} {x1 : Int32} (hg : g_247 I x1) : Con l 247 (d + 4) 0 0 [.ref 74, .int x1] SH (I, F, L, RT t) (rI (v_247 I x1) (I, F, L, RT t)) := by
  refine cn_247 ?_
  obtain ⟨T1, hT1⟩ : ∃ r : Int32, r = (v_247 I x1) := ⟨_, rfl⟩
  rw [← hT1]
  have he := (hT1.trans (v_247.eq_1 ..)).symm
  have hg := Eq.mp (g_247.eq_1 ..) hg
  refine bk_247_0 (cc_170 (d := d + 3) ) ?_
  refine bk_247_9 (fun h2 => ?_) (fun h2 => ?_)
  · have he := ite_p h2 he
    have hg := hg h2
    refine bk_247_15 ?_
    obtain ⟨hgX, hg⟩ := hg
    refine lw_247_22 (d := d)  hgX (fun p5 hr => ?_)
    have he := bx_eq hr he
    have hg := bx_un hr hg
    refine bk_247_104 (fun h11 => ?_) (fun h11 => ?_)
    · have he := ite_p h11 he
      have hg := hg h11
      refine bk_247_112 (fun h12 => ?_) (fun h12 => ?_)
      · have he := ite_p h12 he
        have hg := hg h12
        refine bk_247_121 (fun h13 => ?_) (fun h13 => ?_)
        · have he := ite_p h13 he
          have hg := hg h13
          have k14 := hg
          refine bk_247_130 (cc_183 (d := d + 0)  k14) ?_
          exact bk_247_136 (rl_p_I he)
        · have he := ite_n h13 he
          refine bk_247_126 ?_
          exact bk_247_136 (rl_p_I he)
      · have he := ite_n h12 he
        refine bk_247_117 ?_
        exact bk_247_136 (rl_p_I he)
    · have he := ite_n h11 he
      refine bk_247_108 ?_
      exact bk_247_136 (rl_p_I he)
  · have he := ite_n h2 he
    exact bk_247_12 (rl_p_I he)
/-- the loop at 5 of VectorShelfModel.nearestIn -/
def lp_249_5 (I : WI) (x1 : Int32) (x2 : Int32) (a3 : Int32) : Nat → Int32
  | 0 => a3
  | k + 1 => bx (lp_249_5 I x1 x2 a3 k) (fun p1 => (bx ((if ¬ ((x2 >>> ((nI k) &&& 31)) &&& 1) = 1 then (-1) else (v_183 I x1 (nI k))) : Int32) (fun p2 => (bx ((if p2 = (-1) then p1 else (if p1 = (-1) then p2 else (if p1 ≤ p2 then p1 else p2))) : Int32) (fun p3 => p3)))))
def gl_249_5 (I : WI) (x1 : Int32) (x2 : Int32) (a3 : Int32) (N : Nat) : Prop := (∀ k, k < N → bx (lp_249_5 I x1 x2 a3 k) (fun p1 => (¬ (¬ ((x2 >>> ((nI k) &&& 31)) &&& 1) = 1) → (g_183 I x1 (nI k)))))
theorem lw_249_5 {l : LX} {d : Nat} {P : RP} {I : WI} {F : WF} {L : WL} {t : Nat} {x1 : Int32} {x2 : Int32} {a3 : Int32} (hgl : gl_249_5 I x1 x2 a3 ((I 74 18).toNatClampNeg)) (hx : ∀ p1 : Int32, p1 = lp_249_5 I x1 x2 a3 ((I 74 18).toNatClampNeg) → Wp l 249 (d + 4) 0 0 P 0 0 63 [(3, .int p1)] [] SH (I, F, L, RT t)) : Wp l 249 (d + 4) 0 0 P 0 0 5 [(0, .ref 74), (1, .int x1), (2, .int x2), (3, .int a3), (4, .int 0)] [] SH (I, F, L, RT t) := by
  have hin := hgl
  have loop : ∀ m k, k + m = (I 74 18).toNatClampNeg → ∀ p1 : Int32, p1 = lp_249_5 I x1 x2 a3 k → Wp l 249 (d + 4) 0 0 P 0 0 5 [(0, .ref 74), (1, .int x1), (2, .int x2), (3, .int p1), (4, .int (nI k))] [] SH (I, F, L, RT t) := by
    intro m
    induction m with
    | zero =>
      intro k hk p1 hs
      obtain rfl : k = (I 74 18).toNatClampNeg := by omega
      exact bk_249_5  (fun _ => hx _ hs) (fun h => absurd ((le_cl (Nat.le_refl _)).mpr rfl) h)
    | succ m ih =>
      intro k hk p1 hs
      have hk2 : k < (I 74 18).toNatClampNeg := by omega
      have ih := ih (k + 1) (by omega)
      rw [nI_succ] at ih
      have he := bx_eq hs (lp_249_5.eq_2 ..).symm
      have hg := bx_un hs (hin k hk2)
      refine bk_249_5  (fun h => absurd ((le_cl (by omega)).mp h) (by omega)) (fun _ => ?_)
      have hgX := hg
      obtain ⟨X1, hX1⟩ : ∃ r : Int32, r = (if ¬ ((x2 >>> ((nI k) &&& 31)) &&& 1) = 1 then (-1) else (v_183 I x1 (nI k))) := ⟨_, rfl⟩
      have J1 : ∀ p2 : Int32, p2 = X1 → Wp l 249 (d + 4) 0 0 P 0 0 35 [(0, .ref 74), (1, .int x1), (2, .int x2), (3, .int p1), (4, .int (nI k))] [.int p2] SH (I, F, L, RT t) := by
        intro p2 hr
        have hr := hr.trans hX1
        have he := bx_eq hr he
        obtain ⟨X2, hX2⟩ : ∃ r : Int32, r = (if p2 = (-1) then p1 else (if p1 = (-1) then p2 else (if p1 ≤ p2 then p1 else p2))) := ⟨_, rfl⟩
        have J2 : ∀ p3 : Int32, p3 = X2 → Wp l 249 (d + 4) 0 0 P 0 0 57 [(0, .ref 74), (1, .int x1), (2, .int x2), (3, .int p3), (4, .int (nI k))] [] SH (I, F, L, RT t) := by
          intro p3 hr
          have hr := hr.trans hX2
          have he := bx_eq hr he
          refine bk_249_57 ?_
          exact ih _ he
        have he := hX2.symm
        refine bk_249_35 (fun h3 => ?_) (fun h3 => ?_)
        · have he := ite_p h3 he
          exact J2 _ he
        · have he := ite_n h3 he
          refine bk_249_43 (fun h4 => ?_) (fun h4 => ?_)
          · have he := ite_p h4 he
            refine bk_249_54 ?_
            exact J2 _ he
          · have he := ite_n h4 he
            refine bk_249_48 (fun h5 => ?_) (fun h5 => ?_)
            · have he := ite_p h5 he
              exact J2 _ he
            · have he := ite_n h5 he
              refine bk_249_54 ?_
              exact J2 _ he
      have he := hX1.symm
      have hg := hgX
      refine bk_249_14 (fun h1 => ?_) (fun h1 => ?_)
      · have he := ite_p h1 he
        refine bk_249_34 ?_
        exact J1 _ he
      · have he := ite_n h1 he
        have hg := hg h1
        have k2 := hg
        refine bk_249_24 (cc_183 (d := d + 0)  k2) ?_
        refine bk_249_31 ?_
        exact J1 _ he
  exact loop _ 0 (by omega) _ rfl
/-- VectorShelfModel.nearestIn(II)I -/
def v_249 (I : WI) (x1 : Int32) (x2 : Int32) : Int32 := (bx ((lp_249_5 I x1 x2 ((-1) : Int32) ((I 74 18).toNatClampNeg)) : Int32) (fun p4 => p4))
def g_249 (I : WI) (x1 : Int32) (x2 : Int32) : Prop := (gl_249_5 I x1 x2 ((-1) : Int32) ((I 74 18).toNatClampNeg))
theorem cc_249 {l : LX} {d : Nat} {I : WI} {F : WF} {L : WL} {t : Nat} {x1 : Int32} {x2 : Int32} (hg : g_249 I x1 x2) : Con l 249 (d + 4) 0 0 [.ref 74, .int x1, .int x2] SH (I, F, L, RT t) (rI (v_249 I x1 x2) (I, F, L, RT t)) := by
  refine cn_249 ?_
  obtain ⟨T1, hT1⟩ : ∃ r : Int32, r = (v_249 I x1 x2) := ⟨_, rfl⟩
  rw [← hT1]
  have he := (hT1.trans (v_249.eq_1 ..)).symm
  have hg := Eq.mp (g_249.eq_1 ..) hg
  refine bk_249_0 ?_
  have hgX := hg
  refine lw_249_5 (d := d)  hgX (fun p4 hr => ?_)
  have he := bx_eq hr he
  exact bk_249_63 (rl_p_I he)
/-- the loop at 70 of VectorShelfModel.cover -/
def lp_250_70 (I : WI) (x1 : Int32) (x4 : Int32) : Nat → WI
  | 0 => I
  | k + 1 => bx (lp_250_70 I x1 x4 k) (fun p3 => (bx ((if (v_180 p3 (nI k)) = 0 then 0 else (if x1 < (v_183 p3 x4 (nI k)) then 0 else 1)) : Int32) (fun p4 => (up2 p3 100 x4.toNatClampNeg ((p3 100 x4.toNatClampNeg) ||| (p4 <<< ((nI k) &&& 31)))))))
def gl_250_70 (I : WI) (x1 : Int32) (x4 : Int32) (N : Nat) : Prop := ((∀ k, k < N → bx (lp_250_70 I x1 x4 k) (fun p3 => (((p3 74 18) = (I 74 18)) ∧ ((vp_in x4 12) ∧ ((g_180 p3 (nI k)) ∧ ((¬ ((v_180 p3 (nI k)) = 0) → (g_183 p3 x4 (nI k))) ∧ (bx ((if (v_180 p3 (nI k)) = 0 then 0 else (if x1 < (v_183 p3 x4 (nI k)) then 0 else 1)) : Int32) (fun p4 => (vp_in x4 12))))))))) ∧ (bx (lp_250_70 I x1 x4 N) (fun p3 => (p3 74 18) = (I 74 18))))
theorem lw_250_70 {l : LX} {d : Nat} {P : RP} {I : WI} {F : WF} {L : WL} {t : Nat} {x1 : Int32} {x2 : Int32} {x3 : Int32} {x4 : Int32} (hgl : gl_250_70 I x1 x4 ((I 74 18).toNatClampNeg)) (hx : ∀ p3 : WI, p3 = lp_250_70 I x1 x4 ((I 74 18).toNatClampNeg) → Wp l 250 (d + 4) 0 0 P 0 0 124 [(0, .ref 74), (1, .int x1), (2, .int x2), (3, .int x3), (4, .int x4)] [] SH (p3, F, L, RT t)) : Wp l 250 (d + 4) 0 0 P 0 0 70 [(0, .ref 74), (1, .int x1), (2, .int x2), (3, .int x3), (4, .int x4), (5, .int 0)] [] SH (I, F, L, RT t) := by
  obtain ⟨hin, hend⟩ := hgl
  have loop : ∀ m k, k + m = (I 74 18).toNatClampNeg → ∀ p3 : WI, p3 = lp_250_70 I x1 x4 k → Wp l 250 (d + 4) 0 0 P 0 0 70 [(0, .ref 74), (1, .int x1), (2, .int x2), (3, .int x3), (4, .int x4), (5, .int (nI k))] [] SH (p3, F, L, RT t) := by
    intro m
    induction m with
    | zero =>
      intro k hk p3 hs
      obtain rfl : k = (I 74 18).toNatClampNeg := by omega
      have hE := bx_un hs hend
      exact bk_250_70  (fun _ => hx _ hs) (fun h => absurd ((show (p3 74 18) ≤ (nI ((I 74 18).toNatClampNeg)) from by rw [show (p3 74 18) = (I 74 18) from hE]; exact (le_cl (Nat.le_refl _)).mpr rfl)) h)
    | succ m ih =>
      intro k hk p3 hs
      have hk2 : k < (I 74 18).toNatClampNeg := by omega
      have ih := ih (k + 1) (by omega)
      rw [nI_succ] at ih
      have he := bx_eq hs (lp_250_70.eq_2 ..).symm
      have hg := bx_un hs (hin k hk2)
      have hE : (p3 74 18) = (I 74 18) := hg.1
      have hg := hg.2
      refine bk_250_70  (fun h => absurd ((le_cl (by omega)).mp (by rw [show (p3 74 18) = (I 74 18) from hE] at h; exact h)) (by omega)) (fun _ => ?_)
      obtain ⟨k8, k9, hg⟩ := hg
      refine bk_250_79 k8 (cc_180 (d := d + 3)  k9) ?_
      obtain ⟨hgX, hg⟩ := hg
      obtain ⟨X2, hX2⟩ : ∃ r : Int32, r = (if (v_180 p3 (nI k)) = 0 then 0 else (if x1 < (v_183 p3 x4 (nI k)) then 0 else 1)) := ⟨_, rfl⟩
      have J2 : ∀ p4 : Int32, p4 = X2 → Wp l 250 (d + 4) 0 0 P 0 0 113 [(0, .ref 74), (1, .int x1), (2, .int x2), (3, .int x3), (4, .int x4), (5, .int (nI k))] [.int p4, .int (p3 100 x4.toNatClampNeg), .int x4, .ref 100] SH (p3, F, L, RT t) := by
        intro p4 hr
        have hr := hr.trans hX2
        have he := bx_eq hr he
        have hg := bx_un hr hg
        have k13 := hg
        refine bk_250_113 k13 ?_
        exact ih _ he
      have he := hX2.symm
      have hg := hgX
      refine bk_250_93 (fun h10 => ?_) (fun h10 => ?_)
      · have he := ite_p h10 he
        refine bk_250_112 ?_
        exact J2 _ he
      · have he := ite_n h10 he
        have hg := hg h10
        have k11 := hg
        refine bk_250_96 (cc_183 (d := d + 0)  k11) ?_
        refine bk_250_104 (fun h12 => ?_) (fun h12 => ?_)
        · have he := ite_p h12 he
          refine bk_250_112 ?_
          exact J2 _ he
        · have he := ite_n h12 he
          refine bk_250_108 ?_
          exact J2 _ he
  exact loop _ 0 (by omega) _ rfl
/-- the loop at 30 of VectorShelfModel.cover -/
def lp_250_30 (I : WI) (x1 : Int32) (a3 : Int32) : Nat → Int32 × WI
  | 0 => (a3, I)
  | k + 1 => bx (lp_250_30 I x1 a3 k) (fun p1 => (bx ((if (v_180 p1.2 (nI k)) = 0 then 0 else 1) : Int32) (fun p2 => (bx ((lp_250_70 (up2 p1.2 100 (nI k).toNatClampNeg 0) x1 (nI k) (((up2 p1.2 100 (nI k).toNatClampNeg 0) 74 18).toNatClampNeg)) : WI) (fun p5 => ((p1.1 ||| (p2 <<< ((nI k) &&& 31))), p5))))))
def gl_250_30 (I : WI) (x1 : Int32) (a3 : Int32) (N : Nat) : Prop := ((∀ k, k < N → bx (lp_250_30 I x1 a3 k) (fun p1 => (((p1.2 74 18) = (I 74 18)) ∧ ((g_180 p1.2 (nI k)) ∧ (bx ((if (v_180 p1.2 (nI k)) = 0 then 0 else 1) : Int32) (fun p2 => ((vp_in (nI k) 12) ∧ (gl_250_70 (up2 p1.2 100 (nI k).toNatClampNeg 0) x1 (nI k) (((up2 p1.2 100 (nI k).toNatClampNeg 0) 74 18).toNatClampNeg))))))))) ∧ (bx (lp_250_30 I x1 a3 N) (fun p1 => (p1.2 74 18) = (I 74 18))))
theorem lw_250_30 {l : LX} {d : Nat} {P : RP} {I : WI} {F : WF} {L : WL} {t : Nat} {x1 : Int32} {x2 : Int32} {a3 : Int32} (hgl : gl_250_30 I x1 a3 ((I 74 18).toNatClampNeg)) (hx : ∀ p1 : Int32 × WI, p1 = lp_250_30 I x1 a3 ((I 74 18).toNatClampNeg) → Wp l 250 (d + 4) 0 0 P 0 0 130 [(0, .ref 74), (2, .int x2), (3, .int p1.1)] [] SH (p1.2, F, L, RT t)) : Wp l 250 (d + 4) 0 0 P 0 0 30 [(0, .ref 74), (1, .int x1), (2, .int x2), (3, .int a3), (4, .int 0)] [] SH (I, F, L, RT t) := by
  obtain ⟨hin, hend⟩ := hgl
  have loop : ∀ m k, k + m = (I 74 18).toNatClampNeg → ∀ p1 : Int32 × WI, p1 = lp_250_30 I x1 a3 k → Wp l 250 (d + 4) 0 0 P 0 0 30 [(0, .ref 74), (1, .int x1), (2, .int x2), (3, .int p1.1), (4, .int (nI k))] [] SH (p1.2, F, L, RT t) := by
    intro m
    induction m with
    | zero =>
      intro k hk p1 hs
      obtain rfl : k = (I 74 18).toNatClampNeg := by omega
      have hE := bx_un hs hend
      exact bk_250_30  (fun _ => hx _ hs) (fun h => absurd ((show (p1.2 74 18) ≤ (nI ((I 74 18).toNatClampNeg)) from by rw [show (p1.2 74 18) = (I 74 18) from hE]; exact (le_cl (Nat.le_refl _)).mpr rfl)) h)
    | succ m ih =>
      intro k hk p1 hs
      have hk2 : k < (I 74 18).toNatClampNeg := by omega
      have ih := ih (k + 1) (by omega)
      rw [nI_succ] at ih
      have he := bx_eq hs (lp_250_30.eq_2 ..).symm
      have hg := bx_un hs (hin k hk2)
      have hE : (p1.2 74 18) = (I 74 18) := hg.1
      have hg := hg.2
      refine bk_250_30  (fun h => absurd ((le_cl (by omega)).mp (by rw [show (p1.2 74 18) = (I 74 18) from hE] at h; exact h)) (by omega)) (fun _ => ?_)
      obtain ⟨k5, hg⟩ := hg
      refine bk_250_39 (cc_180 (d := d + 3)  k5) ?_
      obtain ⟨X1, hX1⟩ : ∃ r : Int32, r = (if (v_180 p1.2 (nI k)) = 0 then 0 else 1) := ⟨_, rfl⟩
      have J1 : ∀ p2 : Int32, p2 = X1 → Wp l 250 (d + 4) 0 0 P 0 0 54 [(0, .ref 74), (1, .int x1), (2, .int x2), (4, .int (nI k))] [.int p2, .int p1.1] SH (p1.2, F, L, RT t) := by
        intro p2 hr
        have hr := hr.trans hX1
        have he := bx_eq hr he
        have hg := bx_un hr hg
        obtain ⟨k7, hg⟩ := hg
        refine bk_250_54 k7 ?_
        have hgX := hg
        refine lw_250_70 (d := d)  hgX (fun p5 hr => ?_)
        have he := bx_eq hr he
        refine bk_250_124 ?_
        exact ih _ he
      have he := hX1.symm
      refine bk_250_46 (fun h6 => ?_) (fun h6 => ?_)
      · have he := ite_p h6 he
        refine bk_250_53 ?_
        exact J1 _ he
      · have he := ite_n h6 he
        refine bk_250_49 ?_
        exact J1 _ he
  exact loop _ 0 (by omega) _ rfl
/-- the loop at 136 of VectorShelfModel.cover -/
def lp_250_136 (I : WI) (x3 : Int32) (a4 : Int32) : Nat → Int32
  | 0 => a4
  | k + 1 => bx (lp_250_136 I x3 a4 k) (fun p7 => (bx ((if ¬ ((nI k) &&& (x3 ^^^ (-1))) = 0 then p7 else (if p7 = (-1) then (if (v_252 I (nI k)) = 0 then p7 else (nI k)) else (if (v_251 p7) ≤ (v_251 (nI k)) then p7 else (if (v_252 I (nI k)) = 0 then p7 else (nI k))))) : Int32) (fun p8 => p8)))
def gl_250_136 (I : WI) (x3 : Int32) (a4 : Int32) (N : Nat) : Prop := (∀ k, k < N → bx (lp_250_136 I x3 a4 k) (fun p7 => (¬ (¬ ((nI k) &&& (x3 ^^^ (-1))) = 0) → (((p7 = (-1)) → (g_252 I (nI k))) ∧ (¬ (p7 = (-1)) → ((g_251 (nI k)) ∧ ((g_251 p7) ∧ (¬ ((v_251 p7) ≤ (v_251 (nI k))) → (g_252 I (nI k))))))))))
theorem lw_250_136 {l : LX} {d : Nat} {P : RP} {I : WI} {F : WF} {L : WL} {t : Nat} {x2 : Int32} {x3 : Int32} {a4 : Int32} (hgl : gl_250_136 I x3 a4 ((1 <<< ((I 74 18) &&& 31)).toNatClampNeg)) (hx : ∀ p7 : Int32, p7 = lp_250_136 I x3 a4 ((1 <<< ((I 74 18) &&& 31)).toNatClampNeg) → Wp l 250 (d + 4) 0 0 P 0 0 194 [(2, .int x2), (4, .int p7)] [] SH (I, F, L, RT t)) : Wp l 250 (d + 4) 0 0 P 0 0 136 [(0, .ref 74), (2, .int x2), (3, .int x3), (4, .int a4), (5, .int 0)] [] SH (I, F, L, RT t) := by
  have hin := hgl
  have loop : ∀ m k, k + m = (1 <<< ((I 74 18) &&& 31)).toNatClampNeg → ∀ p7 : Int32, p7 = lp_250_136 I x3 a4 k → Wp l 250 (d + 4) 0 0 P 0 0 136 [(0, .ref 74), (2, .int x2), (3, .int x3), (4, .int p7), (5, .int (nI k))] [] SH (I, F, L, RT t) := by
    intro m
    induction m with
    | zero =>
      intro k hk p7 hs
      obtain rfl : k = (1 <<< ((I 74 18) &&& 31)).toNatClampNeg := by omega
      exact bk_250_136  (fun _ => hx _ hs) (fun h => absurd ((le_cl (Nat.le_refl _)).mpr rfl) h)
    | succ m ih =>
      intro k hk p7 hs
      have hk2 : k < (1 <<< ((I 74 18) &&& 31)).toNatClampNeg := by omega
      have ih := ih (k + 1) (by omega)
      rw [nI_succ] at ih
      have he := bx_eq hs (lp_250_136.eq_2 ..).symm
      have hg := bx_un hs (hin k hk2)
      refine bk_250_136  (fun h => absurd ((le_cl (by omega)).mp h) (by omega)) (fun _ => ?_)
      have hgX := hg
      obtain ⟨X3, hX3⟩ : ∃ r : Int32, r = (if ¬ ((nI k) &&& (x3 ^^^ (-1))) = 0 then p7 else (if p7 = (-1) then (if (v_252 I (nI k)) = 0 then p7 else (nI k)) else (if (v_251 p7) ≤ (v_251 (nI k)) then p7 else (if (v_252 I (nI k)) = 0 then p7 else (nI k))))) := ⟨_, rfl⟩
      have J3 : ∀ p8 : Int32, p8 = X3 → Wp l 250 (d + 4) 0 0 P 0 0 188 [(0, .ref 74), (2, .int x2), (3, .int x3), (4, .int p8), (5, .int (nI k))] [] SH (I, F, L, RT t) := by
        intro p8 hr
        have hr := hr.trans hX3
        have he := bx_eq hr he
        refine bk_250_188 ?_
        exact ih _ he
      have he := hX3.symm
      have hg := hgX
      refine bk_250_147 (fun h14 => ?_) (fun h14 => ?_)
      · have he := ite_p h14 he
        exact J3 _ he
      · have he := ite_n h14 he
        have hg := hg h14
        refine bk_250_156 (fun h15 => ?_) (fun h15 => ?_)
        · have he := ite_p h15 he
          have hg := hg.1 h15
          have k16 := hg
          refine bk_250_175 (cc_252 (d := d + 2)  k16) ?_
          refine bk_250_181 (fun h17 => ?_) (fun h17 => ?_)
          · have he := ite_p h17 he
            exact J3 _ he
          · have he := ite_n h17 he
            refine bk_250_184 ?_
            exact J3 _ he
        · have he := ite_n h15 he
          have hg := hg.2 h15
          obtain ⟨k18, hg⟩ := hg
          refine bk_250_162 (cc_251 (d := d + 3)  k18) ?_
          obtain ⟨k19, hg⟩ := hg
          refine bk_250_167 (cc_251 (d := d + 3)  k19) ?_
          refine bk_250_172 (fun h20 => ?_) (fun h20 => ?_)
          · have he := ite_p h20 he
            exact J3 _ he
          · have he := ite_n h20 he
            have hg := hg h20
            have k21 := hg
            refine bk_250_175 (cc_252 (d := d + 2)  k21) ?_
            refine bk_250_181 (fun h22 => ?_) (fun h22 => ?_)
            · have he := ite_p h22 he
              exact J3 _ he
            · have he := ite_n h22 he
              refine bk_250_184 ?_
              exact J3 _ he
  exact loop _ 0 (by omega) _ rfl
/-- VectorShelfModel.cover(II)I -/
def v_250 (I : WI) (x1 : Int32) (x2 : Int32) : Int32 × WI := (if (v_170 (Int32.toInt64 x1) (0 : Int64) (999999999 : Int64)) = 0 then ((-2), I) else (if ¬ (v_170 (Int32.toInt64 x2) (0 : Int64) (1 : Int64)) = 0 then (bx ((lp_250_30 I x1 (0 : Int32) ((I 74 18).toNatClampNeg)) : Int32 × WI) (fun p6 => (bx ((lp_250_136 p6.2 p6.1 ((-1) : Int32) ((1 <<< ((p6.2 74 18) &&& 31)).toNatClampNeg)) : Int32) (fun p9 => (if ¬ p9 = (-1) then (if ¬ x2 = 0 then (p9, p6.2) else ((v_251 p9), p6.2)) else ((-1), p6.2)))))) else ((-2), I)))
def g_250 (I : WI) (x1 : Int32) (x2 : Int32) : Prop := (¬ ((v_170 (Int32.toInt64 x1) (0 : Int64) (999999999 : Int64)) = 0) → ((¬ (v_170 (Int32.toInt64 x2) (0 : Int64) (1 : Int64)) = 0) → ((gl_250_30 I x1 (0 : Int32) ((I 74 18).toNatClampNeg)) ∧ (bx ((lp_250_30 I x1 (0 : Int32) ((I 74 18).toNatClampNeg)) : Int32 × WI) (fun p6 => ((gl_250_136 p6.2 p6.1 ((-1) : Int32) ((1 <<< ((p6.2 74 18) &&& 31)).toNatClampNeg)) ∧ (bx ((lp_250_136 p6.2 p6.1 ((-1) : Int32) ((1 <<< ((p6.2 74 18) &&& 31)).toNatClampNeg)) : Int32) (fun p9 => ((¬ p9 = (-1)) → (¬ (¬ x2 = 0) → (g_251 p9)))))))))))
theorem cc_250 {l : LX} {d : Nat} {I : WI} {F : WF} {L : WL} {t : Nat} {x1 : Int32} {x2 : Int32} (hg : g_250 I x1 x2) : Con l 250 (d + 4) 0 0 [.ref 74, .int x1, .int x2] SH (I, F, L, RT t) (po_I_I F L t (v_250 I x1 x2)) := by
  refine cn_250 ?_
  obtain ⟨T1, hT1⟩ : ∃ r : Int32 × WI, r = (v_250 I x1 x2) := ⟨_, rfl⟩
  rw [← hT1]
  have he := (hT1.trans (v_250.eq_1 ..)).symm
  have hg := Eq.mp (g_250.eq_1 ..) hg
  refine bk_250_0 (cc_170 (d := d + 3) ) ?_
  refine bk_250_9 (fun h2 => ?_) (fun h2 => ?_)
  · have he := ite_p h2 he
    exact bk_250_22 (rl_I_I he)
  · have he := ite_n h2 he
    have hg := hg h2
    refine bk_250_12 (cc_170 (d := d + 3) ) ?_
    refine bk_250_19 (fun h4 => ?_) (fun h4 => ?_)
    · have he := ite_p h4 he
      have hg := hg h4
      refine bk_250_25 ?_
      obtain ⟨hgX, hg⟩ := hg
      refine lw_250_30 (d := d)  hgX (fun p6 hr => ?_)
      have he := bx_eq hr he
      have hg := bx_un hr hg
      refine bk_250_130 ?_
      obtain ⟨hgX, hg⟩ := hg
      refine lw_250_136 (d := d)  hgX (fun p9 hr => ?_)
      have he := bx_eq hr he
      have hg := bx_un hr hg
      refine bk_250_194 (fun h23 => ?_) (fun h23 => ?_)
      · have he := ite_p h23 he
        have hg := hg h23
        refine bk_250_204 (fun h24 => ?_) (fun h24 => ?_)
        · have he := ite_p h24 he
          refine bk_250_216 ?_
          exact bk_250_218 (rl_I_I he)
        · have he := ite_n h24 he
          have hg := hg h24
          have k25 := hg
          refine bk_250_208 (cc_251 (d := d + 3)  k25) ?_
          refine bk_250_213 ?_
          exact bk_250_218 (rl_I_I he)
      · have he := ite_n h23 he
        refine bk_250_200 ?_
        exact bk_250_218 (rl_I_I he)
    · have he := ite_n h4 he
      exact bk_250_22 (rl_I_I he)
end
