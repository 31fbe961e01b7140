section
/-- the loop at 68 of VectorShelf.goes -/
def lp_139_68 (x1 : Int32) (x2 : Int32) (x3 : Int32) : Nat → Int32 → WI → Int32 × WI
  | 0, x4, I => (0, I)
  | k + 1, x4, I => (if 40 < x4 then ((-1), I) else (if ¬ (v_107 ((I 4 x1.toNatClampNeg) + (x4 * x2)) ((-999) : Int32) (999 : Int32)) = 0 then (if (v_23 (up2 I 24 x1.toNatClampNeg ((I 4 x1.toNatClampNeg) + (x4 * x2))) 21) = x3 then (lp_139_68 x1 x2 x3 k (x4 + 1) (up2 I 24 x1.toNatClampNeg ((I 4 x1.toNatClampNeg) + (x4 * x2)))) else (x4, (up2 I 24 x1.toNatClampNeg ((I 4 x1.toNatClampNeg) + (x4 * x2))))) else ((-1), I)))
def gl_139_68 (x1 : Int32) (x2 : Int32) (x3 : Int32) : Nat → Int32 → WI → Prop
  | 0, _, _ => False
  | k + 1, x4, I => (¬ (40 < x4) → ((vp_in x1 3) ∧ ((¬ (v_107 ((I 4 x1.toNatClampNeg) + (x4 * x2)) ((-999) : Int32) (999 : Int32)) = 0) → ((vp_in x1 3) ∧ ((g_23 (up2 I 24 x1.toNatClampNeg ((I 4 x1.toNatClampNeg) + (x4 * x2))) 21) ∧ (((v_23 (up2 I 24 x1.toNatClampNeg ((I 4 x1.toNatClampNeg) + (x4 * x2))) 21) = x3) → (gl_139_68 x1 x2 x3 k (x4 + 1) (up2 I 24 x1.toNatClampNeg ((I 4 x1.toNatClampNeg) + (x4 * x2))))))))))
theorem lw_139_68 {l : LX} {d : Nat} {F : WF} {L : WL} {t : Nat} {x1 : Int32} {x2 : Int32} {x3 : Int32} : ∀ k : Nat, ∀ (x4 : Int32) (I : WI), gl_139_68 x1 x2 x3 k x4 I → Wp l 139 (d + 5) 0 0 (po_I_I F L t (lp_139_68 x1 x2 x3 k x4 I)) 0 0 68 [(0, .ref 0), (1, .int x1), (2, .int x2), (3, .int x3), (4, .int x4)] [] SH (I, F, L, RT t) := by
  intro k
  induction k with
  | zero =>
    intro x4 I hg
    exact hg.elim
  | succ k ih =>
    intro x4 I hg
    have hg := Eq.mp (gl_139_68.eq_2 ..) hg
    obtain ⟨T1, hT1⟩ : ∃ r : Int32 × WI, r = lp_139_68 x1 x2 x3 (k + 1) x4 I := ⟨_, rfl⟩
    rw [← hT1]
    have he := (hT1.trans (lp_139_68.eq_2 ..)).symm
    refine bk_139_68 (fun h9 => ?_) (fun h9 => ?_)
    · have he := ite_p h9 he
      exact bk_139_142 (rl_I_I he)
    · have he := ite_n h9 he
      have hg := hg h9
      obtain ⟨k10, hg⟩ := hg
      refine bk_139_75 k10 (cc_107 (d := d + 4) ) ?_
      refine bk_139_102 (fun h12 => ?_) (fun h12 => ?_)
      · have he := ite_p h12 he
        have hg := hg h12
        obtain ⟨k13, k14, hg⟩ := hg
        refine bk_139_107 k13 (cc_23 (d := d + 1) (by first | decide | (unfold isS; decide) | (unfold isS; omega)) k14) ?_
        refine bk_139_129 (fun h15 => ?_) (fun h15 => ?_)
        · have he := ite_p h15 he
          have hg := hg h15
          refine bk_139_136 ?_
          exact Wp_eq (post := fun r => (po_I_I F L t r)) he (ih (x4 + 1) (up2 I 24 x1.toNatClampNeg ((I 4 x1.toNatClampNeg) + (x4 * x2))) hg)
        · have he := ite_n h15 he
          exact bk_139_133 (rl_I_I he)
      · have he := ite_n h12 he
        exact bk_139_105 (rl_I_I he)
/-- VectorShelf.goes(II)I -/
def v_139 (I : WI) (x1 : Int32) (x2 : Int32) : Int32 × WI := (if (v_107 x1 (0 : Int32) (2 : Int32)) = 0 then ((-2), I) else (if ¬ (v_107 x2 ((-99) : Int32) (99 : Int32)) = 0 then (bx ((v_115 I 1) : Nat) (fun p1 => (bx ((v_12 I 1 p1) : WI) (fun p2 => (bx ((v_76 p2 21 1) : WI) (fun p3 => (lp_139_68 x1 x2 (v_23 p2 1) 400 (1 : Int32) p3))))))) else ((-2), I)))
def g_139 (I : WI) (x1 : Int32) (x2 : Int32) : Prop := (¬ ((v_107 x1 (0 : Int32) (2 : Int32)) = 0) → ((¬ (v_107 x2 ((-99) : Int32) (99 : Int32)) = 0) → ((g_115 I 1) ∧ ((isT (v_115 I 1)) ∧ (bx ((v_115 I 1) : Nat) (fun p1 => ((g_12 I 1 p1) ∧ (bx ((v_12 I 1 p1) : WI) (fun p2 => ((g_23 p2 1) ∧ (bx ((v_76 p2 21 1) : WI) (fun p3 => (gl_139_68 x1 x2 (v_23 p2 1) 400 (1 : Int32) p3)))))))))))))
theorem cc_139 {l : LX} {d : Nat} {I : WI} {F : WF} {L : WL} {t : Nat} {x1 : Int32} {x2 : Int32} (hg : g_139 I x1 x2) : Con l 139 (d + 5) 0 0 [.ref 0, .int x1, .int x2] SH (I, F, L, RT t) (po_I_I F L t (v_139 I x1 x2)) := by
  refine cn_139 ?_
  obtain ⟨T1, hT1⟩ : ∃ r : Int32 × WI, r = (v_139 I x1 x2) := ⟨_, rfl⟩
  rw [← hT1]
  have he := (hT1.trans (v_139.eq_1 ..)).symm
  have hg := Eq.mp (g_139.eq_1 ..) hg
  refine bk_139_0 (cc_107 (d := d + 4) ) ?_
  refine bk_139_6 (fun h2 => ?_) (fun h2 => ?_)
  · have he := ite_p h2 he
    exact bk_139_20 (rl_I_I he)
  · have he := ite_n h2 he
    have hg := hg h2
    refine bk_139_9 (cc_107 (d := d + 4) ) ?_
    refine bk_139_17 (fun h4 => ?_) (fun h4 => ?_)
    · have he := ite_p h4 he
      have hg := hg h4
      obtain ⟨k5, hp1k, hg⟩ := hg
      obtain ⟨p1, hr⟩ : ∃ q : Nat, q = (v_115 I 1) := ⟨_, rfl⟩
      have hp1 : isT p1 := by rw [hr]; exact hp1k
      have he := bx_eq hr he
      have hg := bx_un hr hg
      refine bk_139_23 (show Con l 115 _ 0 0 _ SH _ (rR p1 _) from by rw [hr]; exact (cc_115 (d := d + 3) (by first | decide | (unfold isS; decide) | (unfold isS; omega)) k5)) ?_
      obtain ⟨k6, hg⟩ := hg
      refine bk_139_39 (cq_V_I (cc_12 (d := d + 0) (by first | decide | (unfold isS; decide) | (unfold isS; omega)) hp1 k6)) ?_
      rintro _ _ _ _ ⟨p2, hr, rfl, rfl, rfl, rfl⟩
      have he := bx_eq hr he
      have hg := bx_un hr hg
      obtain ⟨k7, hg⟩ := hg
      refine bk_139_42 (cc_23 (d := d + 1) (by first | decide | (unfold isS; decide) | (unfold isS; omega)) k7) ?_
      refine bk_139_53 (cq_V_I (cc_76 (d := d + 2) (by first | decide | (unfold isS; decide) | (unfold isS; omega)) (by first | decide | (unfold isS; decide) | (unfold isS; omega)))) ?_
      rintro _ _ _ _ ⟨p3, hr, rfl, rfl, rfl, rfl⟩
      have he := bx_eq hr he
      have hg := bx_un hr hg
      refine bk_139_65 ?_
      exact Wp_eq (post := fun r => (po_I_I F L t r)) he (lw_139_68 (d := d)  400 (1 : Int32) p3 hg)
    · have he := ite_n h4 he
      exact bk_139_20 (rl_I_I he)
/-- the loop at 4 of VectorShelf.textsTelling -/
def lp_149_4 (I : WI) (F : WF) (r1 : Nat) (a2 : Int32) : Nat → Int32 × WI
  | 0 => (a2, I)
  | k + 1 => bx (lp_149_4 I F r1 a2 k) (fun p1 => (bx ((45 + 2 * ((nI k).toNatClampNeg)) : Nat) (fun p2 => (bx ((v_12 p1.2 21 p2) : WI) (fun p3 => (bx ((v_147 p3 F r1) : Int32 × WI) (fun p4 => (bx ((if ¬ p4.1 = (-1) then p1.1 else (p1.1 ||| (1 <<< ((nI k) &&& 31)))) : Int32) (fun p5 => (p5, p4.2))))))))))
def gl_149_4 (I : WI) (F : WF) (r1 : Nat) (a2 : Int32) (N : Nat) : Prop := ((∀ k, k < N → bx (lp_149_4 I F r1 a2 k) (fun p1 => (((p1.2 0 9) = (I 0 9)) ∧ ((vp_in (nI k) 6) ∧ (bx ((45 + 2 * ((nI k).toNatClampNeg)) : Nat) (fun p2 => ((g_12 p1.2 21 p2) ∧ (bx ((v_12 p1.2 21 p2) : WI) (fun p3 => (g_147 p3 F r1)))))))))) ∧ (bx (lp_149_4 I F r1 a2 N) (fun p1 => (p1.2 0 9) = (I 0 9))))
theorem lw_149_4 {l : LX} {d : Nat} {P : RP} {I : WI} {F : WF} {L : WL} {t : Nat} {r1 : Nat} {a2 : Int32} (hr1 : isH r1) (hgl : gl_149_4 I F r1 a2 ((I 0 9).toNatClampNeg)) (hx : ∀ p1 : Int32 × WI, p1 = lp_149_4 I F r1 a2 ((I 0 9).toNatClampNeg) → Wp l 149 (d + 5) 0 0 P 0 0 50 [(2, .int p1.1)] [] SH (p1.2, F, L, RT t)) : Wp l 149 (d + 5) 0 0 P 0 0 4 [(0, .ref 0), (1, .ref r1), (2, .int a2), (3, .int 0)] [] SH (I, F, L, RT t) := by
  obtain ⟨hin, hend⟩ := hgl
  have loop : ∀ m k, k + m = (I 0 9).toNatClampNeg → ∀ p1 : Int32 × WI, p1 = lp_149_4 I F r1 a2 k → Wp l 149 (d + 5) 0 0 P 0 0 4 [(0, .ref 0), (1, .ref r1), (2, .int p1.1), (3, .int (nI k))] [] SH (p1.2, F, L, RT t) := by
    intro m
    induction m with
    | zero =>
      intro k hk p1 hs
      obtain rfl : k = (I 0 9).toNatClampNeg := by omega
      have hE := bx_un hs hend
      exact bk_149_4  (fun _ => hx _ hs) (fun h => absurd ((show (p1.2 0 9) ≤ (nI ((I 0 9).toNatClampNeg)) from by rw [show (p1.2 0 9) = (I 0 9) from hE]; exact (le_cl (Nat.le_refl _)).mpr rfl)) h)
    | succ m ih =>
      intro k hk p1 hs
      have hk2 : k < (I 0 9).toNatClampNeg := by omega
      have ih := ih (k + 1) (by omega)
      rw [nI_succ] at ih
      have he := bx_eq hs (lp_149_4.eq_2 ..).symm
      have hg := bx_un hs (hin k hk2)
      have hE : (p1.2 0 9) = (I 0 9) := hg.1
      have hg := hg.2
      refine bk_149_4  (fun h => absurd ((le_cl (E := (I 0 9)) (i := k) (by omega)).mp (by rw [show (p1.2 0 9) = (I 0 9) from hE] at h; exact h)) (by omega)) (fun _ => ?_)
      obtain ⟨k1, hg⟩ := hg
      obtain ⟨p2, hnp2⟩ : ∃ q : Nat, q = (45 + 2 * ((nI k).toNatClampNeg)) := ⟨_, rfl⟩
      have hp2 : isT p2 := by rw [hnp2]; exact isT_at k1
      have he := bx_eq hnp2 he
      have hg := bx_un hnp2 hg
      refine bk_149_12 k1 (show RT t 44 (nI k).toNatClampNeg = some p2 from by rw [hnp2]; exact RT_at44 k1) ?_
      obtain ⟨k2, hg⟩ := hg
      refine bk_149_26 (cq_V_I (cc_12 (d := d + 0) (by first | decide | (unfold isS; decide) | (unfold isS; omega)) hp2 k2)) ?_
      rintro _ _ _ _ ⟨p3, hr, rfl, rfl, rfl, rfl⟩
      have he := bx_eq hr he
      have hg := bx_un hr hg
      have k3 := hg
      refine bk_149_29 (cq_I_I (cc_147 (d := d + 0) hr1 k3)) ?_
      rintro _ _ _ _ _ ⟨p4, hr, rfl, rfl, rfl, rfl, rfl⟩
      have he := bx_eq hr he
      obtain ⟨X1, hX1⟩ : ∃ r : Int32, r = (if ¬ p4.1 = (-1) then p1.1 else (p1.1 ||| (1 <<< ((nI k) &&& 31)))) := ⟨_, rfl⟩
      have J1 : ∀ p5 : Int32, p5 = X1 → Wp l 149 (d + 5) 0 0 P 0 0 44 [(0, .ref 0), (1, .ref r1), (2, .int p5), (3, .int (nI k))] [] SH (p4.2, F, L, RT t) := by
        intro p5 hr
        have hr := hr.trans hX1
        have he := bx_eq hr he
        refine bk_149_44 ?_
        exact ih (p5, p4.2) he
      have he := hX1.symm
      refine bk_149_34 (fun h4 => ?_) (fun h4 => ?_)
      · have he := ite_p h4 he
        exact J1 p1.1 he
      · have he := ite_n h4 he
        refine bk_149_38 ?_
        exact J1 (p1.1 ||| (1 <<< ((nI k) &&& 31))) he
  exact loop _ 0 (Nat.zero_add _) _ rfl
/-- VectorShelf.textsTelling(LVectorShelf$Sheet;)I -/
def v_149 (I : WI) (F : WF) (r1 : Nat) : Int32 × WI := (bx ((lp_149_4 I F r1 (0 : Int32) ((I 0 9).toNatClampNeg)) : Int32 × WI) (fun p6 => (p6.1, p6.2)))
def g_149 (I : WI) (F : WF) (r1 : Nat) : Prop := (gl_149_4 I F r1 (0 : Int32) ((I 0 9).toNatClampNeg))
theorem cc_149 {l : LX} {d : Nat} {I : WI} {F : WF} {L : WL} {t : Nat} {r1 : Nat} (hr1 : isH r1) (hg : g_149 I F r1) : Con l 149 (d + 5) 0 0 [.ref 0, .ref r1] SH (I, F, L, RT t) (po_I_I F L t (v_149 I F r1)) := by
  refine cn_149 ?_
  obtain ⟨T1, hT1⟩ : ∃ r : Int32 × WI, r = (v_149 I F r1) := ⟨_, rfl⟩
  rw [← hT1]
  have he := (hT1.trans (v_149.eq_1 ..)).symm
  have hg := Eq.mp (g_149.eq_1 ..) hg
  refine bk_149_0 ?_
  have hgX := hg
  refine lw_149_4 (d := d) hr1 hgX (fun p6 hr => ?_)
  have he := bx_eq hr he
  exact bk_149_50 (rl_I_I he)
/-- the loop at 66 of VectorShelf.film -/
def lp_152_66 (I : WI) (F : WF) (v3 : Nat) : Nat → WI × WF
  | 0 => (I, F)
  | k + 1 => bx (lp_152_66 I F v3 k) (fun p6 => (bx ((v_78 p6.1 21 (nI k)) : WI) (fun p7 => (bx ((v_47 p7 p6.2 v3 (nI k) (v_23 p7 21)) : WI × WF) (fun p8 => (p8.1, p8.2))))))
def gl_152_66 (I : WI) (F : WF) (v3 : Nat) (N : Nat) : Prop := (∀ k, k < N → bx (lp_152_66 I F v3 k) (fun p6 => ((g_78 p6.1 21 (nI k)) ∧ (bx ((v_78 p6.1 21 (nI k)) : WI) (fun p7 => ((g_23 p7 21) ∧ (g_47 p7 v3 (nI k) (v_23 p7 21))))))))
theorem lw_152_66 {l : LX} {d : Nat} {P : RP} {I : WI} {F : WF} {L : WL} {t : Nat} {x2 : Int32} {v3 : Nat} (hv3 : isH v3) (hgl : gl_152_66 I F v3 x2.toNatClampNeg) (hx : ∀ p6 : WI × WF, p6 = lp_152_66 I F v3 x2.toNatClampNeg → Wp l 152 (d + 5) 0 0 P 0 0 104 [(2, .int x2)] [] SH (p6.1, p6.2, L, RT t)) : Wp l 152 (d + 5) 0 0 P 0 0 66 [(0, .ref 0), (2, .int x2), (3, .ref v3), (4, .int 0)] [] SH (I, F, L, RT t) := by
  have hin := hgl
  have loop : ∀ m k, k + m = x2.toNatClampNeg → ∀ p6 : WI × WF, p6 = lp_152_66 I F v3 k → Wp l 152 (d + 5) 0 0 P 0 0 66 [(0, .ref 0), (2, .int x2), (3, .ref v3), (4, .int (nI k))] [] SH (p6.1, p6.2, L, RT t) := by
    intro m
    induction m with
    | zero =>
      intro k hk p6 hs
      obtain rfl : k = x2.toNatClampNeg := by omega
      exact bk_152_66  (fun _ => hx _ hs) (fun h => absurd ((le_cl (Nat.le_refl _)).mpr rfl) h)
    | succ m ih =>
      intro k hk p6 hs
      have hk2 : k < x2.toNatClampNeg := by omega
      have ih := ih (k + 1) (by omega)
      rw [nI_succ] at ih
      have he := bx_eq hs (lp_152_66.eq_2 ..).symm
      have hg := bx_un hs (hin k hk2)
      refine bk_152_66  (fun h => absurd ((le_cl (E := x2) (i := k) (by omega)).mp h) (by omega)) (fun _ => ?_)
      obtain ⟨k10, hg⟩ := hg
      refine bk_152_72 (cq_V_I (cc_78 (d := d + 3) (by first | decide | (unfold isS; decide) | (unfold isS; omega)) k10)) ?_
      rintro _ _ _ _ ⟨p7, hr, rfl, rfl, rfl, rfl⟩
      have he := bx_eq hr he
      have hg := bx_un hr hg
      obtain ⟨k11, hg⟩ := hg
      refine bk_152_81 (cc_23 (d := d + 1) (by first | decide | (unfold isS; decide) | (unfold isS; omega)) k11) ?_
      have k12 := hg
      refine bk_152_95 hv3 (cq_V_IF (cc_47 (d := d + 4) hv3 k12)) ?_
      rintro _ _ _ _ ⟨p8, hr, rfl, rfl, rfl, rfl⟩
      have he := bx_eq hr he
      refine bk_152_98 ?_
      exact ih (p8.1, p8.2) he
  exact loop _ 0 (Nat.zero_add _) _ rfl
/-- VectorShelf.film(II)I -/
def v_152 (I : WI) (F : WF) (x1 : Int32) (x2 : Int32) : Int32 × WI × WF := (if (v_146 x1) = 0 then ((-2), I, F) else (if ¬ (v_107 x2 (0 : Int32) (12 : Int32)) = 0 then (bx ((v_115 I 1) : Nat) (fun p1 => (bx ((v_12 I 1 p1) : WI) (fun p2 => (bx ((v_76 p2 21 1) : WI) (fun p3 => (bx ((58 + 4 * x1.toNatClampNeg) : Nat) (fun p4 => (bx ((v_46 p3 F p4 (2 : Int32) x2) : WI × WF) (fun p5 => (bx ((lp_152_66 p5.1 p5.2 p4 x2.toNatClampNeg) : WI × WF) (fun p9 => (x2, p9.1, p9.2))))))))))))) else ((-2), I, F)))
def g_152 (I : WI) (F : WF) (x1 : Int32) (x2 : Int32) : Prop := (¬ ((v_146 x1) = 0) → ((¬ (v_107 x2 (0 : Int32) (12 : Int32)) = 0) → ((g_115 I 1) ∧ ((isT (v_115 I 1)) ∧ (bx ((v_115 I 1) : Nat) (fun p1 => ((g_12 I 1 p1) ∧ (bx ((v_12 I 1 p1) : WI) (fun p2 => (bx ((v_76 p2 21 1) : WI) (fun p3 => ((vp_in x1 4) ∧ (bx ((58 + 4 * x1.toNatClampNeg) : Nat) (fun p4 => ((g_46 p3 F p4 (2 : Int32) x2) ∧ (bx ((v_46 p3 F p4 (2 : Int32) x2) : WI × WF) (fun p5 => (gl_152_66 p5.1 p5.2 p4 x2.toNatClampNeg))))))))))))))))))
theorem cc_152 {l : LX} {d : Nat} {I : WI} {F : WF} {L : WL} {t : Nat} {x1 : Int32} {x2 : Int32} (hg : g_152 I F x1 x2) : Con l 152 (d + 5) 0 0 [.ref 0, .int x1, .int x2] SH (I, F, L, RT t) (po_I_IF L t (v_152 I F x1 x2)) := by
  refine cn_152 ?_
  obtain ⟨T1, hT1⟩ : ∃ r : Int32 × WI × WF, r = (v_152 I F x1 x2) := ⟨_, rfl⟩
  rw [← hT1]
  have he := (hT1.trans (v_152.eq_1 ..)).symm
  have hg := Eq.mp (g_152.eq_1 ..) hg
  refine bk_152_0 (cc_146 (d := d + 3) ) ?_
  refine bk_152_4 (fun h2 => ?_) (fun h2 => ?_)
  · have he := ite_p h2 he
    exact bk_152_17 (rl_I_IF he)
  · have he := ite_n h2 he
    have hg := hg h2
    refine bk_152_7 (cc_107 (d := d + 4) ) ?_
    refine bk_152_14 (fun h4 => ?_) (fun h4 => ?_)
    · have he := ite_p h4 he
      have hg := hg h4
      obtain ⟨k5, hp1k, hg⟩ := hg
      obtain ⟨p1, hr⟩ : ∃ q : Nat, q = (v_115 I 1) := ⟨_, rfl⟩
      have hp1 : isT p1 := by rw [hr]; exact hp1k
      have he := bx_eq hr he
      have hg := bx_un hr hg
      refine bk_152_20 (show Con l 115 _ 0 0 _ SH _ (rR p1 _) from by rw [hr]; exact (cc_115 (d := d + 3) (by first | decide | (unfold isS; decide) | (unfold isS; omega)) k5)) ?_
      obtain ⟨k6, hg⟩ := hg
      refine bk_152_36 (cq_V_I (cc_12 (d := d + 0) (by first | decide | (unfold isS; decide) | (unfold isS; omega)) hp1 k6)) ?_
      rintro _ _ _ _ ⟨p2, hr, rfl, rfl, rfl, rfl⟩
      have he := bx_eq hr he
      have hg := bx_un hr hg
      refine bk_152_39 (cq_V_I (cc_76 (d := d + 2) (by first | decide | (unfold isS; decide) | (unfold isS; omega)) (by first | decide | (unfold isS; decide) | (unfold isS; omega)))) ?_
      rintro _ _ _ _ ⟨p3, hr, rfl, rfl, rfl, rfl⟩
      have he := bx_eq hr he
      have hg := bx_un hr hg
      obtain ⟨k8, hg⟩ := hg
      obtain ⟨p4, hnp4⟩ : ∃ q : Nat, q = (58 + 4 * x1.toNatClampNeg) := ⟨_, rfl⟩
      have hp4 : isH p4 := by rw [hnp4]; exact isH_at k8
      have he := bx_eq hnp4 he
      have hg := bx_un hnp4 hg
      refine bk_152_50 k8 (show RT t 57 x1.toNatClampNeg = some p4 from by rw [hnp4]; exact RT_at57 k8) ?_
      obtain ⟨k9, hg⟩ := hg
      refine bk_152_56 hp4 (cq_V_IF (cc_46 (d := d + 3) hp4 k9)) ?_
      rintro _ _ _ _ ⟨p5, hr, rfl, rfl, rfl, rfl⟩
      have he := bx_eq hr he
      have hg := bx_un hr hg
      refine bk_152_63 ?_
      have hgX := hg
      refine lw_152_66 (d := d) hp4 hgX (fun p9 hr => ?_)
      have he := bx_eq hr he
      exact bk_152_104 (rl_I_IF he)
    · have he := ite_n h4 he
      exact bk_152_17 (rl_I_IF he)
/-- VectorShelf.count(I)I -/
def v_155 (I : WI) (x1 : Int32) : Int32 × WI := (if x1 = 0 then ((I 1 8), I) else (if x1 = 1 then ((I 1 4), I) else (if x1 = 2 then ((v_286 (I 1 12)), I) else (if x1 = 3 then ((I 0 9), I) else (if x1 = 4 then ((I 31 1), I) else (if x1 = 5 then ((I 1 2), I) else (if x1 = 6 then (bx ((v_120 I) : Int32 × WI) (fun p1 => ((v_286 p1.1), p1.2))) else (if x1 = 7 then ((I 2 0), I) else ((-2), I)))))))))
def g_155 (I : WI) (x1 : Int32) : Prop := ((x1 = 0 → True) ∧ (¬ (x1 = 0) → ((x1 = 1 → True) ∧ (¬ (x1 = 1) → ((x1 = 2 → True) ∧ (¬ (x1 = 2) → ((x1 = 3 → True) ∧ (¬ (x1 = 3) → ((x1 = 4 → True) ∧ (¬ (x1 = 4) → ((x1 = 5 → True) ∧ (¬ (x1 = 5) → ((x1 = 6 → (g_120 I)) ∧ (¬ (x1 = 6) → True))))))))))))))
theorem cc_155 {l : LX} {d : Nat} {I : WI} {F : WF} {L : WL} {t : Nat} {x1 : Int32} (hg : g_155 I x1) : Con l 155 (d + 6) 0 0 [.ref 0, .int x1] SH (I, F, L, RT t) (po_I_I F L t (v_155 I x1)) := by
  refine cn_155 ?_
  obtain ⟨T1, hT1⟩ : ∃ r : Int32 × WI, r = (v_155 I x1) := ⟨_, rfl⟩
  rw [← hT1]
  have he := (hT1.trans (v_155.eq_1 ..)).symm
  have hg := Eq.mp (g_155.eq_1 ..) hg
  refine bk_155_0 (fun h1 => ?_) (fun h1 => ?_) (fun h1 => ?_) (fun h1 => ?_) (fun h1 => ?_) (fun h1 => ?_) (fun h1 => ?_) (fun h1 => ?_) (fun h1x0 h1x1 h1x2 h1x3 h1x4 h1x5 h1x6 h1x7 => ?_)
  · have he := ite_p h1 he
    exact bk_155_48 (rl_I_I he)
  · have he := ite_n (show ¬ x1 = 0 from fun e => absurd (h1.symm.trans e) (by decide)) he
    have hg := hg.2 (show ¬ x1 = 0 from fun e => absurd (h1.symm.trans e) (by decide))
    have he := ite_p h1 he
    exact bk_155_56 (rl_I_I he)
  · have he := ite_n (show ¬ x1 = 0 from fun e => absurd (h1.symm.trans e) (by decide)) he
    have hg := hg.2 (show ¬ x1 = 0 from fun e => absurd (h1.symm.trans e) (by decide))
    have he := ite_n (show ¬ x1 = 1 from fun e => absurd (h1.symm.trans e) (by decide)) he
    have hg := hg.2 (show ¬ x1 = 1 from fun e => absurd (h1.symm.trans e) (by decide))
    have he := ite_p h1 he
    refine bk_155_64 (cc_286 (d := d + 5) ) ?_
    exact bk_155_74 (rl_I_I he)
  · have he := ite_n (show ¬ x1 = 0 from fun e => absurd (h1.symm.trans e) (by decide)) he
    have hg := hg.2 (show ¬ x1 = 0 from fun e => absurd (h1.symm.trans e) (by decide))
    have he := ite_n (show ¬ x1 = 1 from fun e => absurd (h1.symm.trans e) (by decide)) he
    have hg := hg.2 (show ¬ x1 = 1 from fun e => absurd (h1.symm.trans e) (by decide))
    have he := ite_n (show ¬ x1 = 2 from fun e => absurd (h1.symm.trans e) (by decide)) he
    have hg := hg.2 (show ¬ x1 = 2 from fun e => absurd (h1.symm.trans e) (by decide))
    have he := ite_p h1 he
    exact bk_155_75 (rl_I_I he)
  · have he := ite_n (show ¬ x1 = 0 from fun e => absurd (h1.symm.trans e) (by decide)) he
    have hg := hg.2 (show ¬ x1 = 0 from fun e => absurd (h1.symm.trans e) (by decide))
    have he := ite_n (show ¬ x1 = 1 from fun e => absurd (h1.symm.trans e) (by decide)) he
    have hg := hg.2 (show ¬ x1 = 1 from fun e => absurd (h1.symm.trans e) (by decide))
    have he := ite_n (show ¬ x1 = 2 from fun e => absurd (h1.symm.trans e) (by decide)) he
    have hg := hg.2 (show ¬ x1 = 2 from fun e => absurd (h1.symm.trans e) (by decide))
    have he := ite_n (show ¬ x1 = 3 from fun e => absurd (h1.symm.trans e) (by decide)) he
    have hg := hg.2 (show ¬ x1 = 3 from fun e => absurd (h1.symm.trans e) (by decide))
    have he := ite_p h1 he
    exact bk_155_80 (rl_I_I he)
  · have he := ite_n (show ¬ x1 = 0 from fun e => absurd (h1.symm.trans e) (by decide)) he
    have hg := hg.2 (show ¬ x1 = 0 from fun e => absurd (h1.symm.trans e) (by decide))
    have he := ite_n (show ¬ x1 = 1 from fun e => absurd (h1.symm.trans e) (by decide)) he
    have hg := hg.2 (show ¬ x1 = 1 from fun e => absurd (h1.symm.trans e) (by decide))
    have he := ite_n (show ¬ x1 = 2 from fun e => absurd (h1.symm.trans e) (by decide)) he
    have hg := hg.2 (show ¬ x1 = 2 from fun e => absurd (h1.symm.trans e) (by decide))
    have he := ite_n (show ¬ x1 = 3 from fun e => absurd (h1.symm.trans e) (by decide)) he
    have hg := hg.2 (show ¬ x1 = 3 from fun e => absurd (h1.symm.trans e) (by decide))
    have he := ite_n (show ¬ x1 = 4 from fun e => absurd (h1.symm.trans e) (by decide)) he
    have hg := hg.2 (show ¬ x1 = 4 from fun e => absurd (h1.symm.trans e) (by decide))
    have he := ite_p h1 he
    exact bk_155_88 (rl_I_I he)
  · have he := ite_n (show ¬ x1 = 0 from fun e => absurd (h1.symm.trans e) (by decide)) he
    have hg := hg.2 (show ¬ x1 = 0 from fun e => absurd (h1.symm.trans e) (by decide))
    have he := ite_n (show ¬ x1 = 1 from fun e => absurd (h1.symm.trans e) (by decide)) he
    have hg := hg.2 (show ¬ x1 = 1 from fun e => absurd (h1.symm.trans e) (by decide))
    have he := ite_n (show ¬ x1 = 2 from fun e => absurd (h1.symm.trans e) (by decide)) he
    have hg := hg.2 (show ¬ x1 = 2 from fun e => absurd (h1.symm.trans e) (by decide))
    have he := ite_n (show ¬ x1 = 3 from fun e => absurd (h1.symm.trans e) (by decide)) he
    have hg := hg.2 (show ¬ x1 = 3 from fun e => absurd (h1.symm.trans e) (by decide))
    have he := ite_n (show ¬ x1 = 4 from fun e => absurd (h1.symm.trans e) (by decide)) he
    have hg := hg.2 (show ¬ x1 = 4 from fun e => absurd (h1.symm.trans e) (by decide))
    have he := ite_n (show ¬ x1 = 5 from fun e => absurd (h1.symm.trans e) (by decide)) he
    have hg := hg.2 (show ¬ x1 = 5 from fun e => absurd (h1.symm.trans e) (by decide))
    have he := ite_p h1 he
    have hg := hg.1 h1
    have k3 := hg
    refine bk_155_96 (cq_I_I (cc_120 (d := d + 0)  k3)) ?_
    rintro _ _ _ _ _ ⟨p1, hr, rfl, rfl, rfl, rfl, rfl⟩
    have he := bx_eq hr he
    refine bk_155_100 (cc_286 (d := d + 5) ) ?_
    exact bk_155_103 (rl_I_I he)
  · have he := ite_n (show ¬ x1 = 0 from fun e => absurd (h1.symm.trans e) (by decide)) he
    have he := ite_n (show ¬ x1 = 1 from fun e => absurd (h1.symm.trans e) (by decide)) he
    have he := ite_n (show ¬ x1 = 2 from fun e => absurd (h1.symm.trans e) (by decide)) he
    have he := ite_n (show ¬ x1 = 3 from fun e => absurd (h1.symm.trans e) (by decide)) he
    have he := ite_n (show ¬ x1 = 4 from fun e => absurd (h1.symm.trans e) (by decide)) he
    have he := ite_n (show ¬ x1 = 5 from fun e => absurd (h1.symm.trans e) (by decide)) he
    have he := ite_n (show ¬ x1 = 6 from fun e => absurd (h1.symm.trans e) (by decide)) he
    have he := ite_p h1 he
    exact bk_155_104 (rl_I_I he)
  · have he := ite_n h1x0 he
    have he := ite_n h1x1 he
    have he := ite_n h1x2 he
    have he := ite_n h1x3 he
    have he := ite_n h1x4 he
    have he := ite_n h1x5 he
    have he := ite_n h1x6 he
    have he := ite_n h1x7 he
    exact bk_155_115 (rl_I_I he)
/-- the loop at 55 of VectorShelf.shelve -/
def lp_163_55 (F : WF) (x3 : Int32) (x4 : Int32) (v6 : Nat) : Nat → Int32 → Int32 → WI → Int32 × WI
  | 0, x7, x8, I => (0, I)
  | k + 1, x7, x8, I => (if x4 ≤ x8 then (x7, I) else (if ¬ (v_48 I v6 (x3 + (4 * x8)) (4 : Int32)) = 0 then (bx ((v_108 I (v_45 I F v6 (x3 + (4 * x8))) (v_45 I F v6 ((x3 + (4 * x8)) + 1)) (v_45 I F v6 ((x3 + (4 * x8)) + 2)) (v_45 I F v6 ((x3 + (4 * x8)) + 3))) : Int32 × WI) (fun p2 => (bx ((if p2.1 < 0 then x7 else (x7 + 1)) : Int32) (fun p3 => (lp_163_55 F x3 x4 v6 k p3 (x8 + 1) p2.2))))) else ((-12), I)))
def gl_163_55 (F : WF) (x3 : Int32) (x4 : Int32) (v6 : Nat) : Nat → Int32 → Int32 → WI → Prop
  | 0, _, _, _ => False
  | k + 1, x7, x8, I => (¬ (x4 ≤ x8) → ((¬ (v_48 I v6 (x3 + (4 * x8)) (4 : Int32)) = 0) → ((g_45 I F v6 (x3 + (4 * x8))) ∧ ((g_45 I F v6 ((x3 + (4 * x8)) + 1)) ∧ ((g_45 I F v6 ((x3 + (4 * x8)) + 2)) ∧ ((g_45 I F v6 ((x3 + (4 * x8)) + 3)) ∧ ((g_108 I (v_45 I F v6 (x3 + (4 * x8))) (v_45 I F v6 ((x3 + (4 * x8)) + 1)) (v_45 I F v6 ((x3 + (4 * x8)) + 2)) (v_45 I F v6 ((x3 + (4 * x8)) + 3))) ∧ (bx ((v_108 I (v_45 I F v6 (x3 + (4 * x8))) (v_45 I F v6 ((x3 + (4 * x8)) + 1)) (v_45 I F v6 ((x3 + (4 * x8)) + 2)) (v_45 I F v6 ((x3 + (4 * x8)) + 3))) : Int32 × WI) (fun p2 => (bx ((if p2.1 < 0 then x7 else (x7 + 1)) : Int32) (fun p3 => (gl_163_55 F x3 x4 v6 k p3 (x8 + 1) p2.2))))))))))))
theorem lw_163_55 {l : LX} {d : Nat} {F : WF} {L : WL} {t : Nat} {x3 : Int32} {x4 : Int32} {v6 : Nat} (hv6 : isH v6) : ∀ k : Nat, ∀ (x7 : Int32) (x8 : Int32) (I : WI), gl_163_55 F x3 x4 v6 k x7 x8 I → Wp l 163 (d + 5) 0 0 (po_I_I F L t (lp_163_55 F x3 x4 v6 k x7 x8 I)) 0 0 55 [(0, .ref 0), (3, .int x3), (4, .int x4), (6, .ref v6), (7, .int x7), (8, .int x8)] [] SH (I, F, L, RT t) := by
  intro k
  induction k with
  | zero =>
    intro x7 x8 I hg
    exact hg.elim
  | succ k ih =>
    intro x7 x8 I hg
    have hg := Eq.mp (gl_163_55.eq_2 ..) hg
    obtain ⟨T1, hT1⟩ : ∃ r : Int32 × WI, r = lp_163_55 F x3 x4 v6 (k + 1) x7 x8 I := ⟨_, rfl⟩
    rw [← hT1]
    have he := (hT1.trans (lp_163_55.eq_2 ..)).symm
    refine bk_163_55 (fun h8 => ?_) (fun h8 => ?_)
    · have he := ite_p h8 he
      exact bk_163_134 (rl_I_I he)
    · have he := ite_n h8 he
      have hg := hg h8
      refine bk_163_62 hv6 (cc_48 (d := d + 4) hv6) ?_
      refine bk_163_78 (fun h10 => ?_) (fun h10 => ?_)
      · have he := ite_p h10 he
        have hg := hg h10
        obtain ⟨k11, hg⟩ := hg
        refine bk_163_84 hv6 (cc_45 (d := d + 4) hv6 k11) ?_
        obtain ⟨k12, hg⟩ := hg
        refine bk_163_92 hv6 (cc_45 (d := d + 4) hv6 k12) ?_
        obtain ⟨k13, hg⟩ := hg
        refine bk_163_101 hv6 (cc_45 (d := d + 4) hv6 k13) ?_
        obtain ⟨k14, hg⟩ := hg
        refine bk_163_110 hv6 (cc_45 (d := d + 4) hv6 k14) ?_
        obtain ⟨k15, hg⟩ := hg
        refine bk_163_119 (cq_I_I (cc_108 (d := d + 0)  k15)) ?_
        rintro _ _ _ _ _ ⟨p2, hr, rfl, rfl, rfl, rfl, rfl⟩
        have he := bx_eq hr he
        have hg := bx_un hr hg
        obtain ⟨X1, hX1⟩ : ∃ r : Int32, r = (if p2.1 < 0 then x7 else (x7 + 1)) := ⟨_, rfl⟩
        have J1 : ∀ p3 : Int32, p3 = X1 → Wp l 163 (d + 5) 0 0 (po_I_I F L t T1) 0 0 128 [(0, .ref 0), (3, .int x3), (4, .int x4), (6, .ref v6), (7, .int p3), (8, .int x8)] [] SH (p2.2, F, L, RT t) := by
          intro p3 hr
          have hr := hr.trans hX1
          have he := bx_eq hr he
          have hg := bx_un hr hg
          refine bk_163_128 ?_
          exact Wp_eq (post := fun r => (po_I_I F L t r)) he (ih p3 (x8 + 1) p2.2 hg)
        have he := hX1.symm
        refine bk_163_122 (fun h16 => ?_) (fun h16 => ?_)
        · have he := ite_p h16 he
          exact J1 x7 he
        · have he := ite_n h16 he
          refine bk_163_125 ?_
          exact J1 (x7 + 1) he
      · have he := ite_n h10 he
        exact bk_163_81 (rl_I_I he)
/-- VectorShelf.shelve(IIII)I -/
def v_163 (I : WI) (F : WF) (x1 : Int32) (x2 : Int32) (x3 : Int32) (x4 : Int32) : Int32 × WI := (if (v_107 x2 (0 : Int32) (2 : Int32)) = 0 then ((-2), I) else (if ¬ (v_107 x4 (0 : Int32) (12 : Int32)) = 0 then (if (v_158 I x1 x2 (0 : Int32) (0 : Int32)) = 0 then (bx ((58 + 4 * x1.toNatClampNeg) : Nat) (fun p1 => (lp_163_55 F x3 x4 p1 400 (0 : Int32) (0 : Int32) I))) else ((v_158 I x1 x2 (0 : Int32) (0 : Int32)), I)) else ((-2), I)))
def g_163 (I : WI) (F : WF) (x1 : Int32) (x2 : Int32) (x3 : Int32) (x4 : Int32) : Prop := (¬ ((v_107 x2 (0 : Int32) (2 : Int32)) = 0) → ((¬ (v_107 x4 (0 : Int32) (12 : Int32)) = 0) → ((g_158 x1) ∧ (((v_158 I x1 x2 (0 : Int32) (0 : Int32)) = 0) → ((vp_in x1 4) ∧ (bx ((58 + 4 * x1.toNatClampNeg) : Nat) (fun p1 => (gl_163_55 F x3 x4 p1 400 (0 : Int32) (0 : Int32) I))))))))
theorem cc_163 {l : LX} {d : Nat} {I : WI} {F : WF} {L : WL} {t : Nat} {x1 : Int32} {x2 : Int32} {x3 : Int32} {x4 : Int32} (hg : g_163 I F x1 x2 x3 x4) : Con l 163 (d + 5) 0 0 [.ref 0, .int x1, .int x2, .int x3, .int x4] SH (I, F, L, RT t) (po_I_I F L t (v_163 I F x1 x2 x3 x4)) := by
  refine cn_163 ?_
  obtain ⟨T1, hT1⟩ : ∃ r : Int32 × WI, r = (v_163 I F x1 x2 x3 x4) := ⟨_, rfl⟩
  rw [← hT1]
  have he := (hT1.trans (v_163.eq_1 ..)).symm
  have hg := Eq.mp (g_163.eq_1 ..) hg
  refine bk_163_0 (cc_107 (d := d + 4) ) ?_
  refine bk_163_6 (fun h2 => ?_) (fun h2 => ?_)
  · have he := ite_p h2 he
    exact bk_163_20 (rl_I_I he)
  · have he := ite_n h2 he
    have hg := hg h2
    refine bk_163_9 (cc_107 (d := d + 4) ) ?_
    refine bk_163_17 (fun h4 => ?_) (fun h4 => ?_)
    · have he := ite_p h4 he
      have hg := hg h4
      obtain ⟨k5, hg⟩ := hg
      refine bk_163_23 (cc_158 (d := d + 2)  k5) ?_
      refine bk_163_31 (fun h6 => ?_) (fun h6 => ?_)
      · have he := ite_p h6 he
        have hg := hg h6
        obtain ⟨k7, hg⟩ := hg
        obtain ⟨p1, hnp1⟩ : ∃ q : Nat, q = (58 + 4 * x1.toNatClampNeg) := ⟨_, rfl⟩
        have hp1 : isH p1 := by rw [hnp1]; exact isH_at k7
        have he := bx_eq hnp1 he
        have hg := bx_un hnp1 hg
        refine bk_163_41 k7 (show RT t 57 x1.toNatClampNeg = some p1 from by rw [hnp1]; exact RT_at57 k7) ?_
        refine bk_163_47 ?_
        exact Wp_eq (post := fun r => (po_I_I F L t r)) he (lw_163_55 (d := d) hp1 400 (0 : Int32) (0 : Int32) I hg)
      · have he := ite_n h6 he
        exact bk_163_38 (rl_I_I he)
    · have he := ite_n h4 he
      exact bk_163_20 (rl_I_I he)
/-- VectorShelf.ask(II)I -/
def v_164 (I : WI) (F : WF) (x1 : Int32) (x2 : Int32) : Int32 × WI := (if (v_158 I x1 (0 : Int32) x2 (3 : Int32)) = 0 then (bx ((58 + 4 * x1.toNatClampNeg) : Nat) (fun p1 => (bx ((v_70 I 1 (v_51 F p1 x2) (v_51 F p1 (x2 + 1)) (v_51 F p1 (x2 + 2))) : WI) (fun p2 => (bx ((v_120 p2) : Int32 × WI) (fun p3 => ((v_286 p3.1), p3.2))))))) else ((v_158 I x1 (0 : Int32) x2 (3 : Int32)), I))
def g_164 (I : WI) (F : WF) (x1 : Int32) (x2 : Int32) : Prop := ((g_158 x1) ∧ (((v_158 I x1 (0 : Int32) x2 (3 : Int32)) = 0) → ((vp_in x1 4) ∧ (bx ((58 + 4 * x1.toNatClampNeg) : Nat) (fun p1 => ((g_51 F p1 x2) ∧ ((g_51 F p1 (x2 + 1)) ∧ ((g_51 F p1 (x2 + 2)) ∧ (bx ((v_70 I 1 (v_51 F p1 x2) (v_51 F p1 (x2 + 1)) (v_51 F p1 (x2 + 2))) : WI) (fun p2 => (g_120 p2)))))))))))
theorem cc_164 {l : LX} {d : Nat} {I : WI} {F : WF} {L : WL} {t : Nat} {x1 : Int32} {x2 : Int32} (hg : g_164 I F x1 x2) : Con l 164 (d + 6) 0 0 [.ref 0, .int x1, .int x2] SH (I, F, L, RT t) (po_I_I F L t (v_164 I F x1 x2)) := by
  refine cn_164 ?_
  obtain ⟨T1, hT1⟩ : ∃ r : Int32 × WI, r = (v_164 I F x1 x2) := ⟨_, rfl⟩
  rw [← hT1]
  have he := (hT1.trans (v_164.eq_1 ..)).symm
  have hg := Eq.mp (g_164.eq_1 ..) hg
  obtain ⟨k1, hg⟩ := hg
  refine bk_164_0 (cc_158 (d := d + 3)  k1) ?_
  refine bk_164_8 (fun h2 => ?_) (fun h2 => ?_)
  · have he := ite_p h2 he
    have hg := hg h2
    obtain ⟨k3, hg⟩ := hg
    obtain ⟨p1, hnp1⟩ : ∃ q : Nat, q = (58 + 4 * x1.toNatClampNeg) := ⟨_, rfl⟩
    have hp1 : isH p1 := by rw [hnp1]; exact isH_at k3
    have he := bx_eq hnp1 he
    have hg := bx_un hnp1 hg
    refine bk_164_15 k3 (show RT t 57 x1.toNatClampNeg = some p1 from by rw [hnp1]; exact RT_at57 k3) ?_
    obtain ⟨k4, hg⟩ := hg
    refine bk_164_21 hp1 (cc_51 (d := d + 5) hp1 k4) ?_
    obtain ⟨k5, hg⟩ := hg
    refine bk_164_33 hp1 (cc_51 (d := d + 5) hp1 k5) ?_
    obtain ⟨k6, hg⟩ := hg
    refine bk_164_41 hp1 (cc_51 (d := d + 5) hp1 k6) ?_
    refine bk_164_49 (cq_V_I (cc_70 (d := d + 5) (by first | decide | (unfold isS; decide) | (unfold isS; omega)))) ?_
    rintro _ _ _ _ ⟨p2, hr, rfl, rfl, rfl, rfl⟩
    have he := bx_eq hr he
    have hg := bx_un hr hg
    have k8 := hg
    refine bk_164_52 (cq_I_I (cc_120 (d := d + 0)  k8)) ?_
    rintro _ _ _ _ _ ⟨p3, hr, rfl, rfl, rfl, rfl, rfl⟩
    have he := bx_eq hr he
    refine bk_164_56 (cc_286 (d := d + 5) ) ?_
    exact bk_164_59 (rl_I_I he)
  · have he := ite_n h2 he
    exact bk_164_13 (rl_I_I he)
/-- VectorShelfModel.between(II)I -/
def v_183 (I : WI) (x1 : Int32) (x2 : Int32) : Int32 := (bx ((v_185 I (v_184 (I 84 (3 * x1).toNatClampNeg) (I 84 (3 * x2).toNatClampNeg)) (v_184 (I 84 ((3 * x1) + 1).toNatClampNeg) (I 84 ((3 * x2) + 1).toNatClampNeg)) (v_184 (I 84 ((3 * x1) + 2).toNatClampNeg) (I 84 ((3 * x2) + 2).toNatClampNeg))) : Int32) (fun p1 => p1))
def g_183 (I : WI) (x1 : Int32) (x2 : Int32) : Prop := ((vp_in (3 * x1) 36) ∧ ((vp_in (3 * x2) 36) ∧ ((vp_in ((3 * x1) + 1) 36) ∧ ((vp_in ((3 * x2) + 1) 36) ∧ ((vp_in ((3 * x1) + 2) 36) ∧ ((vp_in ((3 * x2) + 2) 36) ∧ (g_185 I (v_184 (I 84 (3 * x1).toNatClampNeg) (I 84 (3 * x2).toNatClampNeg)) (v_184 (I 84 ((3 * x1) + 1).toNatClampNeg) (I 84 ((3 * x2) + 1).toNatClampNeg)) (v_184 (I 84 ((3 * x1) + 2).toNatClampNeg) (I 84 ((3 * x2) + 2).toNatClampNeg)))))))))
theorem cc_183 {l : LX} {d : Nat} {I : WI} {F : WF} {L : WL} {t : Nat} {x1 : Int32} {x2 : Int32} (hg : g_183 I x1 x2) : Con l 183 (d + 3) 0 0 [.ref 74, .int x1, .int x2] SH (I, F, L, RT t) (rI (v_183 I x1 x2) (I, F, L, RT t)) := by
  refine cn_183 ?_
  obtain ⟨T1, hT1⟩ : ∃ r : Int32, r = (v_183 I x1 x2) := ⟨_, rfl⟩
  rw [← hT1]
  have he := (hT1.trans (v_183.eq_1 ..)).symm
  have hg := Eq.mp (g_183.eq_1 ..) hg
  obtain ⟨k1, k2, hg⟩ := hg
  refine bk_183_0 k1 k2 (cc_184 (d := d + 2) ) ?_
  obtain ⟨k4, k5, hg⟩ := hg
  refine bk_183_20 k4 k5 (cc_184 (d := d + 2) ) ?_
  obtain ⟨k7, k8, hg⟩ := hg
  refine bk_183_43 k7 k8 (cc_184 (d := d + 2) ) ?_
  have k10 := hg
  obtain ⟨p1, hr⟩ : ∃ q : Int32, q = (v_185 I (v_184 (I 84 (3 * x1).toNatClampNeg) (I 84 (3 * x2).toNatClampNeg)) (v_184 (I 84 ((3 * x1) + 1).toNatClampNeg) (I 84 ((3 * x2) + 1).toNatClampNeg)) (v_184 (I 84 ((3 * x1) + 2).toNatClampNeg) (I 84 ((3 * x2) + 2).toNatClampNeg))) := ⟨_, rfl⟩
  have he := bx_eq hr he
  refine bk_183_66 (show Con l 185 _ 0 0 _ SH _ (rI p1 _) from by rw [hr]; exact (cc_185 (d := d + 0)  k10)) ?_
  exact bk_183_69 (rl_p_I he)
/-- the loop at 4 of VectorShelfModel.friendOf -/
def lp_246_4 (I : WI) (x1 : Int32) (a2 : Int32) : Nat → Int32
  | 0 => a2
  | k + 1 => bx (lp_246_4 I x1 a2 k) (fun p1 => (bx ((if (nI k) = x1 then p1 else (if (v_180 I (nI k)) = 0 then p1 else (if p1 = (-1) then (nI k) else (if (v_183 I x1 p1) ≤ (v_183 I x1 (nI k)) then p1 else (nI k))))) : Int32) (fun p2 => p2)))
def gl_246_4 (I : WI) (x1 : Int32) (a2 : Int32) (N : Nat) : Prop := (∀ k, k < N → bx (lp_246_4 I x1 a2 k) (fun p1 => (¬ ((nI k) = x1) → ((g_180 I (nI k)) ∧ (¬ ((v_180 I (nI k)) = 0) → (¬ (p1 = (-1)) → ((g_183 I x1 (nI k)) ∧ (g_183 I x1 p1))))))))
theorem lw_246_4 {l : LX} {d : Nat} {P : RP} {I : WI} {F : WF} {L : WL} {t : Nat} {x1 : Int32} {a2 : Int32} (hgl : gl_246_4 I x1 a2 ((I 74 18).toNatClampNeg)) (hx : ∀ p1 : Int32, p1 = lp_246_4 I x1 a2 ((I 74 18).toNatClampNeg) → Wp l 246 (d + 4) 0 0 P 0 0 53 [(2, .int p1)] [] SH (I, F, L, RT t)) : Wp l 246 (d + 4) 0 0 P 0 0 4 [(0, .ref 74), (1, .int x1), (2, .int a2), (3, .int 0)] [] SH (I, F, L, RT t) := by
  have hin := hgl
  have loop : ∀ m k, k + m = (I 74 18).toNatClampNeg → ∀ p1 : Int32, p1 = lp_246_4 I x1 a2 k → Wp l 246 (d + 4) 0 0 P 0 0 4 [(0, .ref 74), (1, .int x1), (2, .int p1), (3, .int (nI k))] [] SH (I, F, L, RT t) := by
    intro m
    induction m with
    | zero =>
      intro k hk p1 hs
      obtain rfl : k = (I 74 18).toNatClampNeg := by omega
      exact bk_246_4  (fun _ => hx _ hs) (fun h => absurd ((le_cl (Nat.le_refl _)).mpr rfl) h)
    | succ m ih =>
      intro k hk p1 hs
      have hk2 : k < (I 74 18).toNatClampNeg := by omega
      have ih := ih (k + 1) (by omega)
      rw [nI_succ] at ih
      have he := bx_eq hs (lp_246_4.eq_2 ..).symm
      have hg := bx_un hs (hin k hk2)
      refine bk_246_4  (fun h => absurd ((le_cl (E := (I 74 18)) (i := k) (by omega)).mp h) (by omega)) (fun _ => ?_)
      have hgX := hg
      obtain ⟨X1, hX1⟩ : ∃ r : Int32, r = (if (nI k) = x1 then p1 else (if (v_180 I (nI k)) = 0 then p1 else (if p1 = (-1) then (nI k) else (if (v_183 I x1 p1) ≤ (v_183 I x1 (nI k)) then p1 else (nI k))))) := ⟨_, rfl⟩
      have J1 : ∀ p2 : Int32, p2 = X1 → Wp l 246 (d + 4) 0 0 P 0 0 47 [(0, .ref 74), (1, .int x1), (2, .int p2), (3, .int (nI k))] [] SH (I, F, L, RT t) := by
        intro p2 hr
        have hr := hr.trans hX1
        have he := bx_eq hr he
        refine bk_246_47 ?_
        exact ih p2 he
      have he := hX1.symm
      have hg := hgX
      refine bk_246_12 (fun h1 => ?_) (fun h1 => ?_)
      · have he := ite_p h1 he
        exact J1 p1 he
      · have he := ite_n h1 he
        have hg := hg h1
        obtain ⟨k2, hg⟩ := hg
        refine bk_246_17 (cc_180 (d := d + 3)  k2) ?_
        refine bk_246_22 (fun h3 => ?_) (fun h3 => ?_)
        · have he := ite_p h3 he
          exact J1 p1 he
        · have he := ite_n h3 he
          have hg := hg h3
          refine bk_246_25 (fun h4 => ?_) (fun h4 => ?_)
          · have he := ite_p h4 he
            refine bk_246_45 ?_
            exact J1 (nI k) he
          · have he := ite_n h4 he
            have hg := hg h4
            obtain ⟨k5, hg⟩ := hg
            refine bk_246_30 (cc_183 (d := d + 0)  k5) ?_
            have k6 := hg
            refine bk_246_36 (cc_183 (d := d + 0)  k6) ?_
            refine bk_246_42 (fun h7 => ?_) (fun h7 => ?_)
            · have he := ite_p h7 he
              exact J1 p1 he
            · have he := ite_n h7 he
              refine bk_246_45 ?_
              exact J1 (nI k) he
  exact loop _ 0 (Nat.zero_add _) _ rfl
/-- VectorShelfModel.friendOf(I)I -/
def v_246 (I : WI) (x1 : Int32) : Int32 := (bx ((lp_246_4 I x1 ((-1) : Int32) ((I 74 18).toNatClampNeg)) : Int32) (fun p3 => p3))
def g_246 (I : WI) (x1 : Int32) : Prop := (gl_246_4 I x1 ((-1) : Int32) ((I 74 18).toNatClampNeg))
theorem cc_246 {l : LX} {d : Nat} {I : WI} {F : WF} {L : WL} {t : Nat} {x1 : Int32} (hg : g_246 I x1) : Con l 246 (d + 4) 0 0 [.ref 74, .int x1] SH (I, F, L, RT t) (rI (v_246 I x1) (I, F, L, RT t)) := by
  refine cn_246 ?_
  obtain ⟨T1, hT1⟩ : ∃ r : Int32, r = (v_246 I x1) := ⟨_, rfl⟩
  rw [← hT1]
  have he := (hT1.trans (v_246.eq_1 ..)).symm
  have hg := Eq.mp (g_246.eq_1 ..) hg
  refine bk_246_0 ?_
  have hgX := hg
  refine lw_246_4 (d := d)  hgX (fun p3 hr => ?_)
  have he := bx_eq hr he
  exact bk_246_53 (rl_p_I he)
/-- the loop at 37 of VectorShelfModel.pair -/
def lp_247_37s (I : WI) (x4 : Int32) (a5 : Int32) (a2 : Int32) (a3 : Int32) : Nat → Int32 × Int32
  | 0 => (a2, a3)
  | k + 1 => bx (lp_247_37s I x4 a5 a2 a3 k) (fun p2 => (bx ((if (v_180 I x4) = 0 then (p2.1, p2.2) else (if (v_180 I (a5 + nI k)) = 0 then (p2.1, p2.2) else (if p2.1 = (-1) then (x4, (a5 + nI k)) else (if (v_183 I p2.1 p2.2) ≤ (v_183 I x4 (a5 + nI k)) then (p2.1, p2.2) else (x4, (a5 + nI k)))))) : Int32 × Int32) (fun p3 => (p3.1, p3.2))))
def gl_247_37s (I : WI) (x4 : Int32) (a5 : Int32) (a2 : Int32) (a3 : Int32) (N : Nat) : Prop := (∀ k, k < N → bx (lp_247_37s I x4 a5 a2 a3 k) (fun p2 => ((g_180 I x4) ∧ (¬ ((v_180 I x4) = 0) → ((g_180 I (a5 + nI k)) ∧ (¬ ((v_180 I (a5 + nI k)) = 0) → (¬ (p2.1 = (-1)) → ((g_183 I x4 (a5 + nI k)) ∧ (g_183 I p2.1 p2.2)))))))))
theorem lw_247_37s {l : LX} {d : Nat} {P : RP} {I : WI} {F : WF} {L : WL} {t : Nat} {x1 : Int32} {x4 : Int32} {a5 : Int32} {a2 : Int32} {a3 : Int32} (hgl : gl_247_37s I x4 a5 a2 a3 (((I 74 18).toInt - a5.toInt).toNat)) (hx : ∀ p2 : Int32 × Int32, p2 = lp_247_37s I x4 a5 a2 a3 (((I 74 18).toInt - a5.toInt).toNat) → Wp l 247 (d + 4) 0 0 P 0 0 98 [(0, .ref 74), (1, .int x1), (2, .int p2.1), (3, .int p2.2), (4, .int x4)] [] SH (I, F, L, RT t)) : Wp l 247 (d + 4) 0 0 P 0 0 37 [(0, .ref 74), (1, .int x1), (2, .int a2), (3, .int a3), (4, .int x4), (5, .int a5)] [] SH (I, F, L, RT t) := by
  have hin := hgl
  have loop : ∀ m k, k + m = ((I 74 18).toInt - a5.toInt).toNat → ∀ p2 : Int32 × Int32, p2 = lp_247_37s I x4 a5 a2 a3 k → Wp l 247 (d + 4) 0 0 P 0 0 37 [(0, .ref 74), (1, .int x1), (2, .int p2.1), (3, .int p2.2), (4, .int x4), (5, .int (a5 + nI k))] [] SH (I, F, L, RT t) := by
    intro m
    induction m with
    | zero =>
      intro k hk p2 hs
      obtain rfl : k = ((I 74 18).toInt - a5.toInt).toNat := by omega
      exact bk_247_37  (fun _ => hx _ hs) (fun h => absurd ((cl_ge (Nat.le_refl _)).mpr rfl) h)
    | succ m ih =>
      intro k hk p2 hs
      have hk2 : k < ((I 74 18).toInt - a5.toInt).toNat := by omega
      have ih := ih (k + 1) (by omega)
      rw [nI_succ, ← Int32.add_assoc] at ih
      have he := bx_eq hs (lp_247_37s.eq_2 ..).symm
      have hg := bx_un hs (hin k hk2)
      refine bk_247_37  (fun h => absurd ((cl_ge (E := (I 74 18)) (a := a5) (k := k) (by omega)).mp h) (by omega)) (fun _ => ?_)
      obtain ⟨k3, hg⟩ := hg
      refine bk_247_46 (cc_180 (d := d + 3)  k3) ?_
      have hgX := hg
      obtain ⟨X1, hX1⟩ : ∃ r : Int32 × Int32, r = (if (v_180 I x4) = 0 then (p2.1, p2.2) else (if (v_180 I (a5 + nI k)) = 0 then (p2.1, p2.2) else (if p2.1 = (-1) then (x4, (a5 + nI k)) else (if (v_183 I p2.1 p2.2) ≤ (v_183 I x4 (a5 + nI k)) then (p2.1, p2.2) else (x4, (a5 + nI k)))))) := ⟨_, rfl⟩
      have J1 : ∀ p3 : Int32 × Int32, p3 = X1 → Wp l 247 (d + 4) 0 0 P 0 0 92 [(0, .ref 74), (1, .int x1), (2, .int p3.1), (3, .int p3.2), (4, .int x4), (5, .int (a5 + nI k))] [] SH (I, F, L, RT t) := by
        intro p3 hr
        have hr := hr.trans hX1
        have he := bx_eq hr he
        refine bk_247_92 ?_
        exact ih (p3.1, p3.2) he
      have he := hX1.symm
      have hg := hgX
      refine bk_247_52 (fun h4 => ?_) (fun h4 => ?_)
      · have he := ite_p h4 he
        exact J1 (p2.1, p2.2) he
      · have he := ite_n h4 he
        have hg := hg h4
        obtain ⟨k5, hg⟩ := hg
        refine bk_247_55 (cc_180 (d := d + 3)  k5) ?_
        refine bk_247_61 (fun h6 => ?_) (fun h6 => ?_)
        · have he := ite_p h6 he
          exact J1 (p2.1, p2.2) he
        · have he := ite_n h6 he
          have hg := hg h6
          refine bk_247_64 (fun h7 => ?_) (fun h7 => ?_)
          · have he := ite_p h7 he
            refine bk_247_86 ?_
            exact J1 (x4, (a5 + nI k)) he
          · have he := ite_n h7 he
            have hg := hg h7
            obtain ⟨k8, hg⟩ := hg
            refine bk_247_69 (cc_183 (d := d + 0)  k8) ?_
            have k9 := hg
            refine bk_247_77 (cc_183 (d := d + 0)  k9) ?_
            refine bk_247_83 (fun h10 => ?_) (fun h10 => ?_)
            · have he := ite_p h10 he
              exact J1 (p2.1, p2.2) he
            · have he := ite_n h10 he
              refine bk_247_86 ?_
              exact J1 (x4, (a5 + nI k)) he
  have h0 := loop _ 0 (Nat.zero_add _) _ rfl
  rw [show a5 + nI 0 = a5 from by rw [nI_0, Int32.add_zero]] at h0
  exact h0
/-- the loop at 22 of VectorShelfModel.pair -/
def lp_247_22 (I : WI) (a2 : Int32) (a3 : Int32) : Nat → Int32 × Int32
  | 0 => (a2, a3)
  | k + 1 => bx (lp_247_22 I a2 a3 k) (fun p1 => (bx ((lp_247_37s I (nI k) ((nI k) + 1) p1.1 p1.2 (((I 74 18).toInt - ((nI k) + 1).toInt).toNat)) : Int32 × Int32) (fun p4 => (p4.1, p4.2))))
def gl_247_22 (I : WI) (a2 : Int32) (a3 : Int32) (N : Nat) : Prop := (∀ k, k < N → bx (lp_247_22 I a2 a3 k) (fun p1 => (gl_247_37s I (nI k) ((nI k) + 1) p1.1 p1.2 (((I 74 18).toInt - ((nI k) + 1).toInt).toNat))))
theorem lw_247_22 {l : LX} {d : Nat} {P : RP} {I : WI} {F : WF} {L : WL} {t : Nat} {x1 : Int32} {a2 : Int32} {a3 : Int32} (hgl : gl_247_22 I a2 a3 ((I 74 18).toNatClampNeg)) (hx : ∀ p1 : Int32 × Int32, p1 = lp_247_22 I a2 a3 ((I 74 18).toNatClampNeg) → Wp l 247 (d + 4) 0 0 P 0 0 104 [(0, .ref 74), (1, .int x1), (2, .int p1.1), (3, .int p1.2)] [] SH (I, F, L, RT t)) : Wp l 247 (d + 4) 0 0 P 0 0 22 [(0, .ref 74), (1, .int x1), (2, .int a2), (3, .int a3), (4, .int 0)] [] SH (I, F, L, RT t) := by
  have hin := hgl
  have loop : ∀ m k, k + m = (I 74 18).toNatClampNeg → ∀ p1 : Int32 × Int32, p1 = lp_247_22 I a2 a3 k → Wp l 247 (d + 4) 0 0 P 0 0 22 [(0, .ref 74), (1, .int x1), (2, .int p1.1), (3, .int p1.2), (4, .int (nI k))] [] SH (I, F, L, RT t) := by
    intro m
    induction m with
    | zero =>
      intro k hk p1 hs
      obtain rfl : k = (I 74 18).toNatClampNeg := by omega
      exact bk_247_22  (fun _ => hx _ hs) (fun h => absurd ((le_cl (Nat.le_refl _)).mpr rfl) h)
    | succ m ih =>
      intro k hk p1 hs
      have hk2 : k < (I 74 18).toNatClampNeg := by omega
      have ih := ih (k + 1) (by omega)
      rw [nI_succ] at ih
      have he := bx_eq hs (lp_247_22.eq_2 ..).symm
      have hg := bx_un hs (hin k hk2)
      refine bk_247_22  (fun h => absurd ((le_cl (E := (I 74 18)) (i := k) (by omega)).mp h) (by omega)) (fun _ => ?_)
      refine bk_247_31 ?_
      have hgX := hg
      refine lw_247_37s (d := d)  hgX (fun p4 hr => ?_)
      have he := bx_eq hr he
      refine bk_247_98 ?_
      exact ih (p4.1, p4.2) he
  exact loop _ 0 (Nat.zero_add _) _ rfl
/-- VectorShelfModel.pair(I)I -/
def v_247 (I : WI) (x1 : Int32) : Int32 := (if ¬ (v_170 (Int32.toInt64 x1) (0 : Int64) (2 : Int64)) = 0 then (bx ((lp_247_22 I ((-1) : Int32) ((-1) : Int32) ((I 74 18).toNatClampNeg)) : Int32 × Int32) (fun p5 => (if ¬ x1 = 0 then (if ¬ x1 = 1 then (if ¬ p5.1 = (-1) then (v_183 I p5.1 p5.2) else (-1)) else p5.2) else p5.1))) else (-2))
def g_247 (I : WI) (x1 : Int32) : Prop := ((¬ (v_170 (Int32.toInt64 x1) (0 : Int64) (2 : Int64)) = 0) → ((gl_247_22 I ((-1) : Int32) ((-1) : Int32) ((I 74 18).toNatClampNeg)) ∧ (bx ((lp_247_22 I ((-1) : Int32) ((-1) : Int32) ((I 74 18).toNatClampNeg)) : Int32 × Int32) (fun p5 => ((¬ x1 = 0) → ((¬ x1 = 1) → ((¬ p5.1 = (-1)) → (g_183 I p5.1 p5.2))))))))
theorem cc_247 {l : LX} {d : Nat} {I : WI} {F : WF} {L : WL} {t : Nat} {x1 : Int32} (hg : g_247 I x1) : Con l 247 (d + 4) 0 0 [.ref 74, .int x1] SH (I, F, L, RT t) (rI (v_247 I x1) (I, F, L, RT t)) := by
  refine cn_247 ?_
  obtain ⟨T1, hT1⟩ : ∃ r : Int32, r = (v_247 I x1) := ⟨_, rfl⟩
  rw [← hT1]
  have he := (hT1.trans (v_247.eq_1 ..)).symm
  have hg := Eq.mp (g_247.eq_1 ..) hg
  refine bk_247_0 (cc_170 (d := d + 3) ) ?_
  refine bk_247_9 (fun h2 => ?_) (fun h2 => ?_)
  · have he := ite_p h2 he
    have hg := hg h2
    refine bk_247_15 ?_
    obtain ⟨hgX, hg⟩ := hg
    refine lw_247_22 (d := d)  hgX (fun p5 hr => ?_)
    have he := bx_eq hr he
    have hg := bx_un hr hg
    refine bk_247_104 (fun h11 => ?_) (fun h11 => ?_)
    · have he := ite_p h11 he
      have hg := hg h11
      refine bk_247_112 (fun h12 => ?_) (fun h12 => ?_)
      · have he := ite_p h12 he
        have hg := hg h12
        refine bk_247_121 (fun h13 => ?_) (fun h13 => ?_)
        · have he := ite_p h13 he
          have hg := hg h13
          have k14 := hg
          refine bk_247_130 (cc_183 (d := d + 0)  k14) ?_
          exact bk_247_136 (rl_p_I he)
        · have he := ite_n h13 he
          refine bk_247_126 ?_
          exact bk_247_136 (rl_p_I he)
      · have he := ite_n h12 he
        refine bk_247_117 ?_
        exact bk_247_136 (rl_p_I he)
    · have he := ite_n h11 he
      refine bk_247_108 ?_
      exact bk_247_136 (rl_p_I he)
  · have he := ite_n h2 he
    exact bk_247_12 (rl_p_I he)
end
