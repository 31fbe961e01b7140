section
/-- the loop at 4 of VectorShelf$Shelf.squaresFromCentres -/
def lp_77_4 (I : WI) (b : Nat) (a1 : Int32) : Nat → Int32
  | 0 => a1
  | k + 1 => bx (lp_77_4 I b a1 k) (fun p1 => (bx ((if (v_61 I b (nI k)) = 0 then p1 else (if (I (b + 9) (nI k).toNatClampNeg) = (-1) then p1 else (p1 + (v_59 I b (nI k) (I (b + 9) (nI k).toNatClampNeg))))) : Int32) (fun p2 => p2)))
def gl_77_4 (I : WI) (b : Nat) (a1 : Int32) (N : Nat) : Prop := (∀ k, k < N → bx (lp_77_4 I b a1 k) (fun p1 => (¬ ((v_61 I b (nI k)) = 0) → ((vp_in (nI k) 12) ∧ (¬ ((I (b + 9) (nI k).toNatClampNeg) = (-1)) → ((vp_in (nI k) 12) ∧ (g_59 I b (nI k) (I (b + 9) (nI k).toNatClampNeg))))))))
theorem lw_77_4 {l : LX} {d : Nat} {P : RP} {I : WI} {F : WF} {L : WL} {t : Nat} {b : Nat} {a1 : Int32} (hb : isS b) (hgl : gl_77_4 I b a1 ((I b 8).toNatClampNeg)) (hx : ∀ p1 : Int32, p1 = lp_77_4 I b a1 ((I b 8).toNatClampNeg) → Wp l 77 (d + 2) 0 0 P 0 0 50 [(1, .int p1)] [] SH (I, F, L, RT t)) : Wp l 77 (d + 2) 0 0 P 0 0 4 [(0, .ref b), (1, .int a1), (2, .int 0)] [] SH (I, F, L, RT t) := by
  have hin := hgl
  have loop : ∀ m k, k + m = (I b 8).toNatClampNeg → ∀ p1 : Int32, p1 = lp_77_4 I b a1 k → Wp l 77 (d + 2) 0 0 P 0 0 4 [(0, .ref b), (1, .int p1), (2, .int (nI k))] [] SH (I, F, L, RT t) := by
    intro m
    induction m with
    | zero =>
      intro k hk p1 hs
      obtain rfl : k = (I b 8).toNatClampNeg := by omega
      exact bk_77_4 hb (fun _ => hx _ hs) (fun h => absurd ((le_cl (Nat.le_refl _)).mpr rfl) h)
    | succ m ih =>
      intro k hk p1 hs
      have hk2 : k < (I b 8).toNatClampNeg := by omega
      have ih := ih (k + 1) (by omega)
      rw [nI_succ] at ih
      have he := bx_eq hs (lp_77_4.eq_2 ..).symm
      have hg := bx_un hs (hin k hk2)
      refine bk_77_4 hb (fun h => absurd ((le_cl (E := (I b 8)) (i := k) (by omega)).mp h) (by omega)) (fun _ => ?_)
      refine bk_77_12 hb (cc_61 (d := d + 0) hb) ?_
      have hgX := hg
      obtain ⟨X1, hX1⟩ : ∃ r : Int32, r = (if (v_61 I b (nI k)) = 0 then p1 else (if (I (b + 9) (nI k).toNatClampNeg) = (-1) then p1 else (p1 + (v_59 I b (nI k) (I (b + 9) (nI k).toNatClampNeg))))) := ⟨_, rfl⟩
      have J1 : ∀ p2 : Int32, p2 = X1 → Wp l 77 (d + 2) 0 0 P 0 0 44 [(0, .ref b), (1, .int p2), (2, .int (nI k))] [] SH (I, F, L, RT t) := by
        intro p2 hr
        have hr := hr.trans hX1
        have he := bx_eq hr he
        refine bk_77_44 ?_
        exact ih p2 he
      have he := hX1.symm
      have hg := hgX
      refine bk_77_17 (fun h2 => ?_) (fun h2 => ?_)
      · have he := ite_p h2 he
        exact J1 p1 he
      · have he := ite_n h2 he
        have hg := hg h2
        obtain ⟨k3, hg⟩ := hg
        refine bk_77_20 hb k3 (fun h4 => ?_) (fun h4 => ?_)
        · have he := ite_p h4 he
          exact J1 p1 he
        · have he := ite_n h4 he
          have hg := hg h4
          obtain ⟨k5, k6⟩ := hg
          refine bk_77_30 hb k5 (cc_59 (d := d + 1) hb k6) ?_
          refine bk_77_42 ?_
          exact J1 (p1 + (v_59 I b (nI k) (I (b + 9) (nI k).toNatClampNeg))) he
  exact loop _ 0 (Nat.zero_add _) _ rfl
/-- VectorShelf$Shelf.squaresFromCentres()I -/
def v_77 (I : WI) (b : Nat) : Int32 := (bx ((lp_77_4 I b (0 : Int32) ((I b 8).toNatClampNeg)) : Int32) (fun p3 => p3))
def g_77 (I : WI) (b : Nat) : Prop := (gl_77_4 I b (0 : Int32) ((I b 8).toNatClampNeg))
theorem cc_77 {l : LX} {d : Nat} {I : WI} {F : WF} {L : WL} {t : Nat} {b : Nat} (hb : isS b) (hg : g_77 I b) : Con l 77 (d + 2) 0 0 [.ref b] SH (I, F, L, RT t) (rI (v_77 I b) (I, F, L, RT t)) := by
  refine cn_77 ?_
  obtain ⟨T1, hT1⟩ : ∃ r : Int32, r = (v_77 I b) := ⟨_, rfl⟩
  rw [← hT1]
  have he := (hT1.trans (v_77.eq_1 ..)).symm
  have hg := Eq.mp (g_77.eq_1 ..) hg
  refine bk_77_0 ?_
  have hgX := hg
  refine lw_77_4 (d := d) hb hgX (fun p3 hr => ?_)
  have he := bx_eq hr he
  exact bk_77_50 (rl_p_I he)
/-- VectorShelf$Shelf.standAt(I)V -/
def v_78 (I : WI) (b : Nat) (x1 : Int32) : WI := (if (v_107 x1 (0 : Int32) ((I b 8) - 1)) = 0 then (bx ((v_70 I b (0 : Int32) (0 : Int32) (0 : Int32)) : WI) (fun p1 => p1)) else (bx ((v_70 I b (I (b + 7) (3 * x1).toNatClampNeg) (I (b + 7) ((3 * x1) + 1).toNatClampNeg) (I (b + 7) ((3 * x1) + 2).toNatClampNeg)) : WI) (fun p2 => p2)))
def g_78 (I : WI) (b : Nat) (x1 : Int32) : Prop := (¬ ((v_107 x1 (0 : Int32) ((I b 8) - 1)) = 0) → ((vp_in (3 * x1) 36) ∧ ((vp_in ((3 * x1) + 1) 36) ∧ (vp_in ((3 * x1) + 2) 36))))
theorem cc_78 {l : LX} {d : Nat} {I : WI} {F : WF} {L : WL} {t : Nat} {b : Nat} {x1 : Int32} (hb : isS b) (hg : g_78 I b x1) : Con l 78 (d + 1) 0 0 [.ref b, .int x1] SH (I, F, L, RT t) (po_V_I F L t (v_78 I b x1)) := by
  refine cn_78 ?_
  obtain ⟨T1, hT1⟩ : ∃ r : WI, r = (v_78 I b x1) := ⟨_, rfl⟩
  rw [← hT1]
  have he := (hT1.trans (v_78.eq_1 ..)).symm
  have hg := Eq.mp (g_78.eq_1 ..) hg
  refine bk_78_0 hb (cc_107 (d := d + 0) ) ?_
  refine bk_78_11 (fun h2 => ?_) (fun h2 => ?_)
  · have he := ite_p h2 he
    refine bk_78_49 hb (cq_V_I (cc_70 (d := d + 0) hb)) ?_
    rintro _ _ _ _ ⟨p1, hr, rfl, rfl, rfl, rfl⟩
    have he := bx_eq hr he
    exact bk_78_56 (rl_V_I he)
  · have he := ite_n h2 he
    have hg := hg h2
    obtain ⟨k4, k5, k6⟩ := hg
    refine bk_78_14 hb k4 k5 k6 (cq_V_I (cc_70 (d := d + 0) hb)) ?_
    rintro _ _ _ _ ⟨p2, hr, rfl, rfl, rfl, rfl⟩
    have he := bx_eq hr he
    refine bk_78_46 ?_
    exact bk_78_56 (rl_V_I he)
/-- the loop at 0 of VectorShelf$TextReader.takeWord -/
def lp_89_0 : Nat → WI → WI
  | 0, I => I
  | k + 1, I => (if (I 31 1) ≤ (I 31 3) then I else (if (v_88 (v_86 I (I 31 3))) = 0 then I else (lp_89_0 k (up2 I 31 3 ((I 31 3) + 1)))))
def gl_89_0 : Nat → WI → Prop
  | 0, _ => False
  | k + 1, I => (¬ ((I 31 1) ≤ (I 31 3)) → ((g_86 I (I 31 3)) ∧ (¬ ((v_88 (v_86 I (I 31 3))) = 0) → (gl_89_0 k (up2 I 31 3 ((I 31 3) + 1))))))
theorem lw_89_0 {l : LX} {d : Nat} {P : RP} {F : WF} {L : WL} {t : Nat} : ∀ k : Nat, ∀ (I : WI), gl_89_0 k I → (∀ r : WI, r = lp_89_0 k I → Wp l 89 (d + 10) 0 0 P 0 0 38 [(0, .ref 31)] [] SH (r, F, L, RT t)) → Wp l 89 (d + 10) 0 0 P 0 0 0 [(0, .ref 31)] [] SH (I, F, L, RT t) := by
  intro k
  induction k with
  | zero =>
    intro I hg hx
    exact hg.elim
  | succ k ih =>
    intro I hg hx
    have hg := Eq.mp (gl_89_0.eq_2 ..) hg
    obtain ⟨T1, hT1⟩ : ∃ r : WI, r = lp_89_0 (k + 1) I := ⟨_, rfl⟩
    have hx : ∀ r : WI, r = T1 → Wp l 89 (d + 10) 0 0 P 0 0 38 [(0, .ref 31)] [] SH (r, F, L, RT t) := fun r hr => hx r (hr.trans hT1)
    have he := (hT1.trans (lp_89_0.eq_2 ..)).symm
    refine bk_89_0 (fun h1 => ?_) (fun h1 => ?_)
    · have he := ite_p h1 he
      exact hx I he
    · have he := ite_n h1 he
      have hg := hg h1
      obtain ⟨k2, hg⟩ := hg
      refine bk_89_11 (cc_86 (d := d + 9)  k2) ?_
      refine bk_89_19 (cc_88 (d := d + 9) ) ?_
      refine bk_89_22 (fun h4 => ?_) (fun h4 => ?_)
      · have he := ite_p h4 he
        exact hx I he
      · have he := ite_n h4 he
        have hg := hg h4
        refine bk_89_25 ?_
        exact ih (up2 I 31 3 ((I 31 3) + 1)) hg (fun r hr => hx r (hr.trans he))
/-- VectorShelf$TextReader.takeWord()V -/
def v_89 (I : WI) : WI := (bx ((lp_89_0 400 I) : WI) (fun p1 => (bx ((if ¬ (v_90 p1) = 0 then 259 else (v_92 (up2 p1 31 5 (v_90 p1)))) : Int32) (fun p2 => (up2 (up2 p1 31 5 (v_90 p1)) 31 4 p2)))))
def g_89 (I : WI) : Prop := ((gl_89_0 400 I) ∧ (bx ((lp_89_0 400 I) : WI) (fun p1 => ((g_90 p1) ∧ (¬ (¬ (v_90 p1) = 0) → (g_92 (up2 p1 31 5 (v_90 p1))))))))
theorem cc_89 {l : LX} {d : Nat} {I : WI} {F : WF} {L : WL} {t : Nat} (hg : g_89 I) : Con l 89 (d + 10) 0 0 [.ref 31] SH (I, F, L, RT t) (po_V_I F L t (v_89 I)) := by
  refine cn_89 ?_
  obtain ⟨T1, hT1⟩ : ∃ r : WI, r = (v_89 I) := ⟨_, rfl⟩
  rw [← hT1]
  have he := (hT1.trans (v_89.eq_1 ..)).symm
  have hg := Eq.mp (g_89.eq_1 ..) hg
  obtain ⟨hgX, hg⟩ := hg
  refine lw_89_0 (d := d)  400 I hgX (fun p1 hr => ?_)
  have he := bx_eq hr he
  have hg := bx_un hr hg
  obtain ⟨k5, hg⟩ := hg
  refine bk_89_38 (cc_90 (d := d + 0)  k5) ?_
  have hgX := hg
  obtain ⟨X1, hX1⟩ : ∃ r : Int32, r = (if ¬ (v_90 p1) = 0 then 259 else (v_92 (up2 p1 31 5 (v_90 p1)))) := ⟨_, rfl⟩
  have J1 : ∀ p2 : Int32, p2 = X1 → Wp l 89 (d + 10) 0 0 (po_V_I F L t T1) 0 0 64 [] [.int p2, .ref 31] SH ((up2 p1 31 5 (v_90 p1)), F, L, RT t) := by
    intro p2 hr
    have hr := hr.trans hX1
    have he := bx_eq hr he
    exact bk_89_64 (rl_V_I he)
  have he := hX1.symm
  have hg := hgX
  refine bk_89_43 (fun h6 => ?_) (fun h6 => ?_)
  · have he := ite_p h6 he
    refine bk_89_61 ?_
    exact J1 259 he
  · have he := ite_n h6 he
    have hg := hg h6
    have k7 := hg
    refine bk_89_54 (cc_92 (d := d + 0)  k7) ?_
    refine bk_89_58 ?_
    exact J1 (v_92 (up2 p1 31 5 (v_90 p1))) he
/-- VectorShelf.isPlace(III)Z -/
def v_106 (x0 : Int32) (x1 : Int32) (x2 : Int32) : Int32 := (if (v_107 x0 ((-999) : Int32) (999 : Int32)) = 0 then 0 else (if (v_107 x1 ((-999) : Int32) (999 : Int32)) = 0 then 0 else (if (v_107 x2 ((-999) : Int32) (999 : Int32)) = 0 then 0 else 1)))
theorem cc_106 {l : LX} {d : Nat} {I : WI} {F : WF} {L : WL} {t : Nat} {x0 : Int32} {x1 : Int32} {x2 : Int32} : Con l 106 (d + 1) 0 0 [.int x0, .int x1, .int x2] SH (I, F, L, RT t) (rI (v_106 x0 x1 x2) (I, F, L, RT t)) := by
  refine cn_106 ?_
  obtain ⟨T1, hT1⟩ : ∃ r : Int32, r = (v_106 x0 x1 x2) := ⟨_, rfl⟩
  rw [← hT1]
  have he := (hT1.trans (v_106.eq_1 ..)).symm
  refine bk_106_0 (cc_107 (d := d + 0) ) ?_
  refine bk_106_10 (fun h2 => ?_) (fun h2 => ?_)
  · have he := ite_p h2 he
    refine bk_106_43 ?_
    exact bk_106_44 (by decide) (rl_p_I he)
  · have he := ite_n h2 he
    refine bk_106_13 (cc_107 (d := d + 0) ) ?_
    refine bk_106_23 (fun h4 => ?_) (fun h4 => ?_)
    · have he := ite_p h4 he
      refine bk_106_43 ?_
      exact bk_106_44 (by decide) (rl_p_I he)
    · have he := ite_n h4 he
      refine bk_106_26 (cc_107 (d := d + 0) ) ?_
      refine bk_106_36 (fun h6 => ?_) (fun h6 => ?_)
      · have he := ite_p h6 he
        refine bk_106_43 ?_
        exact bk_106_44 (by decide) (rl_p_I he)
      · have he := ite_n h6 he
        refine bk_106_39 ?_
        exact bk_106_44 (by decide) (rl_p_I he)
theorem sb_106 (x0 : Int32) (x1 : Int32) (x2 : Int32) : (v_106 x0 x1 x2) &&& 1 = (v_106 x0 x1 x2) := by
  unfold v_106
  repeat' split
  all_goals first | rfl | exact sb_107 ..
/-- VectorShelf.drop(II)I -/
def v_112 (I : WI) (x1 : Int32) (x2 : Int32) : Int32 × WI := (if (v_110 I x1) = 0 then ((-2), I) else (if ¬ (v_107 x2 (0 : Int32) (1 : Int32)) = 0 then (if ¬ (I 10 x1.toNatClampNeg) = (-1) then (bx ((if (v_61 I 1 x1) = 0 then 1 else 0) : Int32) (fun p1 => (bx ((if ¬ x2 = 0 then 0 else 1) : Int32) (fun p2 => (bx ((v_56 I 1 x1 p2) : WI) (fun p3 => (p1, p3))))))) else ((-3), I)) else ((-2), I)))
def g_112 (I : WI) (x1 : Int32) (x2 : Int32) : Prop := (¬ ((v_110 I x1) = 0) → ((¬ (v_107 x2 (0 : Int32) (1 : Int32)) = 0) → (vp_in x1 12)))
theorem cc_112 {l : LX} {d : Nat} {I : WI} {F : WF} {L : WL} {t : Nat} {x1 : Int32} {x2 : Int32} (hg : g_112 I x1 x2) : Con l 112 (d + 2) 0 0 [.ref 0, .int x1, .int x2] SH (I, F, L, RT t) (po_I_I F L t (v_112 I x1 x2)) := by
  refine cn_112 ?_
  obtain ⟨T1, hT1⟩ : ∃ r : Int32 × WI, r = (v_112 I x1 x2) := ⟨_, rfl⟩
  rw [← hT1]
  have he := (hT1.trans (v_112.eq_1 ..)).symm
  have hg := Eq.mp (g_112.eq_1 ..) hg
  refine bk_112_0 (cc_110 (d := d + 0) ) ?_
  refine bk_112_5 (fun h2 => ?_) (fun h2 => ?_)
  · have he := ite_p h2 he
    exact bk_112_17 (rl_I_I he)
  · have he := ite_n h2 he
    have hg := hg h2
    refine bk_112_8 (cc_107 (d := d + 1) ) ?_
    refine bk_112_14 (fun h4 => ?_) (fun h4 => ?_)
    · have he := ite_p h4 he
      have hg := hg h4
      have k5 := hg
      refine bk_112_20 k5 (fun h6 => ?_) (fun h6 => ?_)
      · have he := ite_p h6 he
        refine bk_112_36 (cc_61 (d := d + 0) (by first | decide | (unfold isS; decide) | (unfold isS; omega))) ?_
        obtain ⟨X1, hX1⟩ : ∃ r : Int32, r = (if (v_61 I 1 x1) = 0 then 1 else 0) := ⟨_, rfl⟩
        have J1 : ∀ p1 : Int32, p1 = X1 → Wp l 112 (d + 2) 0 0 (po_I_I F L t T1) 0 0 52 [(0, .ref 0), (1, .int x1), (2, .int x2)] [.int p1] SH (I, F, L, RT t) := by
          intro p1 hr
          have hr := hr.trans hX1
          have he := bx_eq hr he
          obtain ⟨X2, hX2⟩ : ∃ r : Int32, r = (if ¬ x2 = 0 then 0 else 1) := ⟨_, rfl⟩
          have J2 : ∀ p2 : Int32, p2 = X2 → Wp l 112 (d + 2) 0 0 (po_I_I F L t T1) 0 0 67 [(3, .int p1)] [.int p2, .int x1, .ref 1] SH (I, F, L, RT t) := by
            intro p2 hr
            have hr := hr.trans hX2
            have he := bx_eq hr he
            refine bk_112_67 (cq_V_I (cc_56 (d := d + 1) (by first | decide | (unfold isS; decide) | (unfold isS; omega)))) ?_
            rintro _ _ _ _ ⟨p3, hr, rfl, rfl, rfl, rfl⟩
            have he := bx_eq hr he
            exact bk_112_70 (rl_I_I he)
          have he := hX2.symm
          refine bk_112_52 (fun h9 => ?_) (fun h9 => ?_)
          · have he := ite_p h9 he
            refine bk_112_66 ?_
            exact J2 0 he
          · have he := ite_n h9 he
            refine bk_112_62 ?_
            exact J2 1 he
        have he := hX1.symm
        refine bk_112_44 (fun h8 => ?_) (fun h8 => ?_)
        · have he := ite_p h8 he
          refine bk_112_51 ?_
          exact J1 1 he
        · have he := ite_n h8 he
          refine bk_112_47 ?_
          exact J1 0 he
      · have he := ite_n h6 he
        exact bk_112_33 (rl_I_I he)
    · have he := ite_n h4 he
      exact bk_112_17 (rl_I_I he)
/-- VectorShelf.holds(II)I -/
def v_116 (I : WI) (x1 : Int32) (x2 : Int32) : Int32 := (if (v_107 x1 (0 : Int32) ((I 1 4) - 1)) = 0 then (-99999) else (if ¬ (v_107 x2 (0 : Int32) (11 : Int32)) = 0 then (if 3 ≤ x2 then (if x2 ≤ 9 then (if (v_67 I 1 x1) = 0 then (if ¬ x2 = 9 then (if 6 ≤ x2 then (I 7 (((3 * x1) + x2) - 6).toNatClampNeg) else (I 6 (((3 * x1) + x2) - 3).toNatClampNeg)) else (FP.f2i (v_68 I 1 x1))) else (-99999)) else (bx ((if ¬ x2 = 10 then (I 1 12) else (-1)) : Int32) (fun p1 => (v_286 ((v_66 I 1 x1) &&& p1))))) else (I 5 ((3 * x1) + x2).toNatClampNeg)) else (-99999)))
def g_116 (I : WI) (x1 : Int32) (x2 : Int32) : Prop := (¬ ((v_107 x1 (0 : Int32) ((I 1 4) - 1)) = 0) → ((¬ (v_107 x2 (0 : Int32) (11 : Int32)) = 0) → (((3 ≤ x2) → (((x2 ≤ 9) → ((g_67 x1) ∧ (((v_67 I 1 x1) = 0) → (((¬ x2 = 9) → (((6 ≤ x2) → (vp_in (((3 * x1) + x2) - 6) 12)) ∧ (¬ (6 ≤ x2) → (vp_in (((3 * x1) + x2) - 3) 12)))) ∧ (¬ (¬ x2 = 9) → (g_68 I 1 x1)))))) ∧ (¬ (x2 ≤ 9) → (g_66 I 1 x1)))) ∧ (¬ (3 ≤ x2) → (vp_in ((3 * x1) + x2) 12)))))
theorem cc_116 {l : LX} {d : Nat} {I : WI} {F : WF} {L : WL} {t : Nat} {x1 : Int32} {x2 : Int32} (hg : g_116 I x1 x2) : Con l 116 (d + 3) 0 0 [.ref 0, .int x1, .int x2] SH (I, F, L, RT t) (rI (v_116 I x1 x2) (I, F, L, RT t)) := by
  refine cn_116 ?_
  obtain ⟨T1, hT1⟩ : ∃ r : Int32, r = (v_116 I x1 x2) := ⟨_, rfl⟩
  rw [← hT1]
  have he := (hT1.trans (v_116.eq_1 ..)).symm
  have hg := Eq.mp (g_116.eq_1 ..) hg
  refine bk_116_0 (cc_107 (d := d + 2) ) ?_
  refine bk_116_14 (fun h2 => ?_) (fun h2 => ?_)
  · have he := ite_p h2 he
    exact bk_116_27 (rl_p_I he)
  · have he := ite_n h2 he
    have hg := hg h2
    refine bk_116_17 (cc_107 (d := d + 2) ) ?_
    refine bk_116_24 (fun h4 => ?_) (fun h4 => ?_)
    · have he := ite_p h4 he
      have hg := hg h4
      refine bk_116_30 (fun h5 => ?_) (fun h5 => ?_)
      · have he := ite_p h5 he
        have hg := hg.1 h5
        refine bk_116_49 (fun h6 => ?_) (fun h6 => ?_)
        · have he := ite_p h6 he
          have hg := hg.1 h6
          obtain ⟨k7, hg⟩ := hg
          refine bk_116_85 (cc_67 (d := d + 2) (by first | decide | (unfold isS; decide) | (unfold isS; omega)) k7) ?_
          refine bk_116_93 (fun h8 => ?_) (fun h8 => ?_)
          · have he := ite_p h8 he
            have hg := hg h8
            refine bk_116_99 (fun h9 => ?_) (fun h9 => ?_)
            · have he := ite_p h9 he
              have hg := hg.1 h9
              refine bk_116_115 (fun h10 => ?_) (fun h10 => ?_)
              · have he := ite_p h10 he
                have hg := hg.1 h10
                have k11 := hg
                refine bk_116_139 k11 ?_
                exact bk_116_155 (rl_p_I he)
              · have he := ite_n h10 he
                have hg := hg.2 h10
                have k12 := hg
                refine bk_116_121 k12 ?_
                exact bk_116_155 (rl_p_I he)
            · have he := ite_n h9 he
              have hg := hg.2 h9
              have k13 := hg
              refine bk_116_105 (cc_68 (d := d + 0) (by first | decide | (unfold isS; decide) | (unfold isS; omega)) k13) ?_
              exact bk_116_113 (rl_p_I he)
          · have he := ite_n h8 he
            exact bk_116_96 (rl_p_I he)
        · have he := ite_n h6 he
          have hg := hg.2 h6
          have k14 := hg
          refine bk_116_55 (cc_66 (d := d + 2) (by first | decide | (unfold isS; decide) | (unfold isS; omega)) k14) ?_
          obtain ⟨X1, hX1⟩ : ∃ r : Int32, r = (if ¬ x2 = 10 then (I 1 12) else (-1)) := ⟨_, rfl⟩
          have J1 : ∀ p1 : Int32, p1 = X1 → Wp l 116 (d + 3) 0 0 (rI T1 (I, F, L, RT t)) 0 0 80 [] [.int p1, .int (v_66 I 1 x1)] SH (I, F, L, RT t) := by
            intro p1 hr
            have hr := hr.trans hX1
            have he := bx_eq hr he
            refine bk_116_80 (cc_286 (d := d + 2) ) ?_
            exact bk_116_84 (rl_p_I he)
          have he := hX1.symm
          refine bk_116_63 (fun h15 => ?_) (fun h15 => ?_)
          · have he := ite_p h15 he
            refine bk_116_73 ?_
            exact J1 (I 1 12) he
          · have he := ite_n h15 he
            refine bk_116_69 ?_
            exact J1 (-1) he
      · have he := ite_n h5 he
        have hg := hg.2 h5
        have k17 := hg
        exact bk_116_35 k17 (rl_p_I he)
    · have he := ite_n h4 he
      exact bk_116_27 (rl_p_I he)
/-- VectorShelf.set(II)I -/
def v_117 (I : WI) (x1 : Int32) (x2 : Int32) : Int32 × WI := (if ¬ (v_118 x1 x2) = 0 then (bx ((v_69 I 1 x1 x2) : Int32 × WI) (fun p1 => (p1.1, p1.2))) else ((-2), I))
def g_117 (x1 : Int32) (x2 : Int32) : Prop := ((¬ (v_118 x1 x2) = 0) → (g_69 x1))
theorem cc_117 {l : LX} {d : Nat} {I : WI} {F : WF} {L : WL} {t : Nat} {x1 : Int32} {x2 : Int32} (hg : g_117 x1 x2) : Con l 117 (d + 2) 0 0 [.ref 0, .int x1, .int x2] SH (I, F, L, RT t) (po_I_I F L t (v_117 I x1 x2)) := by
  refine cn_117 ?_
  obtain ⟨T1, hT1⟩ : ∃ r : Int32 × WI, r = (v_117 I x1 x2) := ⟨_, rfl⟩
  rw [← hT1]
  have he := (hT1.trans (v_117.eq_1 ..)).symm
  have hg := Eq.mp (g_117.eq_1 ..) hg
  refine bk_117_0 (cc_118 (d := d + 0) ) ?_
  refine bk_117_5 (fun h2 => ?_) (fun h2 => ?_)
  · have he := ite_p h2 he
    have hg := hg h2
    have k3 := hg
    refine bk_117_11 (cq_I_I (cc_69 (d := d + 1) (by first | decide | (unfold isS; decide) | (unfold isS; omega)) k3)) ?_
    rintro _ _ _ _ _ ⟨p1, hr, rfl, rfl, rfl, rfl, rfl⟩
    have he := bx_eq hr he
    exact bk_117_20 (rl_I_I he)
  · have he := ite_n h2 he
    exact bk_117_8 (rl_I_I he)
/-- VectorShelf.apart(II)I -/
def v_121 (I : WI) (x1 : Int32) (x2 : Int32) : Int32 := (if (v_110 I x1) = 0 then (-2) else (if ¬ (v_110 I x2) = 0 then (v_71 I 1 x1 x2) else (-2)))
def g_121 (I : WI) (x1 : Int32) (x2 : Int32) : Prop := (¬ ((v_110 I x1) = 0) → ((¬ (v_110 I x2) = 0) → (g_71 I 1 x1 x2)))
theorem cc_121 {l : LX} {d : Nat} {I : WI} {F : WF} {L : WL} {t : Nat} {x1 : Int32} {x2 : Int32} (hg : g_121 I x1 x2) : Con l 121 (d + 3) 0 0 [.ref 0, .int x1, .int x2] SH (I, F, L, RT t) (rI (v_121 I x1 x2) (I, F, L, RT t)) := by
  refine cn_121 ?_
  obtain ⟨T1, hT1⟩ : ∃ r : Int32, r = (v_121 I x1 x2) := ⟨_, rfl⟩
  rw [← hT1]
  have he := (hT1.trans (v_121.eq_1 ..)).symm
  have hg := Eq.mp (g_121.eq_1 ..) hg
  refine bk_121_0 (cc_110 (d := d + 1) ) ?_
  refine bk_121_5 (fun h2 => ?_) (fun h2 => ?_)
  · have he := ite_p h2 he
    exact bk_121_16 (rl_p_I he)
  · have he := ite_n h2 he
    have hg := hg h2
    refine bk_121_8 (cc_110 (d := d + 1) ) ?_
    refine bk_121_13 (fun h4 => ?_) (fun h4 => ?_)
    · have he := ite_p h4 he
      have hg := hg h4
      have k5 := hg
      refine bk_121_19 (cc_71 (d := d + 0) (by first | decide | (unfold isS; decide) | (unfold isS; omega)) k5) ?_
      exact bk_121_28 (rl_p_I he)
    · have he := ite_n h4 he
      exact bk_121_16 (rl_p_I he)
/-- VectorShelf.sheet(III)I -/
def v_156 (I : WI) (F : WF) (x1 : Int32) (x2 : Int32) (x3 : Int32) : Int32 × WI × WF := (if (v_146 x1) = 0 then ((-2), I, F) else (if ¬ (v_107 x2 ((-1) : Int32) (2 : Int32)) = 0 then (if x2 = (-1) then (if x2 = (-1) then (bx ((58 + 4 * x1.toNatClampNeg) : Nat) (fun p1 => (bx ((v_46 I F p1 x2 x3) : WI × WF) (fun p2 => (1, p2.1, p2.2))))) else (if 0 ≤ x3 then (bx ((58 + 4 * x1.toNatClampNeg) : Nat) (fun p3 => (bx ((v_46 I F p3 x2 x3) : WI × WF) (fun p4 => (1, p4.1, p4.2))))) else ((-14), I, F))) else (if x3 ≤ 40 then (if x2 = (-1) then (bx ((58 + 4 * x1.toNatClampNeg) : Nat) (fun p5 => (bx ((v_46 I F p5 x2 x3) : WI × WF) (fun p6 => (1, p6.1, p6.2))))) else (if 0 ≤ x3 then (bx ((58 + 4 * x1.toNatClampNeg) : Nat) (fun p7 => (bx ((v_46 I F p7 x2 x3) : WI × WF) (fun p8 => (1, p8.1, p8.2))))) else ((-14), I, F))) else ((-2), I, F))) else ((-2), I, F)))
def g_156 (I : WI) (F : WF) (x1 : Int32) (x2 : Int32) (x3 : Int32) : Prop := (¬ ((v_146 x1) = 0) → ((¬ (v_107 x2 ((-1) : Int32) (2 : Int32)) = 0) → (((x2 = (-1)) → (((x2 = (-1)) → ((vp_in x1 4) ∧ (bx ((58 + 4 * x1.toNatClampNeg) : Nat) (fun p1 => (g_46 I F p1 x2 x3))))) ∧ (¬ (x2 = (-1)) → ((0 ≤ x3) → ((vp_in x1 4) ∧ (bx ((58 + 4 * x1.toNatClampNeg) : Nat) (fun p3 => (g_46 I F p3 x2 x3)))))))) ∧ (¬ (x2 = (-1)) → ((x3 ≤ 40) → (((x2 = (-1)) → ((vp_in x1 4) ∧ (bx ((58 + 4 * x1.toNatClampNeg) : Nat) (fun p5 => (g_46 I F p5 x2 x3))))) ∧ (¬ (x2 = (-1)) → ((0 ≤ x3) → ((vp_in x1 4) ∧ (bx ((58 + 4 * x1.toNatClampNeg) : Nat) (fun p7 => (g_46 I F p7 x2 x3))))))))))))
theorem cc_156 {l : LX} {d : Nat} {I : WI} {F : WF} {L : WL} {t : Nat} {x1 : Int32} {x2 : Int32} {x3 : Int32} (hg : g_156 I F x1 x2 x3) : Con l 156 (d + 2) 0 0 [.ref 0, .int x1, .int x2, .int x3] SH (I, F, L, RT t) (po_I_IF L t (v_156 I F x1 x2 x3)) := by
  refine cn_156 ?_
  obtain ⟨T1, hT1⟩ : ∃ r : Int32 × WI × WF, r = (v_156 I F x1 x2 x3) := ⟨_, rfl⟩
  rw [← hT1]
  have he := (hT1.trans (v_156.eq_1 ..)).symm
  have hg := Eq.mp (g_156.eq_1 ..) hg
  refine bk_156_0 (cc_146 (d := d + 0) ) ?_
  refine bk_156_4 (fun h2 => ?_) (fun h2 => ?_)
  · have he := ite_p h2 he
    exact bk_156_16 (rl_I_IF he)
  · have he := ite_n h2 he
    have hg := hg h2
    refine bk_156_7 (cc_107 (d := d + 1) ) ?_
    refine bk_156_13 (fun h4 => ?_) (fun h4 => ?_)
    · have he := ite_p h4 he
      have hg := hg h4
      refine bk_156_19 (fun h5 => ?_) (fun h5 => ?_)
      · have he := ite_p h5 he
        have hg := hg.1 h5
        refine bk_156_33 (fun h6 => ?_) (fun h6 => ?_)
        · have he := ite_p h6 he
          have hg := hg.1 h6
          obtain ⟨k7, hg⟩ := hg
          obtain ⟨p1, hnp1⟩ : ∃ q : Nat, q = (58 + 4 * x1.toNatClampNeg) := ⟨_, rfl⟩
          have hp1 : isH p1 := by rw [hnp1]; exact isH_at k7
          have he := bx_eq hnp1 he
          have hg := bx_un hnp1 hg
          refine bk_156_45 k7 (show RT t 57 x1.toNatClampNeg = some p1 from by rw [hnp1]; exact RT_at57 k7) ?_
          have k8 := hg
          refine bk_156_51 hp1 (cq_V_IF (cc_46 (d := d + 0) hp1 k8)) ?_
          rintro _ _ _ _ ⟨p2, hr, rfl, rfl, rfl, rfl⟩
          have he := bx_eq hr he
          exact bk_156_56 (rl_I_IF he)
        · have he := ite_n h6 he
          have hg := hg.2 h6
          refine bk_156_38 (fun h9 => ?_) (fun h9 => ?_)
          · have he := ite_p h9 he
            have hg := hg h9
            obtain ⟨k10, hg⟩ := hg
            obtain ⟨p3, hnp3⟩ : ∃ q : Nat, q = (58 + 4 * x1.toNatClampNeg) := ⟨_, rfl⟩
            have hp3 : isH p3 := by rw [hnp3]; exact isH_at k10
            have he := bx_eq hnp3 he
            have hg := bx_un hnp3 hg
            refine bk_156_45 k10 (show RT t 57 x1.toNatClampNeg = some p3 from by rw [hnp3]; exact RT_at57 k10) ?_
            have k11 := hg
            refine bk_156_51 hp3 (cq_V_IF (cc_46 (d := d + 0) hp3 k11)) ?_
            rintro _ _ _ _ ⟨p4, hr, rfl, rfl, rfl, rfl⟩
            have he := bx_eq hr he
            exact bk_156_56 (rl_I_IF he)
          · have he := ite_n h9 he
            exact bk_156_42 (rl_I_IF he)
      · have he := ite_n h5 he
        have hg := hg.2 h5
        refine bk_156_24 (fun h12 => ?_) (fun h12 => ?_)
        · have he := ite_p h12 he
          have hg := hg h12
          refine bk_156_33 (fun h13 => ?_) (fun h13 => ?_)
          · have he := ite_p h13 he
            have hg := hg.1 h13
            obtain ⟨k14, hg⟩ := hg
            obtain ⟨p5, hnp5⟩ : ∃ q : Nat, q = (58 + 4 * x1.toNatClampNeg) := ⟨_, rfl⟩
            have hp5 : isH p5 := by rw [hnp5]; exact isH_at k14
            have he := bx_eq hnp5 he
            have hg := bx_un hnp5 hg
            refine bk_156_45 k14 (show RT t 57 x1.toNatClampNeg = some p5 from by rw [hnp5]; exact RT_at57 k14) ?_
            have k15 := hg
            refine bk_156_51 hp5 (cq_V_IF (cc_46 (d := d + 0) hp5 k15)) ?_
            rintro _ _ _ _ ⟨p6, hr, rfl, rfl, rfl, rfl⟩
            have he := bx_eq hr he
            exact bk_156_56 (rl_I_IF he)
          · have he := ite_n h13 he
            have hg := hg.2 h13
            refine bk_156_38 (fun h16 => ?_) (fun h16 => ?_)
            · have he := ite_p h16 he
              have hg := hg h16
              obtain ⟨k17, hg⟩ := hg
              obtain ⟨p7, hnp7⟩ : ∃ q : Nat, q = (58 + 4 * x1.toNatClampNeg) := ⟨_, rfl⟩
              have hp7 : isH p7 := by rw [hnp7]; exact isH_at k17
              have he := bx_eq hnp7 he
              have hg := bx_un hnp7 hg
              refine bk_156_45 k17 (show RT t 57 x1.toNatClampNeg = some p7 from by rw [hnp7]; exact RT_at57 k17) ?_
              have k18 := hg
              refine bk_156_51 hp7 (cq_V_IF (cc_46 (d := d + 0) hp7 k18)) ?_
              rintro _ _ _ _ ⟨p8, hr, rfl, rfl, rfl, rfl⟩
              have he := bx_eq hr he
              exact bk_156_56 (rl_I_IF he)
            · have he := ite_n h16 he
              exact bk_156_42 (rl_I_IF he)
        · have he := ite_n h12 he
          exact bk_156_30 (rl_I_IF he)
    · have he := ite_n h4 he
      exact bk_156_16 (rl_I_IF he)
/-- VectorShelf.put(III)I -/
def v_157 (I : WI) (F : WF) (x1 : Int32) (x2 : Int32) (x3 : Int32) : Int32 × WI × WF := (if (v_158 I x1 (3 : Int32) x2 (1 : Int32)) = 0 then (bx ((58 + 4 * x1.toNatClampNeg) : Nat) (fun p1 => (bx ((v_47 I F p1 x2 x3) : WI × WF) (fun p2 => (1, p2.1, p2.2))))) else ((v_158 I x1 (3 : Int32) x2 (1 : Int32)), I, F))
def g_157 (I : WI) (x1 : Int32) (x2 : Int32) (x3 : Int32) : Prop := ((g_158 x1) ∧ (((v_158 I x1 (3 : Int32) x2 (1 : Int32)) = 0) → ((vp_in x1 4) ∧ (bx ((58 + 4 * x1.toNatClampNeg) : Nat) (fun p1 => (g_47 I p1 x2 x3))))))
theorem cc_157 {l : LX} {d : Nat} {I : WI} {F : WF} {L : WL} {t : Nat} {x1 : Int32} {x2 : Int32} {x3 : Int32} (hg : g_157 I x1 x2 x3) : Con l 157 (d + 3) 0 0 [.ref 0, .int x1, .int x2, .int x3] SH (I, F, L, RT t) (po_I_IF L t (v_157 I F x1 x2 x3)) := by
  refine cn_157 ?_
  obtain ⟨T1, hT1⟩ : ∃ r : Int32 × WI × WF, r = (v_157 I F x1 x2 x3) := ⟨_, rfl⟩
  rw [← hT1]
  have he := (hT1.trans (v_157.eq_1 ..)).symm
  have hg := Eq.mp (g_157.eq_1 ..) hg
  obtain ⟨k1, hg⟩ := hg
  refine bk_157_0 (cc_158 (d := d + 0)  k1) ?_
  refine bk_157_8 (fun h2 => ?_) (fun h2 => ?_)
  · have he := ite_p h2 he
    have hg := hg h2
    obtain ⟨k3, hg⟩ := hg
    obtain ⟨p1, hnp1⟩ : ∃ q : Nat, q = (58 + 4 * x1.toNatClampNeg) := ⟨_, rfl⟩
    have hp1 : isH p1 := by rw [hnp1]; exact isH_at k3
    have he := bx_eq hnp1 he
    have hg := bx_un hnp1 hg
    refine bk_157_18 k3 (show RT t 57 x1.toNatClampNeg = some p1 from by rw [hnp1]; exact RT_at57 k3) ?_
    have k4 := hg
    refine bk_157_24 hp1 (cq_V_IF (cc_47 (d := d + 2) hp1 k4)) ?_
    rintro _ _ _ _ ⟨p2, hr, rfl, rfl, rfl, rfl⟩
    have he := bx_eq hr he
    exact bk_157_29 (rl_I_IF he)
  · have he := ite_n h2 he
    exact bk_157_15 (rl_I_IF he)
/-- the loop at 55 of VectorShelf.code -/
def lp_165_55 (I : WI) (F : WF) (x1 : Int32) (x2 : Int32) (x3 : Int32) : Nat → WI × WF
  | 0 => (I, F)
  | k + 1 => bx (lp_165_55 I F x1 x2 x3 k) (fun p1 => (bx ((58 + 4 * x2.toNatClampNeg) : Nat) (fun p2 => (bx ((v_47 p1.1 p1.2 p2 (x3 + (nI k)) (v_62 p1.1 1 x1 (nI k))) : WI × WF) (fun p3 => (p3.1, p3.2))))))
def gl_165_55 (I : WI) (F : WF) (x1 : Int32) (x2 : Int32) (x3 : Int32) (N : Nat) : Prop := (∀ k, k < N → bx (lp_165_55 I F x1 x2 x3 k) (fun p1 => ((vp_in x2 4) ∧ (bx ((58 + 4 * x2.toNatClampNeg) : Nat) (fun p2 => ((g_62 p1.1 1 x1 (nI k)) ∧ (g_47 p1.1 p2 (x3 + (nI k)) (v_62 p1.1 1 x1 (nI k)))))))))
theorem lw_165_55 {l : LX} {d : Nat} {P : RP} {I : WI} {F : WF} {L : WL} {t : Nat} {x1 : Int32} {x2 : Int32} {x3 : Int32} (hgl : gl_165_55 I F x1 x2 x3 ((3 : Int32).toNatClampNeg)) (hx : ∀ p1 : WI × WF, p1 = lp_165_55 I F x1 x2 x3 ((3 : Int32).toNatClampNeg) → Wp l 165 (d + 3) 0 0 P 0 0 90 [] [] SH (p1.1, p1.2, L, RT t)) : Wp l 165 (d + 3) 0 0 P 0 0 55 [(0, .ref 0), (1, .int x1), (2, .int x2), (3, .int x3), (5, .int 0)] [] SH (I, F, L, RT t) := by
  have hin := hgl
  have loop : ∀ m k, k + m = (3 : Int32).toNatClampNeg → ∀ p1 : WI × WF, p1 = lp_165_55 I F x1 x2 x3 k → Wp l 165 (d + 3) 0 0 P 0 0 55 [(0, .ref 0), (1, .int x1), (2, .int x2), (3, .int x3), (5, .int (nI k))] [] SH (p1.1, p1.2, L, RT t) := by
    intro m
    induction m with
    | zero =>
      intro k hk p1 hs
      obtain rfl : k = (3 : Int32).toNatClampNeg := by omega
      exact bk_165_55  (fun _ => hx _ hs) (fun h => absurd ((le_cl (Nat.le_refl _)).mpr rfl) h)
    | succ m ih =>
      intro k hk p1 hs
      have hk2 : k < (3 : Int32).toNatClampNeg := by omega
      have ih := ih (k + 1) (by omega)
      rw [nI_succ] at ih
      have he := bx_eq hs (lp_165_55.eq_2 ..).symm
      have hg := bx_un hs (hin k hk2)
      refine bk_165_55  (fun h => absurd ((le_cl (E := 3) (i := k) (by omega)).mp h) (by omega)) (fun _ => ?_)
      obtain ⟨k9, hg⟩ := hg
      obtain ⟨p2, hnp2⟩ : ∃ q : Nat, q = (58 + 4 * x2.toNatClampNeg) := ⟨_, rfl⟩
      have hp2 : isH p2 := by rw [hnp2]; exact isH_at k9
      have he := bx_eq hnp2 he
      have hg := bx_un hnp2 hg
      refine bk_165_61 k9 (show RT t 57 x2.toNatClampNeg = some p2 from by rw [hnp2]; exact RT_at57 k9) ?_
      obtain ⟨k10, hg⟩ := hg
      refine bk_165_67 (cc_62 (d := d + 1) (by first | decide | (unfold isS; decide) | (unfold isS; omega)) k10) ?_
      have k11 := hg
      refine bk_165_81 hp2 (cq_V_IF (cc_47 (d := d + 2) hp2 k11)) ?_
      rintro _ _ _ _ ⟨p3, hr, rfl, rfl, rfl, rfl⟩
      have he := bx_eq hr he
      refine bk_165_84 ?_
      exact ih (p3.1, p3.2) he
  exact loop _ 0 (Nat.zero_add _) _ rfl
/-- VectorShelf.code(III)I -/
def v_165 (I : WI) (F : WF) (x1 : Int32) (x2 : Int32) (x3 : Int32) : Int32 × WI × WF := (if (v_146 x2) = 0 then ((-2), I, F) else (if ¬ (v_110 I x1) = 0 then (if ¬ (I 10 x1.toNatClampNeg) = (-1) then (if (v_158 I x2 (1 : Int32) x3 (3 : Int32)) = 0 then (bx ((lp_165_55 I F x1 x2 x3 ((3 : Int32).toNatClampNeg)) : WI × WF) (fun p4 => (3, p4.1, p4.2))) else ((v_158 I x2 (1 : Int32) x3 (3 : Int32)), I, F)) else ((-3), I, F)) else ((-2), I, F)))
def g_165 (I : WI) (F : WF) (x1 : Int32) (x2 : Int32) (x3 : Int32) : Prop := (¬ ((v_146 x2) = 0) → ((¬ (v_110 I x1) = 0) → ((vp_in x1 12) ∧ ((¬ (I 10 x1.toNatClampNeg) = (-1)) → ((g_158 x2) ∧ (((v_158 I x2 (1 : Int32) x3 (3 : Int32)) = 0) → (gl_165_55 I F x1 x2 x3 ((3 : Int32).toNatClampNeg))))))))
theorem cc_165 {l : LX} {d : Nat} {I : WI} {F : WF} {L : WL} {t : Nat} {x1 : Int32} {x2 : Int32} {x3 : Int32} (hg : g_165 I F x1 x2 x3) : Con l 165 (d + 3) 0 0 [.ref 0, .int x1, .int x2, .int x3] SH (I, F, L, RT t) (po_I_IF L t (v_165 I F x1 x2 x3)) := by
  refine cn_165 ?_
  obtain ⟨T1, hT1⟩ : ∃ r : Int32 × WI × WF, r = (v_165 I F x1 x2 x3) := ⟨_, rfl⟩
  rw [← hT1]
  have he := (hT1.trans (v_165.eq_1 ..)).symm
  have hg := Eq.mp (g_165.eq_1 ..) hg
  refine bk_165_0 (cc_146 (d := d + 1) ) ?_
  refine bk_165_4 (fun h2 => ?_) (fun h2 => ?_)
  · have he := ite_p h2 he
    exact bk_165_15 (rl_I_IF he)
  · have he := ite_n h2 he
    have hg := hg h2
    refine bk_165_7 (cc_110 (d := d + 1) ) ?_
    refine bk_165_12 (fun h4 => ?_) (fun h4 => ?_)
    · have he := ite_p h4 he
      have hg := hg h4
      obtain ⟨k5, hg⟩ := hg
      refine bk_165_18 k5 (fun h6 => ?_) (fun h6 => ?_)
      · have he := ite_p h6 he
        have hg := hg h6
        obtain ⟨k7, hg⟩ := hg
        refine bk_165_34 (cc_158 (d := d + 0)  k7) ?_
        refine bk_165_42 (fun h8 => ?_) (fun h8 => ?_)
        · have he := ite_p h8 he
          have hg := hg h8
          refine bk_165_52 ?_
          have hgX := hg
          refine lw_165_55 (d := d)  hgX (fun p4 hr => ?_)
          have he := bx_eq hr he
          exact bk_165_90 (rl_I_IF he)
        · have he := ite_n h8 he
          exact bk_165_49 (rl_I_IF he)
      · have he := ite_n h6 he
        exact bk_165_31 (rl_I_IF he)
    · have he := ite_n h4 he
      exact bk_165_15 (rl_I_IF he)
/-- VectorShelfModel.set(II)I -/
def v_169 (I : WI) (x1 : Int32) (x2 : Int32) : Int32 × WI := (if (v_170 (Int32.toInt64 x1) (0 : Int64) (6 : Int64)) = 0 then ((-2), I) else (bx ((if x1 = 0 then 1 else (if x1 ≤ 3 then 0 else 1)) : Int64) (fun p1 => (if ¬ (v_170 (Int32.toInt64 x2) p1 (Int32.toInt64 (v_171 x1))) = 0 then ((I 78 x1.toNatClampNeg), (up2 I 78 x1.toNatClampNeg x2)) else ((-2), I)))))
def g_169 (x1 : Int32) (x2 : Int32) : Prop := (¬ ((v_170 (Int32.toInt64 x1) (0 : Int64) (6 : Int64)) = 0) → (bx ((if x1 = 0 then 1 else (if x1 ≤ 3 then 0 else 1)) : Int64) (fun p1 => ((¬ (v_170 (Int32.toInt64 x2) p1 (Int32.toInt64 (v_171 x1))) = 0) → (vp_in x1 7)))))
theorem cc_169 {l : LX} {d : Nat} {I : WI} {F : WF} {L : WL} {t : Nat} {x1 : Int32} {x2 : Int32} (hg : g_169 x1 x2) : Con l 169 (d + 1) 0 0 [.ref 74, .int x1, .int x2] SH (I, F, L, RT t) (po_I_I F L t (v_169 I x1 x2)) := by
  refine cn_169 ?_
  obtain ⟨T1, hT1⟩ : ∃ r : Int32 × WI, r = (v_169 I x1 x2) := ⟨_, rfl⟩
  rw [← hT1]
  have he := (hT1.trans (v_169.eq_1 ..)).symm
  have hg := Eq.mp (g_169.eq_1 ..) hg
  refine bk_169_0 (cc_170 (d := d + 0) ) ?_
  refine bk_169_9 (fun h2 => ?_) (fun h2 => ?_)
  · have he := ite_p h2 he
    exact bk_169_40 (rl_I_I he)
  · have he := ite_n h2 he
    have hg := hg h2
    obtain ⟨X1, hX1⟩ : ∃ r : Int64, r = (if x1 = 0 then 1 else (if x1 ≤ 3 then 0 else 1)) := ⟨_, rfl⟩
    have J1 : ∀ p1 : Int64, p1 = X1 → Wp l 169 (d + 1) 0 0 (po_I_I F L t T1) 0 0 28 [(0, .ref 74), (1, .int x1), (2, .int x2)] [.long p1, .long (Int32.toInt64 x2)] SH (I, F, L, RT t) := by
      intro p1 hr
      have hr := hr.trans hX1
      have he := bx_eq hr he
      have hg := bx_un hr hg
      refine bk_169_28 (cc_171 (d := d + 0) ) ?_
      refine bk_169_33 (cc_170 (d := d + 0) ) ?_
      refine bk_169_37 (fun h7 => ?_) (fun h7 => ?_)
      · have he := ite_p h7 he
        have hg := hg h7
        have k8 := hg
        exact bk_169_43 k8 (rl_I_I he)
      · have he := ite_n h7 he
        exact bk_169_40 (rl_I_I he)
    have he := hX1.symm
    refine bk_169_12 (fun h3 => ?_) (fun h3 => ?_)
    · have he := ite_p h3 he
      refine bk_169_23 ?_
      exact J1 1 he
    · have he := ite_n h3 he
      refine bk_169_18 (fun h4 => ?_) (fun h4 => ?_)
      · have he := ite_p h4 he
        refine bk_169_27 ?_
        exact J1 0 he
      · have he := ite_n h4 he
        refine bk_169_23 ?_
        exact J1 1 he
/-- VectorShelfModel.cell(III)I -/
def v_172 (I : WI) (x1 : Int32) (x2 : Int32) (x3 : Int32) : Int32 × WI := (if ¬ (v_173 x1 x2 x3) = 0 then (if ¬ (I 74 13) = 4 then ((((I 74 13) + 1) - 1), (up2 (up2 (up2 (up2 (up2 I 80 (3 * (I 74 13)).toNatClampNeg x1) 80 ((3 * (I 74 13)) + 1).toNatClampNeg x2) 80 ((3 * (I 74 13)) + 2).toNatClampNeg x3) 83 (I 74 13).toNatClampNeg (vp_nar (bT 0) 0)) 74 13 ((I 74 13) + 1))) else ((-4), I)) else ((-2), I))
def g_172 (I : WI) (x1 : Int32) (x2 : Int32) (x3 : Int32) : Prop := ((¬ (v_173 x1 x2 x3) = 0) → ((¬ (I 74 13) = 4) → ((vp_in (3 * (I 74 13)) 12) ∧ ((vp_in ((3 * (I 74 13)) + 1) 12) ∧ ((vp_in ((3 * (I 74 13)) + 2) 12) ∧ (vp_in (I 74 13) 4))))))
theorem cc_172 {l : LX} {d : Nat} {I : WI} {F : WF} {L : WL} {t : Nat} {x1 : Int32} {x2 : Int32} {x3 : Int32} (hg : g_172 I x1 x2 x3) : Con l 172 (d + 2) 0 0 [.ref 74, .int x1, .int x2, .int x3] SH (I, F, L, RT t) (po_I_I F L t (v_172 I x1 x2 x3)) := by
  refine cn_172 ?_
  obtain ⟨T1, hT1⟩ : ∃ r : Int32 × WI, r = (v_172 I x1 x2 x3) := ⟨_, rfl⟩
  rw [← hT1]
  have he := (hT1.trans (v_172.eq_1 ..)).symm
  have hg := Eq.mp (g_172.eq_1 ..) hg
  refine bk_172_0 (cc_173 (d := d + 0) ) ?_
  refine bk_172_6 (fun h2 => ?_) (fun h2 => ?_)
  · have he := ite_p h2 he
    have hg := hg h2
    refine bk_172_12 (fun h3 => ?_) (fun h3 => ?_)
    · have he := ite_p h3 he
      have hg := hg h3
      obtain ⟨k4, k5, k6, k7⟩ := hg
      exact bk_172_23 k4 k5 k6 k7 (rl_I_I he)
    · have he := ite_n h3 he
      exact bk_172_20 (rl_I_I he)
  · have he := ite_n h2 he
    exact bk_172_9 (rl_I_I he)
/-- VectorShelfModel.standsAt(IIII)V -/
def v_175 (I : WI) (x1 : Int32) (x2 : Int32) (x3 : Int32) (x4 : Int32) : WI := (bx ((v_177 (up2 (up2 (up2 I 84 (3 * x1).toNatClampNeg x2) 84 ((3 * x1) + 1).toNatClampNeg x3) 84 ((3 * x1) + 2).toNatClampNeg x4) x1 (v_176 (up2 (up2 (up2 I 84 (3 * x1).toNatClampNeg x2) 84 ((3 * x1) + 1).toNatClampNeg x3) 84 ((3 * x1) + 2).toNatClampNeg x4) x1)) : WI) (fun p1 => p1))
def g_175 (I : WI) (x1 : Int32) (x2 : Int32) (x3 : Int32) (x4 : Int32) : Prop := ((vp_in (3 * x1) 36) ∧ ((vp_in ((3 * x1) + 1) 36) ∧ ((vp_in ((3 * x1) + 2) 36) ∧ ((g_176 (up2 (up2 (up2 I 84 (3 * x1).toNatClampNeg x2) 84 ((3 * x1) + 1).toNatClampNeg x3) 84 ((3 * x1) + 2).toNatClampNeg x4) x1) ∧ (g_177 (up2 (up2 (up2 I 84 (3 * x1).toNatClampNeg x2) 84 ((3 * x1) + 1).toNatClampNeg x3) 84 ((3 * x1) + 2).toNatClampNeg x4) x1 (v_176 (up2 (up2 (up2 I 84 (3 * x1).toNatClampNeg x2) 84 ((3 * x1) + 1).toNatClampNeg x3) 84 ((3 * x1) + 2).toNatClampNeg x4) x1))))))
theorem cc_175 {l : LX} {d : Nat} {I : WI} {F : WF} {L : WL} {t : Nat} {x1 : Int32} {x2 : Int32} {x3 : Int32} {x4 : Int32} (hg : g_175 I x1 x2 x3 x4) : Con l 175 (d + 1) 0 0 [.ref 74, .int x1, .int x2, .int x3, .int x4] SH (I, F, L, RT t) (po_V_I F L t (v_175 I x1 x2 x3 x4)) := by
  refine cn_175 ?_
  obtain ⟨T1, hT1⟩ : ∃ r : WI, r = (v_175 I x1 x2 x3 x4) := ⟨_, rfl⟩
  rw [← hT1]
  have he := (hT1.trans (v_175.eq_1 ..)).symm
  have hg := Eq.mp (g_175.eq_1 ..) hg
  obtain ⟨k1, k2, k3, k4, hg⟩ := hg
  refine bk_175_0 k1 k2 k3 (cc_176 (d := d + 0)  k4) ?_
  have k5 := hg
  refine bk_175_39 (cq_V_I (cc_177 (d := d + 0)  k5)) ?_
  rintro _ _ _ _ ⟨p1, hr, rfl, rfl, rfl, rfl⟩
  have he := bx_eq hr he
  exact bk_175_42 (rl_V_I he)
/-- VectorShelfModel.move(IIII)I -/
def v_178 (I : WI) (x1 : Int32) (x2 : Int32) (x3 : Int32) (x4 : Int32) : Int32 × WI := (if (v_179 I x1) = 0 then ((-2), I) else (if ¬ (v_173 x2 x3 x4) = 0 then (if ¬ (v_180 I x1) = 0 then (bx ((v_175 I x1 x2 x3 x4) : WI) (fun p1 => ((p1 86 x1.toNatClampNeg), p1))) else ((-3), I)) else ((-2), I)))
def g_178 (I : WI) (x1 : Int32) (x2 : Int32) (x3 : Int32) (x4 : Int32) : Prop := (¬ ((v_179 I x1) = 0) → ((¬ (v_173 x2 x3 x4) = 0) → ((g_180 I x1) ∧ ((¬ (v_180 I x1) = 0) → ((g_175 I x1 x2 x3 x4) ∧ (bx ((v_175 I x1 x2 x3 x4) : WI) (fun p1 => (vp_in x1 12))))))))
theorem cc_178 {l : LX} {d : Nat} {I : WI} {F : WF} {L : WL} {t : Nat} {x1 : Int32} {x2 : Int32} {x3 : Int32} {x4 : Int32} (hg : g_178 I x1 x2 x3 x4) : Con l 178 (d + 2) 0 0 [.ref 74, .int x1, .int x2, .int x3, .int x4] SH (I, F, L, RT t) (po_I_I F L t (v_178 I x1 x2 x3 x4)) := by
  refine cn_178 ?_
  obtain ⟨T1, hT1⟩ : ∃ r : Int32 × WI, r = (v_178 I x1 x2 x3 x4) := ⟨_, rfl⟩
  rw [← hT1]
  have he := (hT1.trans (v_178.eq_1 ..)).symm
  have hg := Eq.mp (g_178.eq_1 ..) hg
  refine bk_178_0 (cc_179 (d := d + 0) ) ?_
  refine bk_178_5 (fun h2 => ?_) (fun h2 => ?_)
  · have he := ite_p h2 he
    exact bk_178_18 (rl_I_I he)
  · have he := ite_n h2 he
    have hg := hg h2
    refine bk_178_8 (cc_173 (d := d + 0) ) ?_
    refine bk_178_15 (fun h4 => ?_) (fun h4 => ?_)
    · have he := ite_p h4 he
      have hg := hg h4
      obtain ⟨k5, hg⟩ := hg
      refine bk_178_21 (cc_180 (d := d + 1)  k5) ?_
      refine bk_178_26 (fun h6 => ?_) (fun h6 => ?_)
      · have he := ite_p h6 he
        have hg := hg h6
        obtain ⟨k7, hg⟩ := hg
        refine bk_178_32 (cq_V_I (cc_175 (d := d + 0)  k7)) ?_
        rintro _ _ _ _ ⟨p1, hr, rfl, rfl, rfl, rfl⟩
        have he := bx_eq hr he
        have hg := bx_un hr hg
        have k8 := hg
        exact bk_178_41 k8 (rl_I_I he)
      · have he := ite_n h6 he
        exact bk_178_29 (rl_I_I he)
    · have he := ite_n h4 he
      exact bk_178_18 (rl_I_I he)
end
