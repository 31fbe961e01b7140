section
/-- VectorShelf$Sheet.wipe(I)V -/
def v_49 (F : WF) (b : Nat) (x1 : Int32) : WF := (up2 F (b + 1) x1.toNatClampNeg FP.fconst0)
def g_49 (x1 : Int32) : Prop := (vp_in x1 40)
theorem cc_49 {l : LX} {d : Nat} {I : WI} {F : WF} {L : WL} {t : Nat} {b : Nat} {x1 : Int32} (hb : isH b) (hg : g_49 x1) : Con l 49 (d + 0) 0 0 [.ref b, .int x1] SH (I, F, L, RT t) (po_V_F I L t (v_49 F b x1)) := by
  refine cn_49 ?_
  obtain ⟨T1, hT1⟩ : ∃ r : WF, r = (v_49 F b x1) := ⟨_, rfl⟩
  rw [← hT1]
  have he := (hT1.trans (v_49.eq_1 ..)).symm
  have hg := Eq.mp (g_49.eq_1 ..) hg
  have k1 := hg
  exact bk_49_0 hb k1 (rl_V_F he)
/-- VectorShelf$Sheet.giveRun(ILVectorShelf$Sheet;II)V -/
def v_50 (I : WI) (F : WF) (b : Nat) (x1 : Int32) (r2 : Nat) (x3 : Int32) (x4 : Int32) : WI × WF := (if (I b 0) = 0 then (bx ((upR F (r2 + 1) (va_cpy (F (b + 1)) (F (r2 + 1)) x1.toNatClampNeg x3.toNatClampNeg x4.toNatClampNeg)) : WF) (fun p1 => (I, p1))) else (if (I b 0) = 1 then (bx ((upR I (r2 + 2) (va_cpy (I (b + 2)) (I (r2 + 2)) x1.toNatClampNeg x3.toNatClampNeg x4.toNatClampNeg)) : WI) (fun p2 => (p2, F))) else (if (I b 0) = 2 then (bx ((upR I (r2 + 3) (va_cpy (I (b + 3)) (I (r2 + 3)) x1.toNatClampNeg x3.toNatClampNeg x4.toNatClampNeg)) : WI) (fun p3 => (p3, F))) else (I, F))))
def g_50 (I : WI) (b : Nat) (x1 : Int32) (x3 : Int32) (x4 : Int32) : Prop := (((I b 0) = 0 → ((¬ x1 < 0) ∧ ((¬ x3 < 0) ∧ ((¬ x4 < 0) ∧ ((x1.toNatClampNeg + x4.toNatClampNeg ≤ 40) ∧ (x3.toNatClampNeg + x4.toNatClampNeg ≤ 40)))))) ∧ (¬ ((I b 0) = 0) → (((I b 0) = 1 → ((¬ x1 < 0) ∧ ((¬ x3 < 0) ∧ ((¬ x4 < 0) ∧ ((x1.toNatClampNeg + x4.toNatClampNeg ≤ 40) ∧ ((x3.toNatClampNeg + x4.toNatClampNeg ≤ 40) ∧ (∀ i, i < x4.toNatClampNeg → fits .byte (.int (I (b + 2) (x1.toNatClampNeg + i))) = true))))))) ∧ (¬ ((I b 0) = 1) → (((I b 0) = 2 → ((¬ x1 < 0) ∧ ((¬ x3 < 0) ∧ ((¬ x4 < 0) ∧ ((x1.toNatClampNeg + x4.toNatClampNeg ≤ 40) ∧ ((x3.toNatClampNeg + x4.toNatClampNeg ≤ 40) ∧ (∀ i, i < x4.toNatClampNeg → fits .short (.int (I (b + 3) (x1.toNatClampNeg + i))) = true))))))) ∧ (¬ ((I b 0) = 2) → True))))))
theorem cc_50 {l : LX} {d : Nat} {I : WI} {F : WF} {L : WL} {t : Nat} {b : Nat} {x1 : Int32} {r2 : Nat} {x3 : Int32} {x4 : Int32} (hb : isH b) (hr2 : isH r2) (hg : g_50 I b x1 x3 x4) : Con l 50 (d + 1) 0 0 [.ref b, .int x1, .ref r2, .int x3, .int x4] SH (I, F, L, RT t) (po_V_IF L t (v_50 I F b x1 r2 x3 x4)) := by
  refine cn_50 ?_
  obtain ⟨T1, hT1⟩ : ∃ r : WI × WF, r = (v_50 I F b x1 r2 x3 x4) := ⟨_, rfl⟩
  rw [← hT1]
  have he := (hT1.trans (v_50.eq_1 ..)).symm
  have hg := Eq.mp (g_50.eq_1 ..) hg
  refine bk_50_0 hb (fun h1 => ?_) (fun h1 => ?_) (fun h1 => ?_) (fun h1x0 h1x1 h1x2 => ?_)
  · have he := ite_p h1 he
    have hg := hg.1 h1
    obtain ⟨k2, k3, k4, k5, k6⟩ := hg
    refine bk_50_32 hb hr2 k2 k3 k4 k5 k6 ?_
    obtain ⟨p1, hr⟩ : ∃ q : WF, q = (upR F (r2 + 1) (va_cpy (F (b + 1)) (F (r2 + 1)) x1.toNatClampNeg x3.toNatClampNeg x4.toNatClampNeg)) := ⟨_, rfl⟩
    rw [← hr]
    have he := bx_eq hr he
    refine bk_50_47 ?_
    exact bk_50_86 (rl_V_IF he)
  · have he := ite_n (show ¬ (I b 0) = 0 from fun e => absurd (h1.symm.trans e) (by decide)) he
    have hg := hg.2 (show ¬ (I b 0) = 0 from fun e => absurd (h1.symm.trans e) (by decide))
    have he := ite_p h1 he
    have hg := hg.1 h1
    obtain ⟨k7, k8, k9, k10, k11, k12⟩ := hg
    refine bk_50_50 hb hr2 k7 k8 k9 k10 k11 ?_ k12
    obtain ⟨p2, hr⟩ : ∃ q : WI, q = (upR I (r2 + 2) (va_cpy (I (b + 2)) (I (r2 + 2)) x1.toNatClampNeg x3.toNatClampNeg x4.toNatClampNeg)) := ⟨_, rfl⟩
    rw [← hr]
    have he := bx_eq hr he
    refine bk_50_65 ?_
    exact bk_50_86 (rl_V_IF he)
  · have he := ite_n (show ¬ (I b 0) = 0 from fun e => absurd (h1.symm.trans e) (by decide)) he
    have hg := hg.2 (show ¬ (I b 0) = 0 from fun e => absurd (h1.symm.trans e) (by decide))
    have he := ite_n (show ¬ (I b 0) = 1 from fun e => absurd (h1.symm.trans e) (by decide)) he
    have hg := hg.2 (show ¬ (I b 0) = 1 from fun e => absurd (h1.symm.trans e) (by decide))
    have he := ite_p h1 he
    have hg := hg.1 h1
    obtain ⟨k13, k14, k15, k16, k17, k18⟩ := hg
    refine bk_50_68 hb hr2 k13 k14 k15 k16 k17 ?_ k18
    obtain ⟨p3, hr⟩ : ∃ q : WI, q = (upR I (r2 + 3) (va_cpy (I (b + 3)) (I (r2 + 3)) x1.toNatClampNeg x3.toNatClampNeg x4.toNatClampNeg)) := ⟨_, rfl⟩
    rw [← hr]
    have he := bx_eq hr he
    refine bk_50_83 ?_
    exact bk_50_86 (rl_V_IF he)
  · have he := ite_n h1x0 he
    have he := ite_n h1x1 he
    have he := ite_n h1x2 he
    exact bk_50_86 (rl_V_IF he)
/-- VectorShelf$Sheet.restBy250(I)I -/
def v_51 (F : WF) (b : Nat) (x1 : Int32) : Int32 := (Int64.toInt32 ((FP.f2l (FP.fmul 1082130432 (F (b + 1) x1.toNatClampNeg))) - (FP.f2l (FP.fmul 1082130432 (F (b + 1) x1.toNatClampNeg))) / 1000 * 1000))
def g_51 (F : WF) (b : Nat) (x1 : Int32) : Prop := ((vp_in x1 40) ∧ ((vf_n32 (FP.fmul 1082130432 (F (b + 1) x1.toNatClampNeg))) ∧ (¬ (1000 : Int64) = 0)))
theorem cc_51 {l : LX} {d : Nat} {I : WI} {F : WF} {L : WL} {t : Nat} {b : Nat} {x1 : Int32} (hb : isH b) (hg : g_51 F b x1) : Con l 51 (d + 0) 0 0 [.ref b, .int x1] SH (I, F, L, RT t) (rI (v_51 F b x1) (I, F, L, RT t)) := by
  refine cn_51 ?_
  obtain ⟨T1, hT1⟩ : ∃ r : Int32, r = (v_51 F b x1) := ⟨_, rfl⟩
  rw [← hT1]
  have he := (hT1.trans (v_51.eq_1 ..)).symm
  have hg := Eq.mp (g_51.eq_1 ..) hg
  obtain ⟨k1, k2, k3⟩ := hg
  exact bk_51_0 hb k1 k2 k3 (rl_p_I he)
/-- the loop at 2 of VectorShelf$Shelf.emptyBox -/
def lp_54_2 (I : WI) (b : Nat) (x1 : Int32) : Nat → WI
  | 0 => I
  | k + 1 => bx (lp_54_2 I b x1 k) (fun p1 => (up2 (up2 p1 (b + 5) ((3 * x1) + (nI k)).toNatClampNeg 1000) (b + 6) ((3 * x1) + (nI k)).toNatClampNeg (-1000)))
def gl_54_2 (I : WI) (b : Nat) (x1 : Int32) (N : Nat) : Prop := (∀ k, k < N → bx (lp_54_2 I b x1 k) (fun p1 => (vp_in ((3 * x1) + (nI k)) 12)))
theorem lw_54_2 {l : LX} {d : Nat} {P : RP} {I : WI} {F : WF} {L : WL} {t : Nat} {b : Nat} {x1 : Int32} (hb : isS b) (hgl : gl_54_2 I b x1 ((3 : Int32).toNatClampNeg)) (hx : ∀ p1 : WI, p1 = lp_54_2 I b x1 ((3 : Int32).toNatClampNeg) → Wp l 54 (d + 0) 0 0 P 0 0 39 [] [] SH (p1, F, L, RT t)) : Wp l 54 (d + 0) 0 0 P 0 0 2 [(0, .ref b), (1, .int x1), (2, .int 0)] [] SH (I, F, L, RT t) := by
  have hin := hgl
  have loop : ∀ m k, k + m = (3 : Int32).toNatClampNeg → ∀ p1 : WI, p1 = lp_54_2 I b x1 k → Wp l 54 (d + 0) 0 0 P 0 0 2 [(0, .ref b), (1, .int x1), (2, .int (nI k))] [] SH (p1, F, L, RT t) := by
    intro m
    induction m with
    | zero =>
      intro k hk p1 hs
      obtain rfl : k = (3 : Int32).toNatClampNeg := by omega
      exact bk_54_2  (fun _ => hx _ hs) (fun h => absurd ((le_cl (Nat.le_refl _)).mpr rfl) h)
    | succ m ih =>
      intro k hk p1 hs
      have hk2 : k < (3 : Int32).toNatClampNeg := by omega
      have ih := ih (k + 1) (by omega)
      rw [nI_succ] at ih
      have he := bx_eq hs (lp_54_2.eq_2 ..).symm
      have hg := bx_un hs (hin k hk2)
      refine bk_54_2  (fun h => absurd ((le_cl (E := 3) (i := k) (by omega)).mp h) (by omega)) (fun _ => ?_)
      have k1 := hg
      refine bk_54_7 hb k1 ?_
      exact ih (up2 (up2 p1 (b + 5) ((3 * x1) + (nI k)).toNatClampNeg 1000) (b + 6) ((3 * x1) + (nI k)).toNatClampNeg (-1000)) he
  exact loop _ 0 (Nat.zero_add _) _ rfl
/-- VectorShelf$Shelf.emptyBox(I)V -/
def v_54 (I : WI) (b : Nat) (x1 : Int32) : WI := (bx ((lp_54_2 I b x1 ((3 : Int32).toNatClampNeg)) : WI) (fun p2 => p2))
def g_54 (I : WI) (b : Nat) (x1 : Int32) : Prop := (gl_54_2 I b x1 ((3 : Int32).toNatClampNeg))
theorem cc_54 {l : LX} {d : Nat} {I : WI} {F : WF} {L : WL} {t : Nat} {b : Nat} {x1 : Int32} (hb : isS b) (hg : g_54 I b x1) : Con l 54 (d + 0) 0 0 [.ref b, .int x1] SH (I, F, L, RT t) (po_V_I F L t (v_54 I b x1)) := by
  refine cn_54 ?_
  obtain ⟨T1, hT1⟩ : ∃ r : WI, r = (v_54 I b x1) := ⟨_, rfl⟩
  rw [← hT1]
  have he := (hT1.trans (v_54.eq_1 ..)).symm
  have hg := Eq.mp (g_54.eq_1 ..) hg
  refine bk_54_0 ?_
  have hgX := hg
  refine lw_54_2 (d := d) hb hgX (fun p2 hr => ?_)
  have he := bx_eq hr he
  exact bk_54_39 (rl_V_I he)
/-- VectorShelf$Shelf.mark(IZ)V -/
def v_56 (I : WI) (b : Nat) (x1 : Int32) (x2 : Int32) : WI := (bx ((if x2 = 0 then ((I b 12) &&& ((1 <<< (x1 &&& 31)) ^^^ (-1))) else ((I b 12) ||| (1 <<< (x1 &&& 31)))) : Int32) (fun p1 => (up2 I b 12 p1)))
theorem cc_56 {l : LX} {d : Nat} {I : WI} {F : WF} {L : WL} {t : Nat} {b : Nat} {x1 : Int32} {x2 : Int32} (hb : isS b) : Con l 56 (d + 0) 0 0 [.ref b, .int x1, .int x2] SH (I, F, L, RT t) (po_V_I F L t (v_56 I b x1 x2)) := by
  refine cn_56 ?_
  obtain ⟨T1, hT1⟩ : ∃ r : WI, r = (v_56 I b x1 x2) := ⟨_, rfl⟩
  rw [← hT1]
  have he := (hT1.trans (v_56.eq_1 ..)).symm
  obtain ⟨X1, hX1⟩ : ∃ r : Int32, r = (if x2 = 0 then ((I b 12) &&& ((1 <<< (x1 &&& 31)) ^^^ (-1))) else ((I b 12) ||| (1 <<< (x1 &&& 31)))) := ⟨_, rfl⟩
  have J1 : ∀ p1 : Int32, p1 = X1 → Wp l 56 (d + 0) 0 0 (po_V_I F L t T1) 0 0 26 [] [.int p1, .ref b] SH (I, F, L, RT t) := by
    intro p1 hr
    have hr := hr.trans hX1
    have he := bx_eq hr he
    exact bk_56_26 hb (rl_V_I he)
  have he := hX1.symm
  refine bk_56_0 (fun h1 => ?_) (fun h1 => ?_)
  · have he := ite_p h1 he
    refine bk_56_16 hb ?_
    exact J1 ((I b 12) &&& ((1 <<< (x1 &&& 31)) ^^^ (-1))) he
  · have he := ite_n h1 he
    refine bk_56_5 hb ?_
    exact J1 ((I b 12) ||| (1 <<< (x1 &&& 31))) he
/-- the loop at 5 of VectorShelf$Shelf.squares -/
def lp_59_5 (I : WI) (b : Nat) (x1 : Int32) (x2 : Int32) (a3 : Int32) : Nat → Int32
  | 0 => a3
  | k + 1 => bx (lp_59_5 I b x1 x2 a3 k) (fun p1 => (p1 + (((I (b + 7) ((3 * x1) + (nI k)).toNatClampNeg) - (I (b + 4) ((3 * x2) + (nI k)).toNatClampNeg)) * ((I (b + 7) ((3 * x1) + (nI k)).toNatClampNeg) - (I (b + 4) ((3 * x2) + (nI k)).toNatClampNeg)))))
def gl_59_5 (I : WI) (b : Nat) (x1 : Int32) (x2 : Int32) (a3 : Int32) (N : Nat) : Prop := (∀ k, k < N → bx (lp_59_5 I b x1 x2 a3 k) (fun p1 => ((vp_in ((3 * x1) + (nI k)) 36) ∧ (vp_in ((3 * x2) + (nI k)) 12))))
theorem lw_59_5 {l : LX} {d : Nat} {P : RP} {I : WI} {F : WF} {L : WL} {t : Nat} {b : Nat} {x1 : Int32} {x2 : Int32} {a3 : Int32} (hb : isS b) (hgl : gl_59_5 I b x1 x2 a3 ((3 : Int32).toNatClampNeg)) (hx : ∀ p1 : Int32, p1 = lp_59_5 I b x1 x2 a3 ((3 : Int32).toNatClampNeg) → Wp l 59 (d + 0) 0 0 P 0 0 50 [(3, .int p1)] [] SH (I, F, L, RT t)) : Wp l 59 (d + 0) 0 0 P 0 0 5 [(0, .ref b), (1, .int x1), (2, .int x2), (3, .int a3), (4, .int 0)] [] SH (I, F, L, RT t) := by
  have hin := hgl
  have loop : ∀ m k, k + m = (3 : Int32).toNatClampNeg → ∀ p1 : Int32, p1 = lp_59_5 I b x1 x2 a3 k → Wp l 59 (d + 0) 0 0 P 0 0 5 [(0, .ref b), (1, .int x1), (2, .int x2), (3, .int p1), (4, .int (nI k))] [] SH (I, F, L, RT t) := by
    intro m
    induction m with
    | zero =>
      intro k hk p1 hs
      obtain rfl : k = (3 : Int32).toNatClampNeg := by omega
      exact bk_59_5  (fun _ => hx _ hs) (fun h => absurd ((le_cl (Nat.le_refl _)).mpr rfl) h)
    | succ m ih =>
      intro k hk p1 hs
      have hk2 : k < (3 : Int32).toNatClampNeg := by omega
      have ih := ih (k + 1) (by omega)
      rw [nI_succ] at ih
      have he := bx_eq hs (lp_59_5.eq_2 ..).symm
      have hg := bx_un hs (hin k hk2)
      refine bk_59_5  (fun h => absurd ((le_cl (E := 3) (i := k) (by omega)).mp h) (by omega)) (fun _ => ?_)
      obtain ⟨k1, k2⟩ := hg
      refine bk_59_11 hb k1 k2 ?_
      exact ih (p1 + (((I (b + 7) ((3 * x1) + (nI k)).toNatClampNeg) - (I (b + 4) ((3 * x2) + (nI k)).toNatClampNeg)) * ((I (b + 7) ((3 * x1) + (nI k)).toNatClampNeg) - (I (b + 4) ((3 * x2) + (nI k)).toNatClampNeg)))) he
  exact loop _ 0 (Nat.zero_add _) _ rfl
/-- VectorShelf$Shelf.squares(II)I -/
def v_59 (I : WI) (b : Nat) (x1 : Int32) (x2 : Int32) : Int32 := (bx ((lp_59_5 I b x1 x2 (0 : Int32) ((3 : Int32).toNatClampNeg)) : Int32) (fun p2 => p2))
def g_59 (I : WI) (b : Nat) (x1 : Int32) (x2 : Int32) : Prop := (gl_59_5 I b x1 x2 (0 : Int32) ((3 : Int32).toNatClampNeg))
theorem cc_59 {l : LX} {d : Nat} {I : WI} {F : WF} {L : WL} {t : Nat} {b : Nat} {x1 : Int32} {x2 : Int32} (hb : isS b) (hg : g_59 I b x1 x2) : Con l 59 (d + 0) 0 0 [.ref b, .int x1, .int x2] SH (I, F, L, RT t) (rI (v_59 I b x1 x2) (I, F, L, RT t)) := by
  refine cn_59 ?_
  obtain ⟨T1, hT1⟩ : ∃ r : Int32, r = (v_59 I b x1 x2) := ⟨_, rfl⟩
  rw [← hT1]
  have he := (hT1.trans (v_59.eq_1 ..)).symm
  have hg := Eq.mp (g_59.eq_1 ..) hg
  refine bk_59_0 ?_
  have hgX := hg
  refine lw_59_5 (d := d) hb hgX (fun p2 hr => ?_)
  have he := bx_eq hr he
  exact bk_59_50 (rl_p_I he)
/-- VectorShelf$Shelf.outside(III)I -/
def v_65 (x0 : Int32) (x1 : Int32) (x2 : Int32) : Int32 := (if x1 ≤ x0 then (if x0 ≤ x2 then 0 else (x0 - x2)) else (x1 - x0))
theorem cc_65 {l : LX} {d : Nat} {I : WI} {F : WF} {L : WL} {t : Nat} {x0 : Int32} {x1 : Int32} {x2 : Int32} : Con l 65 (d + 0) 0 0 [.int x0, .int x1, .int x2] SH (I, F, L, RT t) (rI (v_65 x0 x1 x2) (I, F, L, RT t)) := by
  refine cn_65 ?_
  obtain ⟨T1, hT1⟩ : ∃ r : Int32, r = (v_65 x0 x1 x2) := ⟨_, rfl⟩
  rw [← hT1]
  have he := (hT1.trans (v_65.eq_1 ..)).symm
  refine bk_65_0 (fun h1 => ?_) (fun h1 => ?_)
  · have he := ite_p h1 he
    refine bk_65_9 (fun h2 => ?_) (fun h2 => ?_)
    · have he := ite_p h2 he
      refine bk_65_20 ?_
      exact bk_65_21 (rl_p_I he)
    · have he := ite_n h2 he
      refine bk_65_14 ?_
      exact bk_65_21 (rl_p_I he)
  · have he := ite_n h1 he
    exact bk_65_5 (rl_p_I he)
/-- the loop at 4 of VectorShelf$Shelf.holders -/
def lp_66_4 (I : WI) (b : Nat) (x1 : Int32) (a2 : Int32) : Nat → Int32
  | 0 => a2
  | k + 1 => bx (lp_66_4 I b x1 a2 k) (fun p1 => (bx ((if ¬ (I (b + 9) (nI k).toNatClampNeg) = x1 then p1 else (p1 ||| (1 <<< ((nI k) &&& 31)))) : Int32) (fun p2 => p2)))
def gl_66_4 (I : WI) (b : Nat) (x1 : Int32) (a2 : Int32) (N : Nat) : Prop := (∀ k, k < N → bx (lp_66_4 I b x1 a2 k) (fun p1 => (vp_in (nI k) 12)))
theorem lw_66_4 {l : LX} {d : Nat} {P : RP} {I : WI} {F : WF} {L : WL} {t : Nat} {b : Nat} {x1 : Int32} {a2 : Int32} (hb : isS b) (hgl : gl_66_4 I b x1 a2 ((I b 8).toNatClampNeg)) (hx : ∀ p1 : Int32, p1 = lp_66_4 I b x1 a2 ((I b 8).toNatClampNeg) → Wp l 66 (d + 0) 0 0 P 0 0 34 [(2, .int p1)] [] SH (I, F, L, RT t)) : Wp l 66 (d + 0) 0 0 P 0 0 4 [(0, .ref b), (1, .int x1), (2, .int a2), (3, .int 0)] [] SH (I, F, L, RT t) := by
  have hin := hgl
  have loop : ∀ m k, k + m = (I b 8).toNatClampNeg → ∀ p1 : Int32, p1 = lp_66_4 I b x1 a2 k → Wp l 66 (d + 0) 0 0 P 0 0 4 [(0, .ref b), (1, .int x1), (2, .int p1), (3, .int (nI k))] [] SH (I, F, L, RT t) := by
    intro m
    induction m with
    | zero =>
      intro k hk p1 hs
      obtain rfl : k = (I b 8).toNatClampNeg := by omega
      exact bk_66_4 hb (fun _ => hx _ hs) (fun h => absurd ((le_cl (Nat.le_refl _)).mpr rfl) h)
    | succ m ih =>
      intro k hk p1 hs
      have hk2 : k < (I b 8).toNatClampNeg := by omega
      have ih := ih (k + 1) (by omega)
      rw [nI_succ] at ih
      have he := bx_eq hs (lp_66_4.eq_2 ..).symm
      have hg := bx_un hs (hin k hk2)
      refine bk_66_4 hb (fun h => absurd ((le_cl (E := (I b 8)) (i := k) (by omega)).mp h) (by omega)) (fun _ => ?_)
      have k1 := hg
      obtain ⟨X1, hX1⟩ : ∃ r : Int32, r = (if ¬ (I (b + 9) (nI k).toNatClampNeg) = x1 then p1 else (p1 ||| (1 <<< ((nI k) &&& 31)))) := ⟨_, rfl⟩
      have J1 : ∀ p2 : Int32, p2 = X1 → Wp l 66 (d + 0) 0 0 P 0 0 28 [(0, .ref b), (1, .int x1), (2, .int p2), (3, .int (nI k))] [] SH (I, F, L, RT t) := by
        intro p2 hr
        have hr := hr.trans hX1
        have he := bx_eq hr he
        refine bk_66_28 ?_
        exact ih p2 he
      have he := hX1.symm
      refine bk_66_12 hb k1 (fun h2 => ?_) (fun h2 => ?_)
      · have he := ite_p h2 he
        exact J1 p1 he
      · have he := ite_n h2 he
        refine bk_66_22 ?_
        exact J1 (p1 ||| (1 <<< ((nI k) &&& 31))) he
  exact loop _ 0 (Nat.zero_add _) _ rfl
/-- VectorShelf$Shelf.holders(I)I -/
def v_66 (I : WI) (b : Nat) (x1 : Int32) : Int32 := (bx ((lp_66_4 I b x1 (0 : Int32) ((I b 8).toNatClampNeg)) : Int32) (fun p3 => p3))
def g_66 (I : WI) (b : Nat) (x1 : Int32) : Prop := (gl_66_4 I b x1 (0 : Int32) ((I b 8).toNatClampNeg))
theorem cc_66 {l : LX} {d : Nat} {I : WI} {F : WF} {L : WL} {t : Nat} {b : Nat} {x1 : Int32} (hb : isS b) (hg : g_66 I b x1) : Con l 66 (d + 0) 0 0 [.ref b, .int x1] SH (I, F, L, RT t) (rI (v_66 I b x1) (I, F, L, RT t)) := by
  refine cn_66 ?_
  obtain ⟨T1, hT1⟩ : ∃ r : Int32, r = (v_66 I b x1) := ⟨_, rfl⟩
  rw [← hT1]
  have he := (hT1.trans (v_66.eq_1 ..)).symm
  have hg := Eq.mp (g_66.eq_1 ..) hg
  refine bk_66_0 ?_
  have hgX := hg
  refine lw_66_4 (d := d) hb hgX (fun p3 hr => ?_)
  have he := bx_eq hr he
  exact bk_66_34 (rl_p_I he)
/-- VectorShelf$Shelf.isBoxEmpty(I)Z -/
def v_67 (I : WI) (b : Nat) (x1 : Int32) : Int32 := (if (I (b + 5) (3 * x1).toNatClampNeg) ≤ (I (b + 6) (3 * x1).toNatClampNeg) then 0 else 1)
def g_67 (x1 : Int32) : Prop := (vp_in (3 * x1) 12)
theorem cc_67 {l : LX} {d : Nat} {I : WI} {F : WF} {L : WL} {t : Nat} {b : Nat} {x1 : Int32} (hb : isS b) (hg : g_67 x1) : Con l 67 (d + 0) 0 0 [.ref b, .int x1] SH (I, F, L, RT t) (rI (v_67 I b x1) (I, F, L, RT t)) := by
  refine cn_67 ?_
  obtain ⟨T1, hT1⟩ : ∃ r : Int32, r = (v_67 I b x1) := ⟨_, rfl⟩
  rw [← hT1]
  have he := (hT1.trans (v_67.eq_1 ..)).symm
  have hg := Eq.mp (g_67.eq_1 ..) hg
  have k1 := hg
  refine bk_67_0 hb k1 (fun h2 => ?_) (fun h2 => ?_)
  · have he := ite_p h2 he
    refine bk_67_23 ?_
    exact bk_67_24 (by decide) (rl_p_I he)
  · have he := ite_n h2 he
    refine bk_67_19 ?_
    exact bk_67_24 (by decide) (rl_p_I he)
theorem sb_67 (I : WI) (b : Nat) (x1 : Int32) : (v_67 I b x1) &&& 1 = (v_67 I b x1) := by
  unfold v_67
  repeat' split
  all_goals first | rfl
/-- VectorShelf$Shelf.change(II)I -/
def v_69 (I : WI) (b : Nat) (x1 : Int32) (x2 : Int32) : Int32 × WI := (if x1 = 0 then ((I b 1), (up2 I b 1 x2)) else (if x1 = 1 then ((I (b + 1) 1), (up2 I (b + 1) 1 x2)) else (if x1 = 2 then ((I (b + 1) 2), (up2 I (b + 1) 2 x2)) else (if x1 = 3 then ((I (b + 1) 0), (up2 I (b + 1) 0 x2)) else (if x1 = 4 then ((I (b + 2) (x1 - 4).toNatClampNeg), (up2 I (b + 2) (x1 - 4).toNatClampNeg x2)) else (if x1 = 5 then ((I (b + 2) (x1 - 4).toNatClampNeg), (up2 I (b + 2) (x1 - 4).toNatClampNeg x2)) else (if x1 = 6 then ((I (b + 2) (x1 - 4).toNatClampNeg), (up2 I (b + 2) (x1 - 4).toNatClampNeg x2)) else ((-2), I))))))))
def g_69 (x1 : Int32) : Prop := ((x1 = 0 → True) ∧ (¬ (x1 = 0) → ((x1 = 1 → True) ∧ (¬ (x1 = 1) → ((x1 = 2 → True) ∧ (¬ (x1 = 2) → ((x1 = 3 → True) ∧ (¬ (x1 = 3) → ((x1 = 4 → (vp_in (x1 - 4) 3)) ∧ (¬ (x1 = 4) → ((x1 = 5 → (vp_in (x1 - 4) 3)) ∧ (¬ (x1 = 5) → ((x1 = 6 → (vp_in (x1 - 4) 3)) ∧ (¬ (x1 = 6) → True))))))))))))))
theorem cc_69 {l : LX} {d : Nat} {I : WI} {F : WF} {L : WL} {t : Nat} {b : Nat} {x1 : Int32} {x2 : Int32} (hb : isS b) (hg : g_69 x1) : Con l 69 (d + 0) 0 0 [.ref b, .int x1, .int x2] SH (I, F, L, RT t) (po_I_I F L t (v_69 I b x1 x2)) := by
  refine cn_69 ?_
  obtain ⟨T1, hT1⟩ : ∃ r : Int32 × WI, r = (v_69 I b x1 x2) := ⟨_, rfl⟩
  rw [← hT1]
  have he := (hT1.trans (v_69.eq_1 ..)).symm
  have hg := Eq.mp (g_69.eq_1 ..) hg
  refine bk_69_0 (fun h1 => ?_) (fun h1 => ?_) (fun h1 => ?_) (fun h1 => ?_) (fun h1 => ?_) (fun h1 => ?_) (fun h1 => ?_) (fun h1x0 h1x1 h1x2 h1x3 h1x4 h1x5 h1x6 => ?_)
  · have he := ite_p h1 he
    exact bk_69_44 hb (rl_I_I he)
  · have he := ite_n (show ¬ x1 = 0 from fun e => absurd (h1.symm.trans e) (by decide)) he
    have hg := hg.2 (show ¬ x1 = 0 from fun e => absurd (h1.symm.trans e) (by decide))
    have he := ite_p h1 he
    exact bk_69_56 hb (rl_I_I he)
  · have he := ite_n (show ¬ x1 = 0 from fun e => absurd (h1.symm.trans e) (by decide)) he
    have hg := hg.2 (show ¬ x1 = 0 from fun e => absurd (h1.symm.trans e) (by decide))
    have he := ite_n (show ¬ x1 = 1 from fun e => absurd (h1.symm.trans e) (by decide)) he
    have hg := hg.2 (show ¬ x1 = 1 from fun e => absurd (h1.symm.trans e) (by decide))
    have he := ite_p h1 he
    exact bk_69_74 hb (rl_I_I he)
  · have he := ite_n (show ¬ x1 = 0 from fun e => absurd (h1.symm.trans e) (by decide)) he
    have hg := hg.2 (show ¬ x1 = 0 from fun e => absurd (h1.symm.trans e) (by decide))
    have he := ite_n (show ¬ x1 = 1 from fun e => absurd (h1.symm.trans e) (by decide)) he
    have hg := hg.2 (show ¬ x1 = 1 from fun e => absurd (h1.symm.trans e) (by decide))
    have he := ite_n (show ¬ x1 = 2 from fun e => absurd (h1.symm.trans e) (by decide)) he
    have hg := hg.2 (show ¬ x1 = 2 from fun e => absurd (h1.symm.trans e) (by decide))
    have he := ite_p h1 he
    exact bk_69_92 hb (rl_I_I he)
  · have he := ite_n (show ¬ x1 = 0 from fun e => absurd (h1.symm.trans e) (by decide)) he
    have hg := hg.2 (show ¬ x1 = 0 from fun e => absurd (h1.symm.trans e) (by decide))
    have he := ite_n (show ¬ x1 = 1 from fun e => absurd (h1.symm.trans e) (by decide)) he
    have hg := hg.2 (show ¬ x1 = 1 from fun e => absurd (h1.symm.trans e) (by decide))
    have he := ite_n (show ¬ x1 = 2 from fun e => absurd (h1.symm.trans e) (by decide)) he
    have hg := hg.2 (show ¬ x1 = 2 from fun e => absurd (h1.symm.trans e) (by decide))
    have he := ite_n (show ¬ x1 = 3 from fun e => absurd (h1.symm.trans e) (by decide)) he
    have hg := hg.2 (show ¬ x1 = 3 from fun e => absurd (h1.symm.trans e) (by decide))
    have he := ite_p h1 he
    have hg := hg.1 h1
    have k2 := hg
    exact bk_69_110 hb k2 (rl_I_I he)
  · have he := ite_n (show ¬ x1 = 0 from fun e => absurd (h1.symm.trans e) (by decide)) he
    have hg := hg.2 (show ¬ x1 = 0 from fun e => absurd (h1.symm.trans e) (by decide))
    have he := ite_n (show ¬ x1 = 1 from fun e => absurd (h1.symm.trans e) (by decide)) he
    have hg := hg.2 (show ¬ x1 = 1 from fun e => absurd (h1.symm.trans e) (by decide))
    have he := ite_n (show ¬ x1 = 2 from fun e => absurd (h1.symm.trans e) (by decide)) he
    have hg := hg.2 (show ¬ x1 = 2 from fun e => absurd (h1.symm.trans e) (by decide))
    have he := ite_n (show ¬ x1 = 3 from fun e => absurd (h1.symm.trans e) (by decide)) he
    have hg := hg.2 (show ¬ x1 = 3 from fun e => absurd (h1.symm.trans e) (by decide))
    have he := ite_n (show ¬ x1 = 4 from fun e => absurd (h1.symm.trans e) (by decide)) he
    have hg := hg.2 (show ¬ x1 = 4 from fun e => absurd (h1.symm.trans e) (by decide))
    have he := ite_p h1 he
    have hg := hg.1 h1
    have k3 := hg
    exact bk_69_110 hb k3 (rl_I_I he)
  · have he := ite_n (show ¬ x1 = 0 from fun e => absurd (h1.symm.trans e) (by decide)) he
    have hg := hg.2 (show ¬ x1 = 0 from fun e => absurd (h1.symm.trans e) (by decide))
    have he := ite_n (show ¬ x1 = 1 from fun e => absurd (h1.symm.trans e) (by decide)) he
    have hg := hg.2 (show ¬ x1 = 1 from fun e => absurd (h1.symm.trans e) (by decide))
    have he := ite_n (show ¬ x1 = 2 from fun e => absurd (h1.symm.trans e) (by decide)) he
    have hg := hg.2 (show ¬ x1 = 2 from fun e => absurd (h1.symm.trans e) (by decide))
    have he := ite_n (show ¬ x1 = 3 from fun e => absurd (h1.symm.trans e) (by decide)) he
    have hg := hg.2 (show ¬ x1 = 3 from fun e => absurd (h1.symm.trans e) (by decide))
    have he := ite_n (show ¬ x1 = 4 from fun e => absurd (h1.symm.trans e) (by decide)) he
    have hg := hg.2 (show ¬ x1 = 4 from fun e => absurd (h1.symm.trans e) (by decide))
    have he := ite_n (show ¬ x1 = 5 from fun e => absurd (h1.symm.trans e) (by decide)) he
    have hg := hg.2 (show ¬ x1 = 5 from fun e => absurd (h1.symm.trans e) (by decide))
    have he := ite_p h1 he
    have hg := hg.1 h1
    have k4 := hg
    exact bk_69_110 hb k4 (rl_I_I he)
  · have he := ite_n h1x0 he
    have he := ite_n h1x1 he
    have he := ite_n h1x2 he
    have he := ite_n h1x3 he
    have he := ite_n h1x4 he
    have he := ite_n h1x5 he
    have he := ite_n h1x6 he
    exact bk_69_136 (rl_I_I he)
/-- VectorShelf$Shelf.stand(III)V -/
def v_70 (I : WI) (b : Nat) (x1 : Int32) (x2 : Int32) (x3 : Int32) : WI := (up2 (up2 (up2 I (b + 3) 0 x1) (b + 3) 1 x2) (b + 3) 2 x3)
theorem cc_70 {l : LX} {d : Nat} {I : WI} {F : WF} {L : WL} {t : Nat} {b : Nat} {x1 : Int32} {x2 : Int32} {x3 : Int32} (hb : isS b) : Con l 70 (d + 0) 0 0 [.ref b, .int x1, .int x2, .int x3] SH (I, F, L, RT t) (po_V_I F L t (v_70 I b x1 x2 x3)) := by
  refine cn_70 ?_
  obtain ⟨T1, hT1⟩ : ∃ r : WI, r = (v_70 I b x1 x2 x3) := ⟨_, rfl⟩
  rw [← hT1]
  have he := (hT1.trans (v_70.eq_1 ..)).symm
  exact bk_70_0 hb (rl_V_I he)
/-- VectorShelf$Shelf.lay(LVectorShelf$Shelf;)V -/
def v_76 (I : WI) (b : Nat) (r1 : Nat) : WI := (bx ((v_32 I (b + 1) (r1 + 1)) : WI) (fun p1 => (bx ((upR (up2 (up2 p1 b 1 (p1 r1 1)) b 2 ((up2 p1 b 1 (p1 r1 1)) r1 2)) (b + 3) (va_cpy ((up2 (up2 p1 b 1 (p1 r1 1)) b 2 ((up2 p1 b 1 (p1 r1 1)) r1 2)) (r1 + 3)) ((up2 (up2 p1 b 1 (p1 r1 1)) b 2 ((up2 p1 b 1 (p1 r1 1)) r1 2)) (b + 3)) 0 0 3)) : WI) (fun p2 => (bx ((upR (up2 p2 b 4 (p2 r1 4)) (b + 4) (va_cpy ((up2 p2 b 4 (p2 r1 4)) (r1 + 4)) ((up2 p2 b 4 (p2 r1 4)) (b + 4)) 0 0 12)) : WI) (fun p3 => (bx ((upR p3 (b + 5) (va_cpy (p3 (r1 + 5)) (p3 (b + 5)) 0 0 12)) : WI) (fun p4 => (bx ((upR p4 (b + 6) (va_cpy (p4 (r1 + 6)) (p4 (b + 6)) 0 0 12)) : WI) (fun p5 => (bx ((upR (up2 p5 b 8 (p5 r1 8)) (b + 7) (va_cpy ((up2 p5 b 8 (p5 r1 8)) (r1 + 7)) ((up2 p5 b 8 (p5 r1 8)) (b + 7)) 0 0 36)) : WI) (fun p6 => (bx ((upR p6 (b + 8) (va_cpy (p6 (r1 + 8)) (p6 (b + 8)) 0 0 12)) : WI) (fun p7 => (bx ((upR p7 (b + 9) (va_cpy (p7 (r1 + 9)) (p7 (b + 9)) 0 0 12)) : WI) (fun p8 => (up2 p8 b 12 (p8 r1 12))))))))))))))))))
theorem cc_76 {l : LX} {d : Nat} {I : WI} {F : WF} {L : WL} {t : Nat} {b : Nat} {r1 : Nat} (hb : isS b) (hr1 : isS r1) : Con l 76 (d + 2) 0 0 [.ref b, .ref r1] SH (I, F, L, RT t) (po_V_I F L t (v_76 I b r1)) := by
  refine cn_76 ?_
  obtain ⟨T1, hT1⟩ : ∃ r : WI, r = (v_76 I b r1) := ⟨_, rfl⟩
  rw [← hT1]
  have he := (hT1.trans (v_76.eq_1 ..)).symm
  refine bk_76_0 hb hr1 (cq_V_I (cc_32 (d := d + 0) (isM_S hb) (isM_S hr1))) ?_
  rintro _ _ _ _ ⟨p1, hr, rfl, rfl, rfl, rfl⟩
  have he := bx_eq hr he
  refine bk_76_11 hb hr1 ?_
  obtain ⟨p2, hr⟩ : ∃ q : WI, q = (upR (up2 (up2 p1 b 1 (p1 r1 1)) b 2 ((up2 p1 b 1 (p1 r1 1)) r1 2)) (b + 3) (va_cpy ((up2 (up2 p1 b 1 (p1 r1 1)) b 2 ((up2 p1 b 1 (p1 r1 1)) r1 2)) (r1 + 3)) ((up2 (up2 p1 b 1 (p1 r1 1)) b 2 ((up2 p1 b 1 (p1 r1 1)) r1 2)) (b + 3)) 0 0 3)) := ⟨_, rfl⟩
  rw [← hr]
  have he := bx_eq hr he
  refine bk_76_45 hb hr1 ?_
  obtain ⟨p3, hr⟩ : ∃ q : WI, q = (upR (up2 p2 b 4 (p2 r1 4)) (b + 4) (va_cpy ((up2 p2 b 4 (p2 r1 4)) (r1 + 4)) ((up2 p2 b 4 (p2 r1 4)) (b + 4)) 0 0 12)) := ⟨_, rfl⟩
  rw [← hr]
  have he := bx_eq hr he
  refine bk_76_71 hb hr1 ?_
  obtain ⟨p4, hr⟩ : ∃ q : WI, q = (upR p3 (b + 5) (va_cpy (p3 (r1 + 5)) (p3 (b + 5)) 0 0 12)) := ⟨_, rfl⟩
  rw [← hr]
  have he := bx_eq hr he
  refine bk_76_89 hb hr1 ?_
  obtain ⟨p5, hr⟩ : ∃ q : WI, q = (upR p4 (b + 6) (va_cpy (p4 (r1 + 6)) (p4 (b + 6)) 0 0 12)) := ⟨_, rfl⟩
  rw [← hr]
  have he := bx_eq hr he
  refine bk_76_107 hb hr1 ?_
  obtain ⟨p6, hr⟩ : ∃ q : WI, q = (upR (up2 p5 b 8 (p5 r1 8)) (b + 7) (va_cpy ((up2 p5 b 8 (p5 r1 8)) (r1 + 7)) ((up2 p5 b 8 (p5 r1 8)) (b + 7)) 0 0 36)) := ⟨_, rfl⟩
  rw [← hr]
  have he := bx_eq hr he
  refine bk_76_133 hb hr1 ?_
  obtain ⟨p7, hr⟩ : ∃ q : WI, q = (upR p6 (b + 8) (va_cpy (p6 (r1 + 8)) (p6 (b + 8)) 0 0 12)) := ⟨_, rfl⟩
  rw [← hr]
  have he := bx_eq hr he
  refine bk_76_151 hb hr1 ?_
  obtain ⟨p8, hr⟩ : ∃ q : WI, q = (upR p7 (b + 9) (va_cpy (p7 (r1 + 9)) (p7 (b + 9)) 0 0 12)) := ⟨_, rfl⟩
  rw [← hr]
  have he := bx_eq hr he
  exact bk_76_169 hb hr1 (rl_V_I he)
/-- VectorShelf$Text.clear()V -/
def v_80 (I : WI) (b : Nat) : WI := (up2 (up2 I b 1 0) b 2 0)
theorem cc_80 {l : LX} {d : Nat} {I : WI} {F : WF} {L : WL} {t : Nat} {b : Nat} (hb : isT b) : Con l 80 (d + 0) 0 0 [.ref b] SH (I, F, L, RT t) (po_V_I F L t (v_80 I b)) := by
  refine cn_80 ?_
  obtain ⟨T1, hT1⟩ : ∃ r : WI, r = (v_80 I b) := ⟨_, rfl⟩
  rw [← hT1]
  have he := (hT1.trans (v_80.eq_1 ..)).symm
  exact bk_80_0 hb (rl_V_I he)
/-- VectorShelf$Text.add(I)V -/
def v_81 (I : WI) (b : Nat) (x1 : Int32) : WI := (if 160 ≤ (I b 1) then I else (up2 (up2 I (b + 1) (I b 1).toNatClampNeg x1) b 1 (((up2 I (b + 1) (I b 1).toNatClampNeg x1) b 1) + 1)))
def g_81 (I : WI) (b : Nat) : Prop := (¬ (160 ≤ (I b 1)) → (vp_in (I b 1) 160))
theorem cc_81 {l : LX} {d : Nat} {I : WI} {F : WF} {L : WL} {t : Nat} {b : Nat} {x1 : Int32} (hb : isT b) (hg : g_81 I b) : Con l 81 (d + 0) 0 0 [.ref b, .int x1] SH (I, F, L, RT t) (po_V_I F L t (v_81 I b x1)) := by
  refine cn_81 ?_
  obtain ⟨T1, hT1⟩ : ∃ r : WI, r = (v_81 I b x1) := ⟨_, rfl⟩
  rw [← hT1]
  have he := (hT1.trans (v_81.eq_1 ..)).symm
  have hg := Eq.mp (g_81.eq_1 ..) hg
  refine bk_81_0 hb (fun h1 => ?_) (fun h1 => ?_)
  · have he := ite_p h1 he
    exact bk_81_32 (rl_V_I he)
  · have he := ite_n h1 he
    have hg := hg h1
    have k2 := hg
    refine bk_81_12 hb k2 ?_
    exact bk_81_32 (rl_V_I he)
/-- VectorShelf$TextReader.append(I)I -/
def v_83 (I : WI) (x1 : Int32) : Int32 × WI := (bx ((if 160 ≤ (I 31 1) then I else (up2 (up2 I 32 (I 31 1).toNatClampNeg x1) 31 1 ((I 31 1) + 1))) : WI) (fun p1 => ((p1 31 1), p1)))
def g_83 (I : WI) : Prop := (¬ (160 ≤ (I 31 1)) → (vp_in (I 31 1) 160))
theorem cc_83 {l : LX} {d : Nat} {I : WI} {F : WF} {L : WL} {t : Nat} {x1 : Int32} (hg : g_83 I) : Con l 83 (d + 0) 0 0 [.ref 31, .int x1] SH (I, F, L, RT t) (po_I_I F L t (v_83 I x1)) := by
  refine cn_83 ?_
  obtain ⟨T1, hT1⟩ : ∃ r : Int32 × WI, r = (v_83 I x1) := ⟨_, rfl⟩
  rw [← hT1]
  have he := (hT1.trans (v_83.eq_1 ..)).symm
  have hg := Eq.mp (g_83.eq_1 ..) hg
  have hgX := hg
  obtain ⟨X1, hX1⟩ : ∃ r : WI, r = (if 160 ≤ (I 31 1) then I else (up2 (up2 I 32 (I 31 1).toNatClampNeg x1) 31 1 ((I 31 1) + 1))) := ⟨_, rfl⟩
  have J1 : ∀ p1 : WI, p1 = X1 → Wp l 83 (d + 0) 0 0 (po_I_I F L t T1) 0 0 32 [(0, .ref 31)] [] SH (p1, F, L, RT t) := by
    intro p1 hr
    have hr := hr.trans hX1
    have he := bx_eq hr he
    exact bk_83_32 (rl_I_I he)
  have he := hX1.symm
  have hg := hgX
  refine bk_83_0 (fun h1 => ?_) (fun h1 => ?_)
  · have he := ite_p h1 he
    exact J1 I he
  · have he := ite_n h1 he
    have hg := hg h1
    have k2 := hg
    refine bk_83_12 k2 ?_
    exact J1 (up2 (up2 I 32 (I 31 1).toNatClampNeg x1) 31 1 ((I 31 1) + 1)) he
/-- VectorShelf$TextReader.letterAt(I)I -/
def v_86 (I : WI) (x1 : Int32) : Int32 := (if x1 < 0 then (-1) else (if (I 31 1) ≤ x1 then (-1) else (if 160 ≤ x1 then (-1) else (I 32 x1.toNatClampNeg))))
def g_86 (I : WI) (x1 : Int32) : Prop := (¬ (x1 < 0) → (¬ ((I 31 1) ≤ x1) → (¬ (160 ≤ x1) → (vp_in x1 160))))
theorem cc_86 {l : LX} {d : Nat} {I : WI} {F : WF} {L : WL} {t : Nat} {x1 : Int32} (hg : g_86 I x1) : Con l 86 (d + 0) 0 0 [.ref 31, .int x1] SH (I, F, L, RT t) (rI (v_86 I x1) (I, F, L, RT t)) := by
  refine cn_86 ?_
  obtain ⟨T1, hT1⟩ : ∃ r : Int32, r = (v_86 I x1) := ⟨_, rfl⟩
  rw [← hT1]
  have he := (hT1.trans (v_86.eq_1 ..)).symm
  have hg := Eq.mp (g_86.eq_1 ..) hg
  refine bk_86_0 (fun h1 => ?_) (fun h1 => ?_)
  · have he := ite_p h1 he
    refine bk_86_30 ?_
    exact bk_86_31 (rl_p_I he)
  · have he := ite_n h1 he
    have hg := hg h1
    refine bk_86_4 (fun h2 => ?_) (fun h2 => ?_)
    · have he := ite_p h2 he
      refine bk_86_30 ?_
      exact bk_86_31 (rl_p_I he)
    · have he := ite_n h2 he
      have hg := hg h2
      refine bk_86_12 (fun h3 => ?_) (fun h3 => ?_)
      · have he := ite_p h3 he
        refine bk_86_30 ?_
        exact bk_86_31 (rl_p_I he)
      · have he := ite_n h3 he
        have hg := hg h3
        have k4 := hg
        refine bk_86_21 k4 ?_
        exact bk_86_31 (rl_p_I he)
/-- VectorShelf$TextReader.isBlank(I)Z -/
def v_87 (x0 : Int32) : Int32 := (if x0 = 32 then 1 else (if ¬ x0 = 10 then 0 else 1))
theorem cc_87 {l : LX} {d : Nat} {I : WI} {F : WF} {L : WL} {t : Nat} {x0 : Int32} : Con l 87 (d + 0) 0 0 [.int x0] SH (I, F, L, RT t) (rI (v_87 x0) (I, F, L, RT t)) := by
  refine cn_87 ?_
  obtain ⟨T1, hT1⟩ : ∃ r : Int32, r = (v_87 x0) := ⟨_, rfl⟩
  rw [← hT1]
  have he := (hT1.trans (v_87.eq_1 ..)).symm
  refine bk_87_0 (fun h1 => ?_) (fun h1 => ?_)
  · have he := ite_p h1 he
    refine bk_87_12 ?_
    exact bk_87_17 (by decide) (rl_p_I he)
  · have he := ite_n h1 he
    refine bk_87_6 (fun h2 => ?_) (fun h2 => ?_)
    · have he := ite_p h2 he
      refine bk_87_16 ?_
      exact bk_87_17 (by decide) (rl_p_I he)
    · have he := ite_n h2 he
      refine bk_87_12 ?_
      exact bk_87_17 (by decide) (rl_p_I he)
theorem sb_87 (x0 : Int32) : (v_87 x0) &&& 1 = (v_87 x0) := by
  unfold v_87
  repeat' split
  all_goals first | rfl
/-- VectorShelf$TextReader.isLetter(I)Z -/
def v_88 (x0 : Int32) : Int32 := (if x0 < 97 then 0 else (if 122 < x0 then 0 else 1))
theorem cc_88 {l : LX} {d : Nat} {I : WI} {F : WF} {L : WL} {t : Nat} {x0 : Int32} : Con l 88 (d + 0) 0 0 [.int x0] SH (I, F, L, RT t) (rI (v_88 x0) (I, F, L, RT t)) := by
  refine cn_88 ?_
  obtain ⟨T1, hT1⟩ : ∃ r : Int32, r = (v_88 x0) := ⟨_, rfl⟩
  rw [← hT1]
  have he := (hT1.trans (v_88.eq_1 ..)).symm
  refine bk_88_0 (fun h1 => ?_) (fun h1 => ?_)
  · have he := ite_p h1 he
    refine bk_88_16 ?_
    exact bk_88_17 (by decide) (rl_p_I he)
  · have he := ite_n h1 he
    refine bk_88_6 (fun h2 => ?_) (fun h2 => ?_)
    · have he := ite_p h2 he
      refine bk_88_16 ?_
      exact bk_88_17 (by decide) (rl_p_I he)
    · have he := ite_n h2 he
      refine bk_88_12 ?_
      exact bk_88_17 (by decide) (rl_p_I he)
theorem sb_88 (x0 : Int32) : (v_88 x0) &&& 1 = (v_88 x0) := by
  unfold v_88
  repeat' split
  all_goals first | rfl
/-- VectorShelf$TextReader.nameSpelt()I -/
def v_90 (I : WI) : Int32 := (if (v_91 I 1000001) = 0 then (if (v_91 I 1000002) = 0 then (if (v_91 I 1000003) = 0 then (if (v_91 I 1000004) = 0 then (if (v_91 I 1000005) = 0 then (if (v_91 I 1000006) = 0 then 0 else (-3)) else (-2)) else (-1)) else (-6)) else (-5)) else (-4))
def g_90 (I : WI) : Prop := ((g_91 I) ∧ (((v_91 I 1000001) = 0) → ((g_91 I) ∧ (((v_91 I 1000002) = 0) → ((g_91 I) ∧ (((v_91 I 1000003) = 0) → ((g_91 I) ∧ (((v_91 I 1000004) = 0) → ((g_91 I) ∧ (((v_91 I 1000005) = 0) → (g_91 I)))))))))))
theorem cc_90 {l : LX} {d : Nat} {I : WI} {F : WF} {L : WL} {t : Nat} (hg : g_90 I) : Con l 90 (d + 9) 0 0 [.ref 31] SH (I, F, L, RT t) (rI (v_90 I) (I, F, L, RT t)) := by
  refine cn_90 ?_
  obtain ⟨T1, hT1⟩ : ∃ r : Int32, r = (v_90 I) := ⟨_, rfl⟩
  rw [← hT1]
  have he := (hT1.trans (v_90.eq_1 ..)).symm
  have hg := Eq.mp (g_90.eq_1 ..) hg
  refine bk_90_0 ?_
  obtain ⟨k1, hg⟩ := hg
  refine bk_90_3 (cc_91 (d := d + 0)  k1) ?_
  refine bk_90_6 (fun h2 => ?_) (fun h2 => ?_)
  · have he := ite_p h2 he
    have hg := hg h2
    refine bk_90_12 ?_
    obtain ⟨k3, hg⟩ := hg
    refine bk_90_15 (cc_91 (d := d + 0)  k3) ?_
    refine bk_90_18 (fun h4 => ?_) (fun h4 => ?_)
    · have he := ite_p h4 he
      have hg := hg h4
      refine bk_90_24 ?_
      obtain ⟨k5, hg⟩ := hg
      refine bk_90_27 (cc_91 (d := d + 0)  k5) ?_
      refine bk_90_30 (fun h6 => ?_) (fun h6 => ?_)
      · have he := ite_p h6 he
        have hg := hg h6
        refine bk_90_36 ?_
        obtain ⟨k7, hg⟩ := hg
        refine bk_90_39 (cc_91 (d := d + 0)  k7) ?_
        refine bk_90_42 (fun h8 => ?_) (fun h8 => ?_)
        · have he := ite_p h8 he
          have hg := hg h8
          refine bk_90_47 ?_
          obtain ⟨k9, hg⟩ := hg
          refine bk_90_50 (cc_91 (d := d + 0)  k9) ?_
          refine bk_90_53 (fun h10 => ?_) (fun h10 => ?_)
          · have he := ite_p h10 he
            have hg := hg h10
            refine bk_90_59 ?_
            have k11 := hg
            refine bk_90_62 (cc_91 (d := d + 0)  k11) ?_
            refine bk_90_65 (fun h12 => ?_) (fun h12 => ?_)
            · have he := ite_p h12 he
              refine bk_90_73 ?_
              exact bk_90_74 (rl_p_I he)
            · have he := ite_n h12 he
              refine bk_90_68 ?_
              exact bk_90_74 (rl_p_I he)
          · have he := ite_n h10 he
            exact bk_90_56 (rl_p_I he)
        · have he := ite_n h8 he
          exact bk_90_45 (rl_p_I he)
      · have he := ite_n h6 he
        exact bk_90_33 (rl_p_I he)
    · have he := ite_n h4 he
      exact bk_90_21 (rl_p_I he)
  · have he := ite_n h2 he
    exact bk_90_9 (rl_p_I he)
/-- VectorShelf$TextReader.keySpelt()I -/
def v_92 (I : WI) : Int32 := (if (v_91 I 1000007) = 0 then (if (v_91 I 1000008) = 0 then (if (v_91 I 1000009) = 0 then (if (v_91 I 1000010) = 0 then (if (v_91 I 1000011) = 0 then 257 else 264) else 263) else 262) else 261) else 260)
def g_92 (I : WI) : Prop := ((g_91 I) ∧ (((v_91 I 1000007) = 0) → ((g_91 I) ∧ (((v_91 I 1000008) = 0) → ((g_91 I) ∧ (((v_91 I 1000009) = 0) → ((g_91 I) ∧ (((v_91 I 1000010) = 0) → (g_91 I)))))))))
theorem cc_92 {l : LX} {d : Nat} {I : WI} {F : WF} {L : WL} {t : Nat} (hg : g_92 I) : Con l 92 (d + 9) 0 0 [.ref 31] SH (I, F, L, RT t) (rI (v_92 I) (I, F, L, RT t)) := by
  refine cn_92 ?_
  obtain ⟨T1, hT1⟩ : ∃ r : Int32, r = (v_92 I) := ⟨_, rfl⟩
  rw [← hT1]
  have he := (hT1.trans (v_92.eq_1 ..)).symm
  have hg := Eq.mp (g_92.eq_1 ..) hg
  refine bk_92_0 ?_
  obtain ⟨k1, hg⟩ := hg
  refine bk_92_3 (cc_91 (d := d + 0)  k1) ?_
  refine bk_92_6 (fun h2 => ?_) (fun h2 => ?_)
  · have he := ite_p h2 he
    have hg := hg h2
    refine bk_92_13 ?_
    obtain ⟨k3, hg⟩ := hg
    refine bk_92_16 (cc_91 (d := d + 0)  k3) ?_
    refine bk_92_19 (fun h4 => ?_) (fun h4 => ?_)
    · have he := ite_p h4 he
      have hg := hg h4
      refine bk_92_26 ?_
      obtain ⟨k5, hg⟩ := hg
      refine bk_92_29 (cc_91 (d := d + 0)  k5) ?_
      refine bk_92_32 (fun h6 => ?_) (fun h6 => ?_)
      · have he := ite_p h6 he
        have hg := hg h6
        refine bk_92_39 ?_
        obtain ⟨k7, hg⟩ := hg
        refine bk_92_42 (cc_91 (d := d + 0)  k7) ?_
        refine bk_92_45 (fun h8 => ?_) (fun h8 => ?_)
        · have he := ite_p h8 he
          have hg := hg h8
          refine bk_92_52 ?_
          have k9 := hg
          refine bk_92_55 (cc_91 (d := d + 0)  k9) ?_
          refine bk_92_58 (fun h10 => ?_) (fun h10 => ?_)
          · have he := ite_p h10 he
            refine bk_92_67 ?_
            exact bk_92_70 (rl_p_I he)
          · have he := ite_n h10 he
            refine bk_92_61 ?_
            exact bk_92_70 (rl_p_I he)
        · have he := ite_n h8 he
          exact bk_92_48 (rl_p_I he)
      · have he := ite_n h6 he
        exact bk_92_35 (rl_p_I he)
    · have he := ite_n h4 he
      exact bk_92_22 (rl_p_I he)
  · have he := ite_n h2 he
    exact bk_92_9 (rl_p_I he)
/-- VectorShelf$TextReader.isDigit(I)Z -/
def v_93 (x0 : Int32) : Int32 := (if x0 < 48 then 0 else (if 57 < x0 then 0 else 1))
theorem cc_93 {l : LX} {d : Nat} {I : WI} {F : WF} {L : WL} {t : Nat} {x0 : Int32} : Con l 93 (d + 0) 0 0 [.int x0] SH (I, F, L, RT t) (rI (v_93 x0) (I, F, L, RT t)) := by
  refine cn_93 ?_
  obtain ⟨T1, hT1⟩ : ∃ r : Int32, r = (v_93 x0) := ⟨_, rfl⟩
  rw [← hT1]
  have he := (hT1.trans (v_93.eq_1 ..)).symm
  refine bk_93_0 (fun h1 => ?_) (fun h1 => ?_)
  · have he := ite_p h1 he
    refine bk_93_16 ?_
    exact bk_93_17 (by decide) (rl_p_I he)
  · have he := ite_n h1 he
    refine bk_93_6 (fun h2 => ?_) (fun h2 => ?_)
    · have he := ite_p h2 he
      refine bk_93_16 ?_
      exact bk_93_17 (by decide) (rl_p_I he)
    · have he := ite_n h2 he
      refine bk_93_12 ?_
      exact bk_93_17 (by decide) (rl_p_I he)
theorem sb_93 (x0 : Int32) : (v_93 x0) &&& 1 = (v_93 x0) := by
  unfold v_93
  repeat' split
  all_goals first | rfl
/-- the loop at 5 of VectorShelf$TextReader.takeNumber -/
def lp_94_5 : Nat → WI → WI
  | 0, I => I
  | k + 1, I => (if (I 31 1) ≤ (I 31 3) then I else (if (v_93 (v_86 I (I 31 3))) = 0 then I else (bx ((if 4 ≤ ((I 31 3) - (I 31 2)) then (I 31 5) else (((10 * (I 31 5)) + (v_86 I (I 31 3))) - 48)) : Int32) (fun p1 => (lp_94_5 k (up2 (up2 I 31 5 p1) 31 3 ((I 31 3) + 1)))))))
def gl_94_5 : Nat → WI → Prop
  | 0, _ => False
  | k + 1, I => (¬ ((I 31 1) ≤ (I 31 3)) → ((g_86 I (I 31 3)) ∧ (¬ ((v_93 (v_86 I (I 31 3))) = 0) → ((¬ (4 ≤ ((I 31 3) - (I 31 2))) → (g_86 I (I 31 3))) ∧ (bx ((if 4 ≤ ((I 31 3) - (I 31 2)) then (I 31 5) else (((10 * (I 31 5)) + (v_86 I (I 31 3))) - 48)) : Int32) (fun p1 => (gl_94_5 k (up2 (up2 I 31 5 p1) 31 3 ((I 31 3) + 1)))))))))
theorem lw_94_5 {l : LX} {d : Nat} {P : RP} {F : WF} {L : WL} {t : Nat} : ∀ k : Nat, ∀ (I : WI), gl_94_5 k I → (∀ r : WI, r = lp_94_5 k I → Wp l 94 (d + 1) 0 0 P 0 0 86 [(0, .ref 31)] [] SH (r, F, L, RT t)) → Wp l 94 (d + 1) 0 0 P 0 0 5 [(0, .ref 31)] [] SH (I, F, L, RT t) := by
  intro k
  induction k with
  | zero =>
    intro I hg hx
    exact hg.elim
  | succ k ih =>
    intro I hg hx
    have hg := Eq.mp (gl_94_5.eq_2 ..) hg
    obtain ⟨T1, hT1⟩ : ∃ r : WI, r = lp_94_5 (k + 1) I := ⟨_, rfl⟩
    have hx : ∀ r : WI, r = T1 → Wp l 94 (d + 1) 0 0 P 0 0 86 [(0, .ref 31)] [] SH (r, F, L, RT t) := fun r hr => hx r (hr.trans hT1)
    have he := (hT1.trans (lp_94_5.eq_2 ..)).symm
    refine bk_94_5 (fun h1 => ?_) (fun h1 => ?_)
    · have he := ite_p h1 he
      exact hx I he
    · have he := ite_n h1 he
      have hg := hg h1
      obtain ⟨k2, hg⟩ := hg
      refine bk_94_16 (cc_86 (d := d + 0)  k2) ?_
      refine bk_94_24 (cc_93 (d := d + 0) ) ?_
      refine bk_94_27 (fun h4 => ?_) (fun h4 => ?_)
      · have he := ite_p h4 he
        exact hx I he
      · have he := ite_n h4 he
        have hg := hg h4
        obtain ⟨hgX, hg⟩ := hg
        obtain ⟨X1, hX1⟩ : ∃ r : Int32, r = (if 4 ≤ ((I 31 3) - (I 31 2)) then (I 31 5) else (((10 * (I 31 5)) + (v_86 I (I 31 3))) - 48)) := ⟨_, rfl⟩
        have J1 : ∀ p1 : Int32, p1 = X1 → Wp l 94 (d + 1) 0 0 P 0 0 70 [(0, .ref 31)] [.int p1, .ref 31] SH (I, F, L, RT t) := by
          intro p1 hr
          have hr := hr.trans hX1
          have he := bx_eq hr he
          have hg := bx_un hr hg
          refine bk_94_70 ?_
          exact ih (up2 (up2 I 31 5 p1) 31 3 ((I 31 3) + 1)) hg (fun r hr => hx r (hr.trans he))
        have he := hX1.symm
        have hg := hgX
        refine bk_94_30 (fun h5 => ?_) (fun h5 => ?_)
        · have he := ite_p h5 he
          refine bk_94_66 ?_
          exact J1 (I 31 5) he
        · have he := ite_n h5 he
          have hg := hg h5
          have k6 := hg
          refine bk_94_44 (cc_86 (d := d + 0)  k6) ?_
          refine bk_94_59 ?_
          exact J1 (((10 * (I 31 5)) + (v_86 I (I 31 3))) - 48) he
/-- VectorShelf$TextReader.takeNumber()V -/
def v_94 (I : WI) : WI := (bx ((lp_94_5 400 (up2 I 31 5 0)) : WI) (fun p2 => (bx ((if ((p2 31 3) - (p2 31 2)) ≤ 4 then 258 else 257) : Int32) (fun p3 => (up2 p2 31 4 p3)))))
def g_94 (I : WI) : Prop := (gl_94_5 400 (up2 I 31 5 0))
theorem cc_94 {l : LX} {d : Nat} {I : WI} {F : WF} {L : WL} {t : Nat} (hg : g_94 I) : Con l 94 (d + 1) 0 0 [.ref 31] SH (I, F, L, RT t) (po_V_I F L t (v_94 I)) := by
  refine cn_94 ?_
  obtain ⟨T1, hT1⟩ : ∃ r : WI, r = (v_94 I) := ⟨_, rfl⟩
  rw [← hT1]
  have he := (hT1.trans (v_94.eq_1 ..)).symm
  have hg := Eq.mp (g_94.eq_1 ..) hg
  refine bk_94_0 ?_
  have hgX := hg
  refine lw_94_5 (d := d)  400 (up2 I 31 5 0) hgX (fun p2 hr => ?_)
  have he := bx_eq hr he
  obtain ⟨X2, hX2⟩ : ∃ r : Int32, r = (if ((p2 31 3) - (p2 31 2)) ≤ 4 then 258 else 257) := ⟨_, rfl⟩
  have J2 : ∀ p3 : Int32, p3 = X2 → Wp l 94 (d + 1) 0 0 (po_V_I F L t T1) 0 0 109 [] [.int p3, .ref 31] SH (p2, F, L, RT t) := by
    intro p3 hr
    have hr := hr.trans hX2
    have he := bx_eq hr he
    exact bk_94_109 (rl_V_I he)
  have he := hX2.symm
  refine bk_94_86 (fun h7 => ?_) (fun h7 => ?_)
  · have he := ite_p h7 he
    refine bk_94_106 ?_
    exact J2 258 he
  · have he := ite_n h7 he
    refine bk_94_100 ?_
    exact J2 257 he
end
