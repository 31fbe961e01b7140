section
/-- VectorShelfModel.mostOf(I)I -/
def v_171 (x1 : Int32) : Int32 := (if ¬ x1 = 0 then (if ¬ x1 = 1 then (if ¬ x1 = 2 then (if ¬ x1 = 3 then 9 else 5) else 999999) else 99) else 64)
theorem cc_171 {l : LX} {d : Nat} {I : WI} {F : WF} {L : WL} {t : Nat} {x1 : Int32} : Con l 171 (d + 0) 0 0 [.ref 74, .int x1] SH (I, F, L, RT t) (rI (v_171 x1) (I, F, L, RT t)) := by
  refine cn_171 ?_
  obtain ⟨T1, hT1⟩ : ∃ r : Int32, r = (v_171 x1) := ⟨_, rfl⟩
  rw [← hT1]
  have he := (hT1.trans (v_171.eq_1 ..)).symm
  refine bk_171_0 (fun h1 => ?_) (fun h1 => ?_)
  · have he := ite_p h1 he
    refine bk_171_9 (fun h2 => ?_) (fun h2 => ?_)
    · have he := ite_p h2 he
      refine bk_171_19 (fun h3 => ?_) (fun h3 => ?_)
      · have he := ite_p h3 he
        refine bk_171_29 (fun h4 => ?_) (fun h4 => ?_)
        · have he := ite_p h4 he
          refine bk_171_38 ?_
          exact bk_171_40 (rl_p_I he)
        · have he := ite_n h4 he
          refine bk_171_34 ?_
          exact bk_171_40 (rl_p_I he)
      · have he := ite_n h3 he
        refine bk_171_24 ?_
        exact bk_171_40 (rl_p_I he)
    · have he := ite_n h2 he
      refine bk_171_14 ?_
      exact bk_171_40 (rl_p_I he)
  · have he := ite_n h1 he
    refine bk_171_4 ?_
    exact bk_171_40 (rl_p_I he)
/-- VectorShelfModel.isPlace(III)Z -/
def v_173 (x0 : Int32) (x1 : Int32) (x2 : Int32) : Int32 := (if (v_170 (Int32.toInt64 x0) ((-999) : Int64) (999 : Int64)) = 0 then 0 else (if (v_170 (Int32.toInt64 x1) ((-999) : Int64) (999 : Int64)) = 0 then 0 else (if (v_170 (Int32.toInt64 x2) ((-999) : Int64) (999 : Int64)) = 0 then 0 else 1)))
theorem cc_173 {l : LX} {d : Nat} {I : WI} {F : WF} {L : WL} {t : Nat} {x0 : Int32} {x1 : Int32} {x2 : Int32} : Con l 173 (d + 1) 0 0 [.int x0, .int x1, .int x2] SH (I, F, L, RT t) (rI (v_173 x0 x1 x2) (I, F, L, RT t)) := by
  refine cn_173 ?_
  obtain ⟨T1, hT1⟩ : ∃ r : Int32, r = (v_173 x0 x1 x2) := ⟨_, rfl⟩
  rw [← hT1]
  have he := (hT1.trans (v_173.eq_1 ..)).symm
  refine bk_173_0 (cc_170 (d := d + 0) ) ?_
  refine bk_173_11 (fun h2 => ?_) (fun h2 => ?_)
  · have he := ite_p h2 he
    refine bk_173_46 ?_
    exact bk_173_47 (by decide) (rl_p_I he)
  · have he := ite_n h2 he
    refine bk_173_14 (cc_170 (d := d + 0) ) ?_
    refine bk_173_25 (fun h4 => ?_) (fun h4 => ?_)
    · have he := ite_p h4 he
      refine bk_173_46 ?_
      exact bk_173_47 (by decide) (rl_p_I he)
    · have he := ite_n h4 he
      refine bk_173_28 (cc_170 (d := d + 0) ) ?_
      refine bk_173_39 (fun h6 => ?_) (fun h6 => ?_)
      · have he := ite_p h6 he
        refine bk_173_46 ?_
        exact bk_173_47 (by decide) (rl_p_I he)
      · have he := ite_n h6 he
        refine bk_173_42 ?_
        exact bk_173_47 (by decide) (rl_p_I he)
theorem sb_173 (x0 : Int32) (x1 : Int32) (x2 : Int32) : (v_173 x0 x1 x2) &&& 1 = (v_173 x0 x1 x2) := by
  unfold v_173
  repeat' split
  all_goals first | rfl | exact sb_170 ..
/-- the loop at 22 of VectorShelfModel.nearestCell -/
def lp_176_22 (I : WI) (x1 : Int32) (x4 : Int32) (a5 : Int32) : Nat → Int32
  | 0 => a5
  | k + 1 => bx (lp_176_22 I x1 x4 a5 k) (fun p2 => (p2 + (((I 84 ((3 * x1) + (nI k)).toNatClampNeg) - (I 80 ((3 * x4) + (nI k)).toNatClampNeg)) * ((I 84 ((3 * x1) + (nI k)).toNatClampNeg) - (I 80 ((3 * x4) + (nI k)).toNatClampNeg)))))
def gl_176_22 (I : WI) (x1 : Int32) (x4 : Int32) (a5 : Int32) (N : Nat) : Prop := (∀ k, k < N → bx (lp_176_22 I x1 x4 a5 k) (fun p2 => ((vp_in ((3 * x1) + (nI k)) 36) ∧ (vp_in ((3 * x4) + (nI k)) 12))))
theorem lw_176_22 {l : LX} {d : Nat} {P : RP} {I : WI} {F : WF} {L : WL} {t : Nat} {x1 : Int32} {x2 : Int32} {x3 : Int32} {x4 : Int32} {a5 : Int32} (hgl : gl_176_22 I x1 x4 a5 ((3 : Int32).toNatClampNeg)) (hx : ∀ p2 : Int32, p2 = lp_176_22 I x1 x4 a5 ((3 : Int32).toNatClampNeg) → Wp l 176 (d + 0) 0 0 P 0 0 70 [(0, .ref 74), (1, .int x1), (2, .int x2), (3, .int x3), (4, .int x4), (5, .int p2)] [] SH (I, F, L, RT t)) : Wp l 176 (d + 0) 0 0 P 0 0 22 [(0, .ref 74), (1, .int x1), (2, .int x2), (3, .int x3), (4, .int x4), (5, .int a5), (6, .int 0)] [] SH (I, F, L, RT t) := by
  have hin := hgl
  have loop : ∀ m k, k + m = (3 : Int32).toNatClampNeg → ∀ p2 : Int32, p2 = lp_176_22 I x1 x4 a5 k → Wp l 176 (d + 0) 0 0 P 0 0 22 [(0, .ref 74), (1, .int x1), (2, .int x2), (3, .int x3), (4, .int x4), (5, .int p2), (6, .int (nI k))] [] SH (I, F, L, RT t) := by
    intro m
    induction m with
    | zero =>
      intro k hk p2 hs
      obtain rfl : k = (3 : Int32).toNatClampNeg := by omega
      exact bk_176_22  (fun _ => hx _ hs) (fun h => absurd ((le_cl (Nat.le_refl _)).mpr rfl) h)
    | succ m ih =>
      intro k hk p2 hs
      have hk2 : k < (3 : Int32).toNatClampNeg := by omega
      have ih := ih (k + 1) (by omega)
      rw [nI_succ] at ih
      have he := bx_eq hs (lp_176_22.eq_2 ..).symm
      have hg := bx_un hs (hin k hk2)
      refine bk_176_22  (fun h => absurd ((le_cl (E := 3) (i := k) (by omega)).mp h) (by omega)) (fun _ => ?_)
      obtain ⟨k1, k2⟩ := hg
      refine bk_176_28 k1 k2 ?_
      exact ih (p2 + (((I 84 ((3 * x1) + (nI k)).toNatClampNeg) - (I 80 ((3 * x4) + (nI k)).toNatClampNeg)) * ((I 84 ((3 * x1) + (nI k)).toNatClampNeg) - (I 80 ((3 * x4) + (nI k)).toNatClampNeg)))) he
  exact loop _ 0 (Nat.zero_add _) _ rfl
/-- the loop at 7 of VectorShelfModel.nearestCell -/
def lp_176_7 (I : WI) (x1 : Int32) (a2 : Int32) (a3 : Int32) : Nat → Int32 × Int32
  | 0 => (a2, a3)
  | k + 1 => bx (lp_176_7 I x1 a2 a3 k) (fun p1 => (bx ((lp_176_22 I x1 (nI k) (0 : Int32) ((3 : Int32).toNatClampNeg)) : Int32) (fun p3 => (bx ((if p1.1 = (-1) then ((nI k), p3) else (if p1.2 ≤ p3 then (p1.1, p1.2) else ((nI k), p3))) : Int32 × Int32) (fun p4 => (p4.1, p4.2))))))
def gl_176_7 (I : WI) (x1 : Int32) (a2 : Int32) (a3 : Int32) (N : Nat) : Prop := (∀ k, k < N → bx (lp_176_7 I x1 a2 a3 k) (fun p1 => (gl_176_22 I x1 (nI k) (0 : Int32) ((3 : Int32).toNatClampNeg))))
theorem lw_176_7 {l : LX} {d : Nat} {P : RP} {I : WI} {F : WF} {L : WL} {t : Nat} {x1 : Int32} {a2 : Int32} {a3 : Int32} (hgl : gl_176_7 I x1 a2 a3 ((I 74 13).toNatClampNeg)) (hx : ∀ p1 : Int32 × Int32, p1 = lp_176_7 I x1 a2 a3 ((I 74 13).toNatClampNeg) → Wp l 176 (d + 0) 0 0 P 0 0 93 [(2, .int p1.1)] [] SH (I, F, L, RT t)) : Wp l 176 (d + 0) 0 0 P 0 0 7 [(0, .ref 74), (1, .int x1), (2, .int a2), (3, .int a3), (4, .int 0)] [] SH (I, F, L, RT t) := by
  have hin := hgl
  have loop : ∀ m k, k + m = (I 74 13).toNatClampNeg → ∀ p1 : Int32 × Int32, p1 = lp_176_7 I x1 a2 a3 k → Wp l 176 (d + 0) 0 0 P 0 0 7 [(0, .ref 74), (1, .int x1), (2, .int p1.1), (3, .int p1.2), (4, .int (nI k))] [] SH (I, F, L, RT t) := by
    intro m
    induction m with
    | zero =>
      intro k hk p1 hs
      obtain rfl : k = (I 74 13).toNatClampNeg := by omega
      exact bk_176_7  (fun _ => hx _ hs) (fun h => absurd ((le_cl (Nat.le_refl _)).mpr rfl) h)
    | succ m ih =>
      intro k hk p1 hs
      have hk2 : k < (I 74 13).toNatClampNeg := by omega
      have ih := ih (k + 1) (by omega)
      rw [nI_succ] at ih
      have he := bx_eq hs (lp_176_7.eq_2 ..).symm
      have hg := bx_un hs (hin k hk2)
      refine bk_176_7  (fun h => absurd ((le_cl (E := (I 74 13)) (i := k) (by omega)).mp h) (by omega)) (fun _ => ?_)
      refine bk_176_16 ?_
      have hgX := hg
      refine lw_176_22 (d := d)  hgX (fun p3 hr => ?_)
      have he := bx_eq hr he
      obtain ⟨X1, hX1⟩ : ∃ r : Int32 × Int32, r = (if p1.1 = (-1) then ((nI k), p3) else (if p1.2 ≤ p3 then (p1.1, p1.2) else ((nI k), p3))) := ⟨_, rfl⟩
      have J1 : ∀ p4 : Int32 × Int32, p4 = X1 → Wp l 176 (d + 0) 0 0 P 0 0 87 [(0, .ref 74), (1, .int x1), (2, .int p4.1), (3, .int p4.2), (4, .int (nI k))] [] SH (I, F, L, RT t) := by
        intro p4 hr
        have hr := hr.trans hX1
        have he := bx_eq hr he
        refine bk_176_87 ?_
        exact ih (p4.1, p4.2) he
      have he := hX1.symm
      refine bk_176_70 (fun h3 => ?_) (fun h3 => ?_)
      · have he := ite_p h3 he
        refine bk_176_81 ?_
        exact J1 ((nI k), p3) he
      · have he := ite_n h3 he
        refine bk_176_75 (fun h4 => ?_) (fun h4 => ?_)
        · have he := ite_p h4 he
          exact J1 (p1.1, p1.2) he
        · have he := ite_n h4 he
          refine bk_176_81 ?_
          exact J1 ((nI k), p3) he
  exact loop _ 0 (Nat.zero_add _) _ rfl
/-- VectorShelfModel.nearestCell(I)I -/
def v_176 (I : WI) (x1 : Int32) : Int32 := (bx ((lp_176_7 I x1 ((-1) : Int32) (0 : Int32) ((I 74 13).toNatClampNeg)) : Int32 × Int32) (fun p5 => p5.1))
def g_176 (I : WI) (x1 : Int32) : Prop := (gl_176_7 I x1 ((-1) : Int32) (0 : Int32) ((I 74 13).toNatClampNeg))
theorem cc_176 {l : LX} {d : Nat} {I : WI} {F : WF} {L : WL} {t : Nat} {x1 : Int32} (hg : g_176 I x1) : Con l 176 (d + 0) 0 0 [.ref 74, .int x1] SH (I, F, L, RT t) (rI (v_176 I x1) (I, F, L, RT t)) := by
  refine cn_176 ?_
  obtain ⟨T1, hT1⟩ : ∃ r : Int32, r = (v_176 I x1) := ⟨_, rfl⟩
  rw [← hT1]
  have he := (hT1.trans (v_176.eq_1 ..)).symm
  have hg := Eq.mp (g_176.eq_1 ..) hg
  refine bk_176_0 ?_
  have hgX := hg
  refine lw_176_7 (d := d)  hgX (fun p5 hr => ?_)
  have he := bx_eq hr he
  exact bk_176_93 (rl_p_I he)
/-- the loop at 9 of VectorShelfModel.comesInto -/
def lp_177_9 (I : WI) (x1 : Int32) (x2 : Int32) : Nat → WI
  | 0 => I
  | k + 1 => bx (lp_177_9 I x1 x2 k) (fun p1 => (bx ((if (p1 83 x2.toNatClampNeg) = 0 then (p1 84 ((3 * x1) + (nI k)).toNatClampNeg) else (if (p1 84 ((3 * x1) + (nI k)).toNatClampNeg) ≤ (p1 81 ((3 * x2) + (nI k)).toNatClampNeg) then (p1 84 ((3 * x1) + (nI k)).toNatClampNeg) else (p1 81 ((3 * x2) + (nI k)).toNatClampNeg))) : Int32) (fun p2 => (bx ((if (p1 83 x2.toNatClampNeg) = 0 then (p1 84 ((3 * x1) + (nI k)).toNatClampNeg) else (if ((up2 p1 81 ((3 * x2) + (nI k)).toNatClampNeg p2) 82 ((3 * x2) + (nI k)).toNatClampNeg) ≤ (p1 84 ((3 * x1) + (nI k)).toNatClampNeg) then (p1 84 ((3 * x1) + (nI k)).toNatClampNeg) else ((up2 p1 81 ((3 * x2) + (nI k)).toNatClampNeg p2) 82 ((3 * x2) + (nI k)).toNatClampNeg))) : Int32) (fun p3 => (up2 (up2 p1 81 ((3 * x2) + (nI k)).toNatClampNeg p2) 82 ((3 * x2) + (nI k)).toNatClampNeg p3))))))
def gl_177_9 (I : WI) (x1 : Int32) (x2 : Int32) (N : Nat) : Prop := (∀ k, k < N → bx (lp_177_9 I x1 x2 k) (fun p1 => ((vp_in ((3 * x1) + (nI k)) 36) ∧ ((vp_in x2 4) ∧ ((¬ ((p1 83 x2.toNatClampNeg) = 0) → ((vp_in ((3 * x2) + (nI k)) 12) ∧ (¬ ((p1 84 ((3 * x1) + (nI k)).toNatClampNeg) ≤ (p1 81 ((3 * x2) + (nI k)).toNatClampNeg)) → (vp_in ((3 * x2) + (nI k)) 12)))) ∧ (bx ((if (p1 83 x2.toNatClampNeg) = 0 then (p1 84 ((3 * x1) + (nI k)).toNatClampNeg) else (if (p1 84 ((3 * x1) + (nI k)).toNatClampNeg) ≤ (p1 81 ((3 * x2) + (nI k)).toNatClampNeg) then (p1 84 ((3 * x1) + (nI k)).toNatClampNeg) else (p1 81 ((3 * x2) + (nI k)).toNatClampNeg))) : Int32) (fun p2 => ((vp_in ((3 * x2) + (nI k)) 12) ∧ ((vp_in x2 4) ∧ ((¬ ((p1 83 x2.toNatClampNeg) = 0) → ((vp_in ((3 * x2) + (nI k)) 12) ∧ (¬ (((up2 p1 81 ((3 * x2) + (nI k)).toNatClampNeg p2) 82 ((3 * x2) + (nI k)).toNatClampNeg) ≤ (p1 84 ((3 * x1) + (nI k)).toNatClampNeg)) → (vp_in ((3 * x2) + (nI k)) 12)))) ∧ (bx ((if (p1 83 x2.toNatClampNeg) = 0 then (p1 84 ((3 * x1) + (nI k)).toNatClampNeg) else (if ((up2 p1 81 ((3 * x2) + (nI k)).toNatClampNeg p2) 82 ((3 * x2) + (nI k)).toNatClampNeg) ≤ (p1 84 ((3 * x1) + (nI k)).toNatClampNeg) then (p1 84 ((3 * x1) + (nI k)).toNatClampNeg) else ((up2 p1 81 ((3 * x2) + (nI k)).toNatClampNeg p2) 82 ((3 * x2) + (nI k)).toNatClampNeg))) : Int32) (fun p3 => (vp_in ((3 * x2) + (nI k)) 12)))))))))))))
theorem lw_177_9 {l : LX} {d : Nat} {P : RP} {I : WI} {F : WF} {L : WL} {t : Nat} {x1 : Int32} {x2 : Int32} (hgl : gl_177_9 I x1 x2 ((3 : Int32).toNatClampNeg)) (hx : ∀ p1 : WI, p1 = lp_177_9 I x1 x2 ((3 : Int32).toNatClampNeg) → Wp l 177 (d + 0) 0 0 P 0 0 119 [(0, .ref 74), (2, .int x2)] [] SH (p1, F, L, RT t)) : Wp l 177 (d + 0) 0 0 P 0 0 9 [(0, .ref 74), (1, .int x1), (2, .int x2), (3, .int 0)] [] SH (I, F, L, RT t) := by
  have hin := hgl
  have loop : ∀ m k, k + m = (3 : Int32).toNatClampNeg → ∀ p1 : WI, p1 = lp_177_9 I x1 x2 k → Wp l 177 (d + 0) 0 0 P 0 0 9 [(0, .ref 74), (1, .int x1), (2, .int x2), (3, .int (nI k))] [] SH (p1, F, L, RT t) := by
    intro m
    induction m with
    | zero =>
      intro k hk p1 hs
      obtain rfl : k = (3 : Int32).toNatClampNeg := by omega
      exact bk_177_9  (fun _ => hx _ hs) (fun h => absurd ((le_cl (Nat.le_refl _)).mpr rfl) h)
    | succ m ih =>
      intro k hk p1 hs
      have hk2 : k < (3 : Int32).toNatClampNeg := by omega
      have ih := ih (k + 1) (by omega)
      rw [nI_succ] at ih
      have he := bx_eq hs (lp_177_9.eq_2 ..).symm
      have hg := bx_un hs (hin k hk2)
      refine bk_177_9  (fun h => absurd ((le_cl (E := 3) (i := k) (by omega)).mp h) (by omega)) (fun _ => ?_)
      obtain ⟨k2, k3, hg⟩ := hg
      obtain ⟨hgX, hg⟩ := hg
      obtain ⟨X1, hX1⟩ : ∃ r : Int32, r = (if (p1 83 x2.toNatClampNeg) = 0 then (p1 84 ((3 * x1) + (nI k)).toNatClampNeg) else (if (p1 84 ((3 * x1) + (nI k)).toNatClampNeg) ≤ (p1 81 ((3 * x2) + (nI k)).toNatClampNeg) then (p1 84 ((3 * x1) + (nI k)).toNatClampNeg) else (p1 81 ((3 * x2) + (nI k)).toNatClampNeg))) := ⟨_, rfl⟩
      have J1 : ∀ p2 : Int32, p2 = X1 → Wp l 177 (d + 0) 0 0 P 0 0 72 [(0, .ref 74), (1, .int x1), (2, .int x2), (3, .int (nI k)), (4, .int (p1 84 ((3 * x1) + (nI k)).toNatClampNeg)), (5, .int ((3 * x2) + (nI k)))] [.int p2, .int ((3 * x2) + (nI k)), .ref 81] SH (p1, F, L, RT t) := by
        intro p2 hr
        have hr := hr.trans hX1
        have he := bx_eq hr he
        have hg := bx_un hr hg
        obtain ⟨k8, k9, hg⟩ := hg
        obtain ⟨hgX, hg⟩ := hg
        obtain ⟨X2, hX2⟩ : ∃ r : Int32, r = (if (p1 83 x2.toNatClampNeg) = 0 then (p1 84 ((3 * x1) + (nI k)).toNatClampNeg) else (if ((up2 p1 81 ((3 * x2) + (nI k)).toNatClampNeg p2) 82 ((3 * x2) + (nI k)).toNatClampNeg) ≤ (p1 84 ((3 * x1) + (nI k)).toNatClampNeg) then (p1 84 ((3 * x1) + (nI k)).toNatClampNeg) else ((up2 p1 81 ((3 * x2) + (nI k)).toNatClampNeg p2) 82 ((3 * x2) + (nI k)).toNatClampNeg))) := ⟨_, rfl⟩
        have J2 : ∀ p3 : Int32, p3 = X2 → Wp l 177 (d + 0) 0 0 P 0 0 112 [(0, .ref 74), (1, .int x1), (2, .int x2), (3, .int (nI k))] [.int p3, .int ((3 * x2) + (nI k)), .ref 82] SH ((up2 p1 81 ((3 * x2) + (nI k)).toNatClampNeg p2), F, L, RT t) := by
          intro p3 hr
          have hr := hr.trans hX2
          have he := bx_eq hr he
          have hg := bx_un hr hg
          have k14 := hg
          refine bk_177_112 k14 ?_
          exact ih (up2 (up2 p1 81 ((3 * x2) + (nI k)).toNatClampNeg p2) 82 ((3 * x2) + (nI k)).toNatClampNeg p3) he
        have he := hX2.symm
        have hg := hgX
        refine bk_177_72 k8 k9 (fun h10 => ?_) (fun h10 => ?_)
        · have he := ite_p h10 he
          refine bk_177_110 ?_
          exact J2 (p1 84 ((3 * x1) + (nI k)).toNatClampNeg) he
        · have he := ite_n h10 he
          have hg := hg h10
          obtain ⟨k11, hg⟩ := hg
          refine bk_177_88 k11 (fun h12 => ?_) (fun h12 => ?_)
          · have he := ite_p h12 he
            refine bk_177_110 ?_
            exact J2 (p1 84 ((3 * x1) + (nI k)).toNatClampNeg) he
          · have he := ite_n h12 he
            have hg := hg h12
            have k13 := hg
            refine bk_177_100 k13 ?_
            exact J2 ((up2 p1 81 ((3 * x2) + (nI k)).toNatClampNeg p2) 82 ((3 * x2) + (nI k)).toNatClampNeg) he
      have he := hX1.symm
      have hg := hgX
      refine bk_177_14 k2 k3 (fun h4 => ?_) (fun h4 => ?_)
      · have he := ite_p h4 he
        refine bk_177_70 ?_
        exact J1 (p1 84 ((3 * x1) + (nI k)).toNatClampNeg) he
      · have he := ite_n h4 he
        have hg := hg h4
        obtain ⟨k5, hg⟩ := hg
        refine bk_177_48 k5 (fun h6 => ?_) (fun h6 => ?_)
        · have he := ite_p h6 he
          refine bk_177_70 ?_
          exact J1 (p1 84 ((3 * x1) + (nI k)).toNatClampNeg) he
        · have he := ite_n h6 he
          have hg := hg h6
          have k7 := hg
          refine bk_177_60 k7 ?_
          exact J1 (p1 81 ((3 * x2) + (nI k)).toNatClampNeg) he
  exact loop _ 0 (Nat.zero_add _) _ rfl
/-- VectorShelfModel.comesInto(II)V -/
def v_177 (I : WI) (x1 : Int32) (x2 : Int32) : WI := (bx ((lp_177_9 (up2 I 86 x1.toNatClampNeg x2) x1 x2 ((3 : Int32).toNatClampNeg)) : WI) (fun p4 => (up2 p4 83 x2.toNatClampNeg (vp_nar (bT 0) 1))))
def g_177 (I : WI) (x1 : Int32) (x2 : Int32) : Prop := ((vp_in x1 12) ∧ ((gl_177_9 (up2 I 86 x1.toNatClampNeg x2) x1 x2 ((3 : Int32).toNatClampNeg)) ∧ (bx ((lp_177_9 (up2 I 86 x1.toNatClampNeg x2) x1 x2 ((3 : Int32).toNatClampNeg)) : WI) (fun p4 => (vp_in x2 4)))))
theorem cc_177 {l : LX} {d : Nat} {I : WI} {F : WF} {L : WL} {t : Nat} {x1 : Int32} {x2 : Int32} (hg : g_177 I x1 x2) : Con l 177 (d + 0) 0 0 [.ref 74, .int x1, .int x2] SH (I, F, L, RT t) (po_V_I F L t (v_177 I x1 x2)) := by
  refine cn_177 ?_
  obtain ⟨T1, hT1⟩ : ∃ r : WI, r = (v_177 I x1 x2) := ⟨_, rfl⟩
  rw [← hT1]
  have he := (hT1.trans (v_177.eq_1 ..)).symm
  have hg := Eq.mp (g_177.eq_1 ..) hg
  obtain ⟨k1, hg⟩ := hg
  refine bk_177_0 k1 ?_
  obtain ⟨hgX, hg⟩ := hg
  refine lw_177_9 (d := d)  hgX (fun p4 hr => ?_)
  have he := bx_eq hr he
  have hg := bx_un hr hg
  have k15 := hg
  exact bk_177_119 k15 (rl_V_I he)
/-- VectorShelfModel.isOne(I)Z -/
def v_179 (I : WI) (x1 : Int32) : Int32 := (v_170 (Int32.toInt64 x1) (0 : Int64) (Int32.toInt64 ((I 74 18) - 1)))
theorem cc_179 {l : LX} {d : Nat} {I : WI} {F : WF} {L : WL} {t : Nat} {x1 : Int32} : Con l 179 (d + 1) 0 0 [.ref 74, .int x1] SH (I, F, L, RT t) (rI (v_179 I x1) (I, F, L, RT t)) := by
  refine cn_179 ?_
  obtain ⟨T1, hT1⟩ : ∃ r : Int32, r = (v_179 I x1) := ⟨_, rfl⟩
  rw [← hT1]
  have he := (hT1.trans (v_179.eq_1 ..)).symm
  refine bk_179_0 (cc_170 (d := d + 0) ) ?_
  exact bk_179_13 (sb_170 ..) (rl_p_I he)
theorem sb_179 (I : WI) (x1 : Int32) : (v_179 I x1) &&& 1 = (v_179 I x1) := by
  unfold v_179
  repeat' split
  all_goals first | rfl | exact sb_170 ..
/-- VectorShelfModel.isThere(I)Z -/
def v_180 (I : WI) (x1 : Int32) : Int32 := (if ¬ (I 87 x1.toNatClampNeg) = 0 then 0 else (if (I 86 x1.toNatClampNeg) = (-1) then 0 else 1))
def g_180 (I : WI) (x1 : Int32) : Prop := ((vp_in x1 12) ∧ (¬ (¬ (I 87 x1.toNatClampNeg) = 0) → (vp_in x1 12)))
theorem cc_180 {l : LX} {d : Nat} {I : WI} {F : WF} {L : WL} {t : Nat} {x1 : Int32} (hg : g_180 I x1) : Con l 180 (d + 0) 0 0 [.ref 74, .int x1] SH (I, F, L, RT t) (rI (v_180 I x1) (I, F, L, RT t)) := by
  refine cn_180 ?_
  obtain ⟨T1, hT1⟩ : ∃ r : Int32, r = (v_180 I x1) := ⟨_, rfl⟩
  rw [← hT1]
  have he := (hT1.trans (v_180.eq_1 ..)).symm
  have hg := Eq.mp (g_180.eq_1 ..) hg
  obtain ⟨k1, hg⟩ := hg
  refine bk_180_0 k1 (fun h2 => ?_) (fun h2 => ?_)
  · have he := ite_p h2 he
    refine bk_180_23 ?_
    exact bk_180_24 (by decide) (rl_p_I he)
  · have he := ite_n h2 he
    have hg := hg h2
    have k3 := hg
    refine bk_180_9 k3 (fun h4 => ?_) (fun h4 => ?_)
    · have he := ite_p h4 he
      refine bk_180_23 ?_
      exact bk_180_24 (by decide) (rl_p_I he)
    · have he := ite_n h4 he
      refine bk_180_19 ?_
      exact bk_180_24 (by decide) (rl_p_I he)
theorem sb_180 (I : WI) (x1 : Int32) : (v_180 I x1) &&& 1 = (v_180 I x1) := by
  unfold v_180
  repeat' split
  all_goals first | rfl
/-- VectorShelfModel.drop(II)I -/
def v_181 (I : WI) (x1 : Int32) (x2 : Int32) : Int32 × WI := (if (v_179 I x1) = 0 then ((-2), I) else (if ¬ (v_170 (Int32.toInt64 x2) (0 : Int64) (1 : Int64)) = 0 then (if ¬ (I 86 x1.toNatClampNeg) = (-1) then ((I 87 x1.toNatClampNeg), (up2 I 87 x1.toNatClampNeg x2)) else ((-3), I)) else ((-2), I)))
def g_181 (I : WI) (x1 : Int32) (x2 : Int32) : Prop := (¬ ((v_179 I x1) = 0) → ((¬ (v_170 (Int32.toInt64 x2) (0 : Int64) (1 : Int64)) = 0) → ((vp_in x1 12) ∧ ((¬ (I 86 x1.toNatClampNeg) = (-1)) → (vp_in x1 12)))))
theorem cc_181 {l : LX} {d : Nat} {I : WI} {F : WF} {L : WL} {t : Nat} {x1 : Int32} {x2 : Int32} (hg : g_181 I x1 x2) : Con l 181 (d + 2) 0 0 [.ref 74, .int x1, .int x2] SH (I, F, L, RT t) (po_I_I F L t (v_181 I x1 x2)) := by
  refine cn_181 ?_
  obtain ⟨T1, hT1⟩ : ∃ r : Int32 × WI, r = (v_181 I x1 x2) := ⟨_, rfl⟩
  rw [← hT1]
  have he := (hT1.trans (v_181.eq_1 ..)).symm
  have hg := Eq.mp (g_181.eq_1 ..) hg
  refine bk_181_0 (cc_179 (d := d + 0) ) ?_
  refine bk_181_5 (fun h2 => ?_) (fun h2 => ?_)
  · have he := ite_p h2 he
    exact bk_181_18 (rl_I_I he)
  · have he := ite_n h2 he
    have hg := hg h2
    refine bk_181_8 (cc_170 (d := d + 1) ) ?_
    refine bk_181_15 (fun h4 => ?_) (fun h4 => ?_)
    · have he := ite_p h4 he
      have hg := hg h4
      obtain ⟨k5, hg⟩ := hg
      refine bk_181_21 k5 (fun h6 => ?_) (fun h6 => ?_)
      · have he := ite_p h6 he
        have hg := hg h6
        have k7 := hg
        exact bk_181_34 k7 (rl_I_I he)
      · have he := ite_n h6 he
        exact bk_181_31 (rl_I_I he)
    · have he := ite_n h4 he
      exact bk_181_18 (rl_I_I he)
/-- VectorShelfModel.far(II)I -/
def v_184 (x0 : Int32) (x1 : Int32) : Int32 := (if x0 ≤ x1 then (x1 - x0) else (x0 - x1))
theorem cc_184 {l : LX} {d : Nat} {I : WI} {F : WF} {L : WL} {t : Nat} {x0 : Int32} {x1 : Int32} : Con l 184 (d + 0) 0 0 [.int x0, .int x1] SH (I, F, L, RT t) (rI (v_184 x0 x1) (I, F, L, RT t)) := by
  refine cn_184 ?_
  obtain ⟨T1, hT1⟩ : ∃ r : Int32, r = (v_184 x0 x1) := ⟨_, rfl⟩
  rw [← hT1]
  have he := (hT1.trans (v_184.eq_1 ..)).symm
  refine bk_184_0 (fun h1 => ?_) (fun h1 => ?_)
  · have he := ite_p h1 he
    refine bk_184_11 ?_
    exact bk_184_14 (rl_p_I he)
  · have he := ite_n h1 he
    refine bk_184_5 ?_
    exact bk_184_14 (rl_p_I he)
/-- VectorShelfModel.isSlack()Z -/
def v_187 (I : WI) : Int32 := (if (I 78 3) = 3 then 1 else (if ¬ (I 78 3) = 5 then 0 else 1))
theorem cc_187 {l : LX} {d : Nat} {I : WI} {F : WF} {L : WL} {t : Nat} : Con l 187 (d + 0) 0 0 [.ref 74] SH (I, F, L, RT t) (rI (v_187 I) (I, F, L, RT t)) := by
  refine cn_187 ?_
  obtain ⟨T1, hT1⟩ : ∃ r : Int32, r = (v_187 I) := ⟨_, rfl⟩
  rw [← hT1]
  have he := (hT1.trans (v_187.eq_1 ..)).symm
  refine bk_187_0 (fun h1 => ?_) (fun h1 => ?_)
  · have he := ite_p h1 he
    refine bk_187_20 ?_
    exact bk_187_25 (by decide) (rl_p_I he)
  · have he := ite_n h1 he
    refine bk_187_10 (fun h2 => ?_) (fun h2 => ?_)
    · have he := ite_p h2 he
      refine bk_187_24 ?_
      exact bk_187_25 (by decide) (rl_p_I he)
    · have he := ite_n h2 he
      refine bk_187_20 ?_
      exact bk_187_25 (by decide) (rl_p_I he)
theorem sb_187 (I : WI) : (v_187 I) &&& 1 = (v_187 I) := by
  unfold v_187
  repeat' split
  all_goals first | rfl
/-- VectorShelfModel.above(I)I -/
def v_188 (I : WI) (x1 : Int32) : Int32 := (if x1 ≤ (I 78 1) then 0 else (x1 - (I 78 1)))
theorem cc_188 {l : LX} {d : Nat} {I : WI} {F : WF} {L : WL} {t : Nat} {x1 : Int32} : Con l 188 (d + 0) 0 0 [.ref 74, .int x1] SH (I, F, L, RT t) (rI (v_188 I x1) (I, F, L, RT t)) := by
  refine cn_188 ?_
  obtain ⟨T1, hT1⟩ : ∃ r : Int32, r = (v_188 I x1) := ⟨_, rfl⟩
  rw [← hT1]
  have he := (hT1.trans (v_188.eq_1 ..)).symm
  refine bk_188_0 (fun h1 => ?_) (fun h1 => ?_)
  · have he := ite_p h1 he
    refine bk_188_21 ?_
    exact bk_188_22 (rl_p_I he)
  · have he := ite_n h1 he
    refine bk_188_10 ?_
    exact bk_188_22 (rl_p_I he)
/-- VectorShelfModel.highOf(I)F -/
def v_190 (x0 : Int32) : UInt32 := (FP.fmul (FP.i2f x0) 1065353224)
def g_190 (x0 : Int32) : Prop := (vf_n32 (FP.fmul (FP.i2f x0) 1065353224))
theorem cc_190 {l : LX} {d : Nat} {I : WI} {F : WF} {L : WL} {t : Nat} {x0 : Int32} (hg : g_190 x0) : Con l 190 (d + 0) 0 0 [.int x0] SH (I, F, L, RT t) (rF (v_190 x0) (I, F, L, RT t)) := by
  refine cn_190 ?_
  obtain ⟨T1, hT1⟩ : ∃ r : UInt32, r = (v_190 x0) := ⟨_, rfl⟩
  rw [← hT1]
  have he := (hT1.trans (v_190.eq_1 ..)).symm
  have hg := Eq.mp (g_190.eq_1 ..) hg
  have k1 := hg
  exact bk_190_0 k1 (rl_p_F he)
/-- VectorShelfModel.feed(I)I -/
def v_191 (I : WI) (x1 : Int32) : Int32 × WI := (if ¬ (v_170 (Int32.toInt64 x1) (0 : Int64) (255 : Int64)) = 0 then (if ¬ (I 74 6) = 160 then (((I 74 6) + 1), (up2 (up2 I 77 (I 74 6).toNatClampNeg x1) 74 6 ((I 74 6) + 1))) else ((-4), I)) else ((-2), I))
def g_191 (I : WI) (x1 : Int32) : Prop := ((¬ (v_170 (Int32.toInt64 x1) (0 : Int64) (255 : Int64)) = 0) → ((¬ (I 74 6) = 160) → (vp_in (I 74 6) 160)))
theorem cc_191 {l : LX} {d : Nat} {I : WI} {F : WF} {L : WL} {t : Nat} {x1 : Int32} (hg : g_191 I x1) : Con l 191 (d + 1) 0 0 [.ref 74, .int x1] SH (I, F, L, RT t) (po_I_I F L t (v_191 I x1)) := by
  refine cn_191 ?_
  obtain ⟨T1, hT1⟩ : ∃ r : Int32 × WI, r = (v_191 I x1) := ⟨_, rfl⟩
  rw [← hT1]
  have he := (hT1.trans (v_191.eq_1 ..)).symm
  have hg := Eq.mp (g_191.eq_1 ..) hg
  refine bk_191_0 (cc_170 (d := d + 0) ) ?_
  refine bk_191_9 (fun h2 => ?_) (fun h2 => ?_)
  · have he := ite_p h2 he
    have hg := hg h2
    refine bk_191_15 (fun h3 => ?_) (fun h3 => ?_)
    · have he := ite_p h3 he
      have hg := hg h3
      have k4 := hg
      exact bk_191_28 k4 (rl_I_I he)
    · have he := ite_n h3 he
      exact bk_191_25 (rl_I_I he)
  · have he := ite_n h2 he
    exact bk_191_12 (rl_I_I he)
/-- VectorShelfModel.byteAt(I)I -/
def v_195 (I : WI) (x1 : Int32) : Int32 := (if (I 74 26) ≤ x1 then (-1) else (I 75 ((I 74 25) + x1).toNatClampNeg))
def g_195 (I : WI) (x1 : Int32) : Prop := (¬ ((I 74 26) ≤ x1) → (vp_in ((I 74 25) + x1) 960))
theorem cc_195 {l : LX} {d : Nat} {I : WI} {F : WF} {L : WL} {t : Nat} {x1 : Int32} (hg : g_195 I x1) : Con l 195 (d + 0) 0 0 [.ref 74, .int x1] SH (I, F, L, RT t) (rI (v_195 I x1) (I, F, L, RT t)) := by
  refine cn_195 ?_
  obtain ⟨T1, hT1⟩ : ∃ r : Int32, r = (v_195 I x1) := ⟨_, rfl⟩
  rw [← hT1]
  have he := (hT1.trans (v_195.eq_1 ..)).symm
  have hg := Eq.mp (g_195.eq_1 ..) hg
  refine bk_195_0 (fun h1 => ?_) (fun h1 => ?_)
  · have he := ite_p h1 he
    refine bk_195_22 ?_
    exact bk_195_23 (rl_p_I he)
  · have he := ite_n h1 he
    have hg := hg h1
    have k2 := hg
    refine bk_195_8 k2 ?_
    exact bk_195_23 (rl_p_I he)
/-- VectorShelfModel.isLetter(II)Z -/
def v_197 (I : WI) (x1 : Int32) (x2 : Int32) : Int32 := (if (I 74 27) ≤ ((I 74 29) + x1) then (if ¬ x2 = 0 then 0 else 1) else (if ¬ (v_195 I ((I 74 29) + x1)) = x2 then 0 else 1))
def g_197 (I : WI) (x1 : Int32) : Prop := (¬ ((I 74 27) ≤ ((I 74 29) + x1)) → (g_195 I ((I 74 29) + x1)))
theorem cc_197 {l : LX} {d : Nat} {I : WI} {F : WF} {L : WL} {t : Nat} {x1 : Int32} {x2 : Int32} (hg : g_197 I x1) : Con l 197 (d + 1) 0 0 [.ref 74, .int x1, .int x2] SH (I, F, L, RT t) (rI (v_197 I x1 x2) (I, F, L, RT t)) := by
  refine cn_197 ?_
  obtain ⟨T1, hT1⟩ : ∃ r : Int32, r = (v_197 I x1 x2) := ⟨_, rfl⟩
  rw [← hT1]
  have he := (hT1.trans (v_197.eq_1 ..)).symm
  have hg := Eq.mp (g_197.eq_1 ..) hg
  refine bk_197_0 (fun h1 => ?_) (fun h1 => ?_)
  · have he := ite_p h1 he
    refine bk_197_35 (fun h2 => ?_) (fun h2 => ?_)
    · have he := ite_p h2 he
      refine bk_197_43 ?_
      exact bk_197_44 (by decide) (rl_p_I he)
    · have he := ite_n h2 he
      refine bk_197_39 ?_
      exact bk_197_44 (by decide) (rl_p_I he)
  · have he := ite_n h1 he
    have hg := hg h1
    have k3 := hg
    refine bk_197_13 (cc_195 (d := d + 0)  k3) ?_
    refine bk_197_23 (fun h4 => ?_) (fun h4 => ?_)
    · have he := ite_p h4 he
      refine bk_197_31 ?_
      exact bk_197_44 (by decide) (rl_p_I he)
    · have he := ite_n h4 he
      refine bk_197_27 ?_
      exact bk_197_44 (by decide) (rl_p_I he)
theorem sb_197 (I : WI) (x1 : Int32) (x2 : Int32) : (v_197 I x1 x2) &&& 1 = (v_197 I x1 x2) := by
  unfold v_197
  repeat' split
  all_goals first | rfl
/-- VectorShelfModel.fail()V -/
def v_199 (I : WI) : WI := (if ¬ (I 74 32) = 0 then I else (up2 (up2 I 74 32 1) 74 33 (I 74 29)))
theorem cc_199 {l : LX} {d : Nat} {I : WI} {F : WF} {L : WL} {t : Nat} : Con l 199 (d + 0) 0 0 [.ref 74] SH (I, F, L, RT t) (po_V_I F L t (v_199 I)) := by
  refine cn_199 ?_
  obtain ⟨T1, hT1⟩ : ∃ r : WI, r = (v_199 I) := ⟨_, rfl⟩
  rw [← hT1]
  have he := (hT1.trans (v_199.eq_1 ..)).symm
  refine bk_199_0 (fun h1 => ?_) (fun h1 => ?_)
  · have he := ite_p h1 he
    exact bk_199_20 (rl_V_I he)
  · have he := ite_n h1 he
    refine bk_199_7 ?_
    exact bk_199_20 (rl_V_I he)
/-- VectorShelfModel.isSign(I)Z -/
def v_207 (I : WI) (L : WL) (x1 : Int32) : Int32 := (if ¬ (I 74 32) = 0 then 0 else (if ¬ (I 74 28) = 3 then 0 else (if ¬ (lg_cmp (L 74 30) (Int32.toInt64 x1)) = 0 then 0 else 1)))
theorem cc_207 {l : LX} {d : Nat} {I : WI} {F : WF} {L : WL} {t : Nat} {x1 : Int32} : Con l 207 (d + 0) 0 0 [.ref 74, .int x1] SH (I, F, L, RT t) (rI (v_207 I L x1) (I, F, L, RT t)) := by
  refine cn_207 ?_
  obtain ⟨T1, hT1⟩ : ∃ r : Int32, r = (v_207 I L x1) := ⟨_, rfl⟩
  rw [← hT1]
  have he := (hT1.trans (v_207.eq_1 ..)).symm
  refine bk_207_0 (fun h1 => ?_) (fun h1 => ?_)
  · have he := ite_p h1 he
    refine bk_207_29 ?_
    exact bk_207_30 (by decide) (rl_p_I he)
  · have he := ite_n h1 he
    refine bk_207_7 (fun h2 => ?_) (fun h2 => ?_)
    · have he := ite_p h2 he
      refine bk_207_29 ?_
      exact bk_207_30 (by decide) (rl_p_I he)
    · have he := ite_n h2 he
      refine bk_207_15 (fun h3 => ?_) (fun h3 => ?_)
      · have he := ite_p h3 he
        refine bk_207_29 ?_
        exact bk_207_30 (by decide) (rl_p_I he)
      · have he := ite_n h3 he
        refine bk_207_25 ?_
        exact bk_207_30 (by decide) (rl_p_I he)
theorem sb_207 (I : WI) (L : WL) (x1 : Int32) : (v_207 I L x1) &&& 1 = (v_207 I L x1) := by
  unfold v_207
  repeat' split
  all_goals first | rfl
/-- VectorShelfModel.force(I)I -/
def v_209 (I : WI) (x1 : Int32) : Int32 × WI := (if ¬ (v_170 (Int32.toInt64 x1) (0 : Int64) (Int32.toInt64 ((I 74 3) - 1))) = 0 then ((I 74 4), (up2 I 74 4 x1)) else ((-2), I))
theorem cc_209 {l : LX} {d : Nat} {I : WI} {F : WF} {L : WL} {t : Nat} {x1 : Int32} : Con l 209 (d + 1) 0 0 [.ref 74, .int x1] SH (I, F, L, RT t) (po_I_I F L t (v_209 I x1)) := by
  refine cn_209 ?_
  obtain ⟨T1, hT1⟩ : ∃ r : Int32 × WI, r = (v_209 I x1) := ⟨_, rfl⟩
  rw [← hT1]
  have he := (hT1.trans (v_209.eq_1 ..)).symm
  refine bk_209_0 (cc_170 (d := d + 0) ) ?_
  refine bk_209_13 (fun h2 => ?_) (fun h2 => ?_)
  · have he := ite_p h2 he
    exact bk_209_19 (rl_I_I he)
  · have he := ite_n h2 he
    exact bk_209_16 (rl_I_I he)
/-- VectorShelfModel.floor(II)I -/
def v_212 (x0 : Int32) (x1 : Int32) : Int32 := (if 0 ≤ (x0 - x0 / x1 * x1) then (x0 / x1) else ((x0 / x1) - 1))
def g_212 (x1 : Int32) : Prop := (¬ (x1 : Int32) = 0)
theorem cc_212 {l : LX} {d : Nat} {I : WI} {F : WF} {L : WL} {t : Nat} {x0 : Int32} {x1 : Int32} (hg : g_212 x1) : Con l 212 (d + 0) 0 0 [.int x0, .int x1] SH (I, F, L, RT t) (rI (v_212 x0 x1) (I, F, L, RT t)) := by
  refine cn_212 ?_
  obtain ⟨T1, hT1⟩ : ∃ r : Int32, r = (v_212 x0 x1) := ⟨_, rfl⟩
  rw [← hT1]
  have he := (hT1.trans (v_212.eq_1 ..)).symm
  have hg := Eq.mp (g_212.eq_1 ..) hg
  have k1 := hg
  refine bk_212_0 k1 (fun h2 => ?_) (fun h2 => ?_)
  · have he := ite_p h2 he
    refine bk_212_16 ?_
    exact bk_212_17 (rl_p_I he)
  · have he := ite_n h2 he
    refine bk_212_10 ?_
    exact bk_212_17 (rl_p_I he)
/-- VectorShelfModel.held(III)I -/
def v_216 (x0 : Int32) (x1 : Int32) (x2 : Int32) : Int32 := (if x1 ≤ x0 then (if x0 ≤ x2 then x0 else x2) else x1)
theorem cc_216 {l : LX} {d : Nat} {I : WI} {F : WF} {L : WL} {t : Nat} {x0 : Int32} {x1 : Int32} {x2 : Int32} : Con l 216 (d + 0) 0 0 [.int x0, .int x1, .int x2] SH (I, F, L, RT t) (rI (v_216 x0 x1 x2) (I, F, L, RT t)) := by
  refine cn_216 ?_
  obtain ⟨T1, hT1⟩ : ∃ r : Int32, r = (v_216 x0 x1 x2) := ⟨_, rfl⟩
  rw [← hT1]
  have he := (hT1.trans (v_216.eq_1 ..)).symm
  refine bk_216_0 (fun h1 => ?_) (fun h1 => ?_)
  · have he := ite_p h1 he
    refine bk_216_9 (fun h2 => ?_) (fun h2 => ?_)
    · have he := ite_p h2 he
      refine bk_216_18 ?_
      exact bk_216_19 (rl_p_I he)
    · have he := ite_n h2 he
      refine bk_216_14 ?_
      exact bk_216_19 (rl_p_I he)
  · have he := ite_n h1 he
    refine bk_216_5 ?_
    exact bk_216_19 (rl_p_I he)
/-- VectorShelfModel.outside(III)I -/
def v_220 (x0 : Int32) (x1 : Int32) (x2 : Int32) : Int32 := (if x1 ≤ x0 then (if x0 ≤ x2 then 0 else (x0 - x2)) else (x1 - x0))
theorem cc_220 {l : LX} {d : Nat} {I : WI} {F : WF} {L : WL} {t : Nat} {x0 : Int32} {x1 : Int32} {x2 : Int32} : Con l 220 (d + 0) 0 0 [.int x0, .int x1, .int x2] SH (I, F, L, RT t) (rI (v_220 x0 x1 x2) (I, F, L, RT t)) := by
  refine cn_220 ?_
  obtain ⟨T1, hT1⟩ : ∃ r : Int32, r = (v_220 x0 x1 x2) := ⟨_, rfl⟩
  rw [← hT1]
  have he := (hT1.trans (v_220.eq_1 ..)).symm
  refine bk_220_0 (fun h1 => ?_) (fun h1 => ?_)
  · have he := ite_p h1 he
    refine bk_220_11 (fun h2 => ?_) (fun h2 => ?_)
    · have he := ite_p h2 he
      refine bk_220_22 ?_
      exact bk_220_23 (rl_p_I he)
    · have he := ite_n h2 he
      refine bk_220_16 ?_
      exact bk_220_23 (rl_p_I he)
  · have he := ite_n h1 he
    refine bk_220_5 ?_
    exact bk_220_23 (rl_p_I he)
/-- VectorShelfModel.termF(II)F -/
def v_222 (I : WI) (x1 : Int32) (x2 : Int32) : UInt32 := (bx ((if (v_187 I) = 0 then x1 else (v_188 I x1)) : Int32) (fun p1 => (if (I 78 3) = 2 then (FP.i2f p1) else (if ¬ (I 78 3) = 4 then (if ¬ (I 78 3) = 0 then (FP.fmul (FP.fmul (FP.i2f p1) (FP.i2f p1)) (FP.i2f (I 78 (4 + x2).toNatClampNeg))) else (FP.fmul (FP.i2f p1) (FP.i2f p1))) else (FP.i2f p1)))))
def g_222 (I : WI) (x1 : Int32) (x2 : Int32) : Prop := (bx ((if (v_187 I) = 0 then x1 else (v_188 I x1)) : Int32) (fun p1 => (¬ ((I 78 3) = 2) → ((¬ (I 78 3) = 4) → ((vf_n32 (FP.fmul (FP.i2f p1) (FP.i2f p1))) ∧ ((¬ (I 78 3) = 0) → ((vp_in (4 + x2) 7) ∧ (vf_n32 (FP.fmul (FP.fmul (FP.i2f p1) (FP.i2f p1)) (FP.i2f (I 78 (4 + x2).toNatClampNeg)))))))))))
theorem cc_222 {l : LX} {d : Nat} {I : WI} {F : WF} {L : WL} {t : Nat} {x1 : Int32} {x2 : Int32} (hg : g_222 I x1 x2) : Con l 222 (d + 1) 0 0 [.ref 74, .int x1, .int x2] SH (I, F, L, RT t) (rF (v_222 I x1 x2) (I, F, L, RT t)) := by
  refine cn_222 ?_
  obtain ⟨T1, hT1⟩ : ∃ r : UInt32, r = (v_222 I x1 x2) := ⟨_, rfl⟩
  rw [← hT1]
  have he := (hT1.trans (v_222.eq_1 ..)).symm
  have hg := Eq.mp (g_222.eq_1 ..) hg
  refine bk_222_0 (cc_187 (d := d + 0) ) ?_
  obtain ⟨X1, hX1⟩ : ∃ r : Int32, r = (if (v_187 I) = 0 then x1 else (v_188 I x1)) := ⟨_, rfl⟩
  have J1 : ∀ p1 : Int32, p1 = X1 → Wp l 222 (d + 1) 0 0 (rF T1 (I, F, L, RT t)) 0 0 16 [(0, .ref 74), (2, .int x2)] [.int p1] SH (I, F, L, RT t) := by
    intro p1 hr
    have hr := hr.trans hX1
    have he := bx_eq hr he
    have hg := bx_un hr hg
    refine bk_222_16 (fun h4 => ?_) (fun h4 => ?_)
    · have he := ite_p h4 he
      exact bk_222_38 (rl_p_F he)
    · have he := ite_n h4 he
      have hg := hg h4
      refine bk_222_28 (fun h5 => ?_) (fun h5 => ?_)
      · have he := ite_p h5 he
        have hg := hg h5
        obtain ⟨k6, hg⟩ := hg
        refine bk_222_40 k6 (fun h7 => ?_) (fun h7 => ?_)
        · have he := ite_p h7 he
          have hg := hg h7
          obtain ⟨k8, k9⟩ := hg
          refine bk_222_59 k8 k9 ?_
          exact bk_222_71 (rl_p_F he)
        · have he := ite_n h7 he
          refine bk_222_54 ?_
          exact bk_222_71 (rl_p_F he)
      · have he := ite_n h5 he
        exact bk_222_38 (rl_p_F he)
  have he := hX1.symm
  refine bk_222_4 (fun h2 => ?_) (fun h2 => ?_)
  · have he := ite_p h2 he
    refine bk_222_15 ?_
    exact J1 x1 he
  · have he := ite_n h2 he
    refine bk_222_7 (cc_188 (d := d + 0) ) ?_
    refine bk_222_12 ?_
    exact J1 (v_188 I x1) he
/-- VectorShelfModel.isCell(I)Z -/
def v_224 (I : WI) (x1 : Int32) : Int32 := (v_170 (Int32.toInt64 x1) (0 : Int64) (Int32.toInt64 ((I 74 13) - 1)))
theorem cc_224 {l : LX} {d : Nat} {I : WI} {F : WF} {L : WL} {t : Nat} {x1 : Int32} : Con l 224 (d + 1) 0 0 [.ref 74, .int x1] SH (I, F, L, RT t) (rI (v_224 I x1) (I, F, L, RT t)) := by
  refine cn_224 ?_
  obtain ⟨T1, hT1⟩ : ∃ r : Int32, r = (v_224 I x1) := ⟨_, rfl⟩
  rw [← hT1]
  have he := (hT1.trans (v_224.eq_1 ..)).symm
  refine bk_224_0 (cc_170 (d := d + 0) ) ?_
  exact bk_224_13 (sb_170 ..) (rl_p_I he)
theorem sb_224 (I : WI) (x1 : Int32) : (v_224 I x1) &&& 1 = (v_224 I x1) := by
  unfold v_224
  repeat' split
  all_goals first | rfl | exact sb_170 ..
/-- VectorShelfModel.outsideBox(II)I -/
def v_226 (I : WI) (x1 : Int32) (x2 : Int32) : Int32 := (v_220 (I 79 x2.toNatClampNeg) (I 81 ((3 * x1) + x2).toNatClampNeg) (I 82 ((3 * x1) + x2).toNatClampNeg))
def g_226 (x1 : Int32) (x2 : Int32) : Prop := ((vp_in x2 3) ∧ (vp_in ((3 * x1) + x2) 12))
theorem cc_226 {l : LX} {d : Nat} {I : WI} {F : WF} {L : WL} {t : Nat} {x1 : Int32} {x2 : Int32} (hg : g_226 x1 x2) : Con l 226 (d + 1) 0 0 [.ref 74, .int x1, .int x2] SH (I, F, L, RT t) (rI (v_226 I x1 x2) (I, F, L, RT t)) := by
  refine cn_226 ?_
  obtain ⟨T1, hT1⟩ : ∃ r : Int32, r = (v_226 I x1 x2) := ⟨_, rfl⟩
  rw [← hT1]
  have he := (hT1.trans (v_226.eq_1 ..)).symm
  have hg := Eq.mp (g_226.eq_1 ..) hg
  obtain ⟨k1, k2⟩ := hg
  refine bk_226_0 k1 k2 (cc_220 (d := d + 0) ) ?_
  exact bk_226_29 (rl_p_I he)
/-- the loop at 4 of VectorShelfModel.leaves -/
def lp_230_4 (I : WI) (x1 : Int32) (a2 : Int32) : Nat → Int32 × WI
  | 0 => (a2, I)
  | k + 1 => bx (lp_230_4 I x1 a2 k) (fun p1 => (bx ((if ¬ (p1.2 87 (nI k).toNatClampNeg) = 1 then (p1.1, p1.2) else (if (p1.2 86 (nI k).toNatClampNeg) = (-1) then (p1.1, p1.2) else (if x1 = (-1) then ((p1.1 + 1), (up2 p1.2 86 (nI k).toNatClampNeg (-1))) else (if ¬ (p1.2 86 (nI k).toNatClampNeg) = x1 then (p1.1, p1.2) else ((p1.1 + 1), (up2 p1.2 86 (nI k).toNatClampNeg (-1))))))) : Int32 × WI) (fun p2 => (p2.1, p2.2))))
def gl_230_4 (I : WI) (x1 : Int32) (a2 : Int32) (N : Nat) : Prop := ((∀ k, k < N → bx (lp_230_4 I x1 a2 k) (fun p1 => (((p1.2 74 18) = (I 74 18)) ∧ ((vp_in (nI k) 12) ∧ (¬ (¬ (p1.2 87 (nI k).toNatClampNeg) = 1) → ((vp_in (nI k) 12) ∧ (¬ ((p1.2 86 (nI k).toNatClampNeg) = (-1)) → (((x1 = (-1)) → (vp_in (nI k) 12)) ∧ (¬ (x1 = (-1)) → ((vp_in (nI k) 12) ∧ (¬ (¬ (p1.2 86 (nI k).toNatClampNeg) = x1) → (vp_in (nI k) 12)))))))))))) ∧ (bx (lp_230_4 I x1 a2 N) (fun p1 => (p1.2 74 18) = (I 74 18))))
theorem lw_230_4 {l : LX} {d : Nat} {P : RP} {I : WI} {F : WF} {L : WL} {t : Nat} {x1 : Int32} {a2 : Int32} (hgl : gl_230_4 I x1 a2 ((I 74 18).toNatClampNeg)) (hx : ∀ p1 : Int32 × WI, p1 = lp_230_4 I x1 a2 ((I 74 18).toNatClampNeg) → Wp l 230 (d + 0) 0 0 P 0 0 63 [(2, .int p1.1)] [] SH (p1.2, F, L, RT t)) : Wp l 230 (d + 0) 0 0 P 0 0 4 [(0, .ref 74), (1, .int x1), (2, .int a2), (3, .int 0)] [] SH (I, F, L, RT t) := by
  obtain ⟨hin, hend⟩ := hgl
  have loop : ∀ m k, k + m = (I 74 18).toNatClampNeg → ∀ p1 : Int32 × WI, p1 = lp_230_4 I x1 a2 k → Wp l 230 (d + 0) 0 0 P 0 0 4 [(0, .ref 74), (1, .int x1), (2, .int p1.1), (3, .int (nI k))] [] SH (p1.2, F, L, RT t) := by
    intro m
    induction m with
    | zero =>
      intro k hk p1 hs
      obtain rfl : k = (I 74 18).toNatClampNeg := by omega
      have hE := bx_un hs hend
      exact bk_230_4  (fun _ => hx _ hs) (fun h => absurd ((show (p1.2 74 18) ≤ (nI ((I 74 18).toNatClampNeg)) from by rw [show (p1.2 74 18) = (I 74 18) from hE]; exact (le_cl (Nat.le_refl _)).mpr rfl)) h)
    | succ m ih =>
      intro k hk p1 hs
      have hk2 : k < (I 74 18).toNatClampNeg := by omega
      have ih := ih (k + 1) (by omega)
      rw [nI_succ] at ih
      have he := bx_eq hs (lp_230_4.eq_2 ..).symm
      have hg := bx_un hs (hin k hk2)
      have hE : (p1.2 74 18) = (I 74 18) := hg.1
      have hg := hg.2
      refine bk_230_4  (fun h => absurd ((le_cl (E := (I 74 18)) (i := k) (by omega)).mp (by rw [show (p1.2 74 18) = (I 74 18) from hE] at h; exact h)) (by omega)) (fun _ => ?_)
      obtain ⟨k1, hg⟩ := hg
      have hgX := hg
      obtain ⟨X1, hX1⟩ : ∃ r : Int32 × WI, r = (if ¬ (p1.2 87 (nI k).toNatClampNeg) = 1 then (p1.1, p1.2) else (if (p1.2 86 (nI k).toNatClampNeg) = (-1) then (p1.1, p1.2) else (if x1 = (-1) then ((p1.1 + 1), (up2 p1.2 86 (nI k).toNatClampNeg (-1))) else (if ¬ (p1.2 86 (nI k).toNatClampNeg) = x1 then (p1.1, p1.2) else ((p1.1 + 1), (up2 p1.2 86 (nI k).toNatClampNeg (-1))))))) := ⟨_, rfl⟩
      have J1 : ∀ p2 : Int32 × WI, p2 = X1 → Wp l 230 (d + 0) 0 0 P 0 0 57 [(0, .ref 74), (1, .int x1), (2, .int p2.1), (3, .int (nI k))] [] SH (p2.2, F, L, RT t) := by
        intro p2 hr
        have hr := hr.trans hX1
        have he := bx_eq hr he
        refine bk_230_57 ?_
        exact ih (p2.1, p2.2) he
      have he := hX1.symm
      have hg := hgX
      refine bk_230_12 k1 (fun h2 => ?_) (fun h2 => ?_)
      · have he := ite_p h2 he
        exact J1 (p1.1, p1.2) he
      · have he := ite_n h2 he
        have hg := hg h2
        obtain ⟨k3, hg⟩ := hg
        refine bk_230_22 k3 (fun h4 => ?_) (fun h4 => ?_)
        · have he := ite_p h4 he
          exact J1 (p1.1, p1.2) he
        · have he := ite_n h4 he
          have hg := hg h4
          refine bk_230_32 (fun h5 => ?_) (fun h5 => ?_)
          · have he := ite_p h5 he
            have hg := hg.1 h5
            have k6 := hg
            refine bk_230_47 k6 ?_
            exact J1 ((p1.1 + 1), (up2 p1.2 86 (nI k).toNatClampNeg (-1))) he
          · have he := ite_n h5 he
            have hg := hg.2 h5
            obtain ⟨k7, hg⟩ := hg
            refine bk_230_37 k7 (fun h8 => ?_) (fun h8 => ?_)
            · have he := ite_p h8 he
              exact J1 (p1.1, p1.2) he
            · have he := ite_n h8 he
              have hg := hg h8
              have k9 := hg
              refine bk_230_47 k9 ?_
              exact J1 ((p1.1 + 1), (up2 p1.2 86 (nI k).toNatClampNeg (-1))) he
  exact loop _ 0 (Nat.zero_add _) _ rfl
/-- VectorShelfModel.leaves(I)I -/
def v_230 (I : WI) (x1 : Int32) : Int32 × WI := (bx ((lp_230_4 I x1 (0 : Int32) ((I 74 18).toNatClampNeg)) : Int32 × WI) (fun p3 => (p3.1, p3.2)))
def g_230 (I : WI) (x1 : Int32) : Prop := (gl_230_4 I x1 (0 : Int32) ((I 74 18).toNatClampNeg))
theorem cc_230 {l : LX} {d : Nat} {I : WI} {F : WF} {L : WL} {t : Nat} {x1 : Int32} (hg : g_230 I x1) : Con l 230 (d + 0) 0 0 [.ref 74, .int x1] SH (I, F, L, RT t) (po_I_I F L t (v_230 I x1)) := by
  refine cn_230 ?_
  obtain ⟨T1, hT1⟩ : ∃ r : Int32 × WI, r = (v_230 I x1) := ⟨_, rfl⟩
  rw [← hT1]
  have he := (hT1.trans (v_230.eq_1 ..)).symm
  have hg := Eq.mp (g_230.eq_1 ..) hg
  refine bk_230_0 ?_
  have hgX := hg
  refine lw_230_4 (d := d)  hgX (fun p3 hr => ?_)
  have he := bx_eq hr he
  exact bk_230_63 (rl_I_I he)
end
