section
/-- VectorShelf.tidy(I)I -/
def v_123 (I : WI) (x1 : Int32) : Int32 × WI := (if (v_107 x1 (0 : Int32) ((I 1 4) - 1)) = 0 then ((-2), I) else (bx ((v_72 I 1 x1) : Int32 × WI) (fun p1 => (p1.1, p1.2))))
def g_123 (I : WI) (x1 : Int32) : Prop := (¬ ((v_107 x1 (0 : Int32) ((I 1 4) - 1)) = 0) → (g_72 I 1 x1))
theorem cc_123 {l : LX} {d : Nat} {I : WI} {F : WF} {L : WL} {t : Nat} {x1 : Int32} (hg : g_123 I x1) : Con l 123 (d + 4) 0 0 [.ref 0, .int x1] SH (I, F, L, RT t) (po_I_I F L t (v_123 I x1)) := by
  refine cn_123 ?_
  obtain ⟨T1, hT1⟩ : ∃ r : Int32 × WI, r = (v_123 I x1) := ⟨_, rfl⟩
  rw [← hT1]
  have he := (hT1.trans (v_123.eq_1 ..)).symm
  have hg := Eq.mp (g_123.eq_1 ..) hg
  refine bk_123_0 (cc_107 (d := d + 3) ) ?_
  refine bk_123_14 (fun h2 => ?_) (fun h2 => ?_)
  · have he := ite_p h2 he
    refine bk_123_28 ?_
    exact bk_123_30 (rl_I_I he)
  · have he := ite_n h2 he
    have hg := hg h2
    have k3 := hg
    refine bk_123_17 (cq_I_I (cc_72 (d := d + 0) (by first | decide | (unfold isS; decide) | (unfold isS; omega)) k3)) ?_
    rintro _ _ _ _ _ ⟨p1, hr, rfl, rfl, rfl, rfl, rfl⟩
    have he := bx_eq hr he
    refine bk_123_25 ?_
    exact bk_123_30 (rl_I_I he)
/-- VectorShelf.centre()I -/
def v_124 (I : WI) : Int32 × WI := (if ¬ (I 1 4) = 0 then (bx ((v_74 I 1) : Int32 × WI) (fun p1 => (p1.1, p1.2))) else ((-3), I))
def g_124 (I : WI) : Prop := ((¬ (I 1 4) = 0) → (g_74 I 1))
theorem cc_124 {l : LX} {d : Nat} {I : WI} {F : WF} {L : WL} {t : Nat} (hg : g_124 I) : Con l 124 (d + 4) 0 0 [.ref 0] SH (I, F, L, RT t) (po_I_I F L t (v_124 I)) := by
  refine cn_124 ?_
  obtain ⟨T1, hT1⟩ : ∃ r : Int32 × WI, r = (v_124 I) := ⟨_, rfl⟩
  rw [← hT1]
  have he := (hT1.trans (v_124.eq_1 ..)).symm
  have hg := Eq.mp (g_124.eq_1 ..) hg
  refine bk_124_0 (fun h1 => ?_) (fun h1 => ?_)
  · have he := ite_p h1 he
    have hg := hg h1
    have k2 := hg
    refine bk_124_15 (cq_I_I (cc_74 (d := d + 0) (by first | decide | (unfold isS; decide) | (unfold isS; omega)) k2)) ?_
    rintro _ _ _ _ _ ⟨p1, hr, rfl, rfl, rfl, rfl, rfl⟩
    have he := bx_eq hr he
    exact bk_124_22 (rl_I_I he)
  · have he := ite_n h1 he
    refine bk_124_10 ?_
    exact bk_124_22 (rl_I_I he)
/-- VectorShelf.friend(II)I -/
def v_132 (I : WI) (x1 : Int32) (x2 : Int32) : Int32 := (if (v_110 I x1) = 0 then (-2) else (if ¬ (v_107 x2 (0 : Int32) (1 : Int32)) = 0 then (if ¬ x2 = 0 then (v_2 I 1 x1) else (v_1 I 1 x1)) else (-2)))
def g_132 (I : WI) (x1 : Int32) (x2 : Int32) : Prop := (¬ ((v_110 I x1) = 0) → ((¬ (v_107 x2 (0 : Int32) (1 : Int32)) = 0) → (((¬ x2 = 0) → (g_2 I 1 x1)) ∧ (¬ (¬ x2 = 0) → (g_1 I 1 x1)))))
theorem cc_132 {l : LX} {d : Nat} {I : WI} {F : WF} {L : WL} {t : Nat} {x1 : Int32} {x2 : Int32} (hg : g_132 I x1 x2) : Con l 132 (d + 5) 0 0 [.ref 0, .int x1, .int x2] SH (I, F, L, RT t) (rI (v_132 I x1 x2) (I, F, L, RT t)) := by
  refine cn_132 ?_
  obtain ⟨T1, hT1⟩ : ∃ r : Int32, r = (v_132 I x1 x2) := ⟨_, rfl⟩
  rw [← hT1]
  have he := (hT1.trans (v_132.eq_1 ..)).symm
  have hg := Eq.mp (g_132.eq_1 ..) hg
  refine bk_132_0 (cc_110 (d := d + 3) ) ?_
  refine bk_132_5 (fun h2 => ?_) (fun h2 => ?_)
  · have he := ite_p h2 he
    exact bk_132_17 (rl_p_I he)
  · have he := ite_n h2 he
    have hg := hg h2
    refine bk_132_8 (cc_107 (d := d + 4) ) ?_
    refine bk_132_14 (fun h4 => ?_) (fun h4 => ?_)
    · have he := ite_p h4 he
      have hg := hg h4
      refine bk_132_20 (fun h5 => ?_) (fun h5 => ?_)
      · have he := ite_p h5 he
        have hg := hg.1 h5
        have k6 := hg
        refine bk_132_39 (cc_2 (d := d + 0) (by first | decide | (unfold isS; decide) | (unfold isS; omega)) k6) ?_
        exact bk_132_51 (rl_p_I he)
      · have he := ite_n h5 he
        have hg := hg.2 h5
        have k7 := hg
        refine bk_132_24 (cc_1 (d := d + 1) (by first | decide | (unfold isS; decide) | (unfold isS; omega)) k7) ?_
        refine bk_132_36 ?_
        exact bk_132_51 (rl_p_I he)
    · have he := ite_n h4 he
      exact bk_132_17 (rl_p_I he)
/-- the loop at 40 of VectorShelf.rounds -/
def lp_138_40 : Nat → Int32 → Int32 → WI → Int32 × WI
  | 0, x2, x3, I => (x2, I)
  | k + 1, x2, x3, I => (if x3 = 0 then (x2, I) else (if 20 ≤ x2 then (x2, I) else (bx ((v_74 I 21) : Int32 × WI) (fun p2 => (bx ((if p2.1 ≤ 0 then 0 else 1) : Int32) (fun p3 => (lp_138_40 k (x2 + 1) p3 p2.2)))))))
def gl_138_40 : Nat → Int32 → Int32 → WI → Prop
  | 0, _, _, _ => False
  | k + 1, x2, x3, I => (¬ (x3 = 0) → (¬ (20 ≤ x2) → ((g_74 I 21) ∧ (bx ((v_74 I 21) : Int32 × WI) (fun p2 => (bx ((if p2.1 ≤ 0 then 0 else 1) : Int32) (fun p3 => (gl_138_40 k (x2 + 1) p3 p2.2))))))))
theorem lw_138_40 {l : LX} {d : Nat} {P : RP} {F : WF} {L : WL} {t : Nat} {x1 : Int32} : ∀ k : Nat, ∀ (x2 : Int32) (x3 : Int32) (I : WI), gl_138_40 k x2 x3 I → (∀ r : Int32 × WI, r = lp_138_40 k x2 x3 I → Wp l 138 (d + 4) 0 0 P 0 0 72 [(0, .ref 0), (1, .int x1), (2, .int r.1)] [] SH (r.2, F, L, RT t)) → Wp l 138 (d + 4) 0 0 P 0 0 40 [(0, .ref 0), (1, .int x1), (2, .int x2), (3, .int x3)] [] SH (I, F, L, RT t) := by
  intro k
  induction k with
  | zero =>
    intro x2 x3 I hg hx
    exact hg.elim
  | succ k ih =>
    intro x2 x3 I hg hx
    have hg := Eq.mp (gl_138_40.eq_2 ..) hg
    obtain ⟨T1, hT1⟩ : ∃ r : Int32 × WI, r = lp_138_40 (k + 1) x2 x3 I := ⟨_, rfl⟩
    have hx : ∀ r : Int32 × WI, r = T1 → Wp l 138 (d + 4) 0 0 P 0 0 72 [(0, .ref 0), (1, .int x1), (2, .int r.1)] [] SH (r.2, F, L, RT t) := fun r hr => hx r (hr.trans hT1)
    have he := (hT1.trans (lp_138_40.eq_2 ..)).symm
    refine bk_138_40 (fun h5 => ?_) (fun h5 => ?_)
    · have he := ite_p h5 he
      exact hx _ he
    · have he := ite_n h5 he
      have hg := hg h5
      refine bk_138_44 (fun h6 => ?_) (fun h6 => ?_)
      · have he := ite_p h6 he
        exact hx _ he
      · have he := ite_n h6 he
        have hg := hg h6
        obtain ⟨k7, hg⟩ := hg
        refine bk_138_50 (cq_I_I (cc_74 (d := d + 0) (by first | decide | (unfold isS; decide) | (unfold isS; omega)) k7)) ?_
        rintro _ _ _ _ _ ⟨p2, hr, rfl, rfl, rfl, rfl, rfl⟩
        have he := bx_eq hr he
        have hg := bx_un hr hg
        obtain ⟨X1, hX1⟩ : ∃ r : Int32, r = (if p2.1 ≤ 0 then 0 else 1) := ⟨_, rfl⟩
        have J1 : ∀ p3 : Int32, p3 = X1 → Wp l 138 (d + 4) 0 0 P 0 0 65 [(0, .ref 0), (1, .int x1), (2, .int x2)] [.int p3] SH (p2.2, F, L, RT t) := by
          intro p3 hr
          have hr := hr.trans hX1
          have he := bx_eq hr he
          have hg := bx_un hr hg
          refine bk_138_65 ?_
          exact ih _ _ _ hg (fun r hr => hx r (hr.trans he))
        have he := hX1.symm
        refine bk_138_57 (fun h8 => ?_) (fun h8 => ?_)
        · have he := ite_p h8 he
          refine bk_138_64 ?_
          exact J1 _ he
        · have he := ite_n h8 he
          refine bk_138_60 ?_
          exact J1 _ he
/-- VectorShelf.rounds(I)I -/
def v_138 (I : WI) (x1 : Int32) : Int32 × WI := (if ¬ (v_107 x1 (0 : Int32) (1 : Int32)) = 0 then (if ¬ (I 1 4) = 0 then (bx ((v_76 I 21 1) : WI) (fun p1 => (bx ((lp_138_40 400 (0 : Int32) (1 : Int32) p1) : Int32 × WI) (fun p4 => (if ¬ x1 = 0 then ((v_77 p4.2 21), p4.2) else (p4.1, p4.2)))))) else ((-3), I)) else ((-2), I))
def g_138 (I : WI) (x1 : Int32) : Prop := ((¬ (v_107 x1 (0 : Int32) (1 : Int32)) = 0) → ((¬ (I 1 4) = 0) → (bx ((v_76 I 21 1) : WI) (fun p1 => ((gl_138_40 400 (0 : Int32) (1 : Int32) p1) ∧ (bx ((lp_138_40 400 (0 : Int32) (1 : Int32) p1) : Int32 × WI) (fun p4 => ((¬ x1 = 0) → (g_77 p4.2 21)))))))))
theorem cc_138 {l : LX} {d : Nat} {I : WI} {F : WF} {L : WL} {t : Nat} {x1 : Int32} (hg : g_138 I x1) : Con l 138 (d + 4) 0 0 [.ref 0, .int x1] SH (I, F, L, RT t) (po_I_I F L t (v_138 I x1)) := by
  refine cn_138 ?_
  obtain ⟨T1, hT1⟩ : ∃ r : Int32 × WI, r = (v_138 I x1) := ⟨_, rfl⟩
  rw [← hT1]
  have he := (hT1.trans (v_138.eq_1 ..)).symm
  have hg := Eq.mp (g_138.eq_1 ..) hg
  refine bk_138_0 (cc_107 (d := d + 3) ) ?_
  refine bk_138_6 (fun h2 => ?_) (fun h2 => ?_)
  · have he := ite_p h2 he
    have hg := hg h2
    refine bk_138_12 (fun h3 => ?_) (fun h3 => ?_)
    · have he := ite_p h3 he
      have hg := hg h3
      refine bk_138_25 (cq_V_I (cc_76 (d := d + 1) (by first | decide | (unfold isS; decide) | (unfold isS; omega)) (by first | decide | (unfold isS; decide) | (unfold isS; omega)))) ?_
      rintro _ _ _ _ ⟨p1, hr, rfl, rfl, rfl, rfl⟩
      have he := bx_eq hr he
      have hg := bx_un hr hg
      refine bk_138_36 ?_
      obtain ⟨hgX, hg⟩ := hg
      refine lw_138_40 (d := d)  400 _ _ _ hgX (fun p4 hr => ?_)
      have he := bx_eq hr he
      have hg := bx_un hr hg
      refine bk_138_72 (fun h9 => ?_) (fun h9 => ?_)
      · have he := ite_p h9 he
        have hg := hg h9
        have k10 := hg
        refine bk_138_80 (cc_77 (d := d + 1) (by first | decide | (unfold isS; decide) | (unfold isS; omega)) k10) ?_
        exact bk_138_87 (rl_I_I he)
      · have he := ite_n h9 he
        refine bk_138_76 ?_
        exact bk_138_87 (rl_I_I he)
    · have he := ite_n h3 he
      exact bk_138_22 (rl_I_I he)
  · have he := ite_n h2 he
    exact bk_138_9 (rl_I_I he)
/-- the loop at 2 of VectorShelf.firstOtherwise -/
def lp_147_2 (F : WF) (r1 : Nat) : Nat → Int32 → WI → Int32 × WI
  | 0, x2, I => (0, I)
  | k + 1, x2, I => (if (I r1 1) ≤ x2 then ((-1), I) else (bx ((v_78 I 21 x2) : WI) (fun p1 => (if (v_23 p1 21) = (v_45 p1 F r1 x2) then (lp_147_2 F r1 k (x2 + 1) p1) else (x2, p1)))))
def gl_147_2 (F : WF) (r1 : Nat) : Nat → Int32 → WI → Prop
  | 0, _, _ => False
  | k + 1, x2, I => (¬ ((I r1 1) ≤ x2) → ((g_78 I 21 x2) ∧ (bx ((v_78 I 21 x2) : WI) (fun p1 => ((g_23 p1 21) ∧ ((g_45 p1 F r1 x2) ∧ (((v_23 p1 21) = (v_45 p1 F r1 x2)) → (gl_147_2 F r1 k (x2 + 1) p1))))))))
theorem lw_147_2 {l : LX} {d : Nat} {F : WF} {L : WL} {t : Nat} {r1 : Nat} (hr1 : isH r1) : ∀ k : Nat, ∀ (x2 : Int32) (I : WI), gl_147_2 F r1 k x2 I → Wp l 147 (d + 4) 0 0 (po_I_I F L t (lp_147_2 F r1 k x2 I)) 0 0 2 [(0, .ref 0), (1, .ref r1), (2, .int x2)] [] SH (I, F, L, RT t) := by
  intro k
  induction k with
  | zero =>
    intro x2 I hg
    exact hg.elim
  | succ k ih =>
    intro x2 I hg
    have hg := Eq.mp (gl_147_2.eq_2 ..) hg
    obtain ⟨T1, hT1⟩ : ∃ r : Int32 × WI, r = lp_147_2 F r1 (k + 1) x2 I := ⟨_, rfl⟩
    rw [← hT1]
    have he := (hT1.trans (lp_147_2.eq_2 ..)).symm
    refine bk_147_2 hr1 (fun h1 => ?_) (fun h1 => ?_)
    · have he := ite_p h1 he
      exact bk_147_45 (rl_I_I he)
    · have he := ite_n h1 he
      have hg := hg h1
      obtain ⟨k2, hg⟩ := hg
      refine bk_147_10 (cq_V_I (cc_78 (d := d + 2) (by first | decide | (unfold isS; decide) | (unfold isS; omega)) k2)) ?_
      rintro _ _ _ _ ⟨p1, hr, rfl, rfl, rfl, rfl⟩
      have he := bx_eq hr he
      have hg := bx_un hr hg
      obtain ⟨k3, hg⟩ := hg
      refine bk_147_18 (cc_23 (d := d + 0) (by first | decide | (unfold isS; decide) | (unfold isS; omega)) k3) ?_
      obtain ⟨k4, hg⟩ := hg
      refine bk_147_29 hr1 (cc_45 (d := d + 3) hr1 k4) ?_
      refine bk_147_34 (fun h5 => ?_) (fun h5 => ?_)
      · have he := ite_p h5 he
        have hg := hg h5
        refine bk_147_39 ?_
        exact Wp_eq (post := fun r => (po_I_I F L t r)) he (ih _ _ hg)
      · have he := ite_n h5 he
        exact bk_147_37 (rl_I_I he)
/-- VectorShelf.firstOtherwise(LVectorShelf$Sheet;)I -/
def v_147 (I : WI) (F : WF) (r1 : Nat) : Int32 × WI := (lp_147_2 F r1 400 (0 : Int32) I)
def g_147 (I : WI) (F : WF) (r1 : Nat) : Prop := (gl_147_2 F r1 400 (0 : Int32) I)
theorem cc_147 {l : LX} {d : Nat} {I : WI} {F : WF} {L : WL} {t : Nat} {r1 : Nat} (hr1 : isH r1) (hg : g_147 I F r1) : Con l 147 (d + 4) 0 0 [.ref 0, .ref r1] SH (I, F, L, RT t) (po_I_I F L t (v_147 I F r1)) := by
  refine cn_147 ?_
  obtain ⟨T1, hT1⟩ : ∃ r : Int32 × WI, r = (v_147 I F r1) := ⟨_, rfl⟩
  rw [← hT1]
  have he := (hT1.trans (v_147.eq_1 ..)).symm
  have hg := Eq.mp (g_147.eq_1 ..) hg
  refine bk_147_0 ?_
  exact Wp_eq (post := fun r => (po_I_I F L t r)) he (lw_147_2 (d := d) hr1 400 _ _ hg)
/-- the loop at 4 of VectorShelf.kindsTelling -/
def lp_148_4 (I : WI) (F : WF) (r1 : Nat) (a2 : Int32) : Nat → Int32 × WI
  | 0 => (a2, I)
  | k + 1 => bx (lp_148_4 I F r1 a2 k) (fun p1 => (bx ((v_147 (up2 p1.2 22 0 (nI k)) F r1) : Int32 × WI) (fun p2 => (bx ((if ¬ p2.1 = (-1) then p1.1 else (p1.1 ||| (1 <<< ((nI k) &&& 31)))) : Int32) (fun p3 => (p3, p2.2))))))
def gl_148_4 (I : WI) (F : WF) (r1 : Nat) (a2 : Int32) (N : Nat) : Prop := (∀ k, k < N → bx (lp_148_4 I F r1 a2 k) (fun p1 => (g_147 (up2 p1.2 22 0 (nI k)) F r1)))
theorem lw_148_4 {l : LX} {d : Nat} {P : RP} {I : WI} {F : WF} {L : WL} {t : Nat} {r1 : Nat} {a2 : Int32} (hr1 : isH r1) (hgl : gl_148_4 I F r1 a2 (((5 : Int32).toInt + 1 - (0 : Int32).toInt).toNat)) (hx : ∀ p1 : Int32 × WI, p1 = lp_148_4 I F r1 a2 (((5 : Int32).toInt + 1 - (0 : Int32).toInt).toNat) → Wp l 148 (d + 5) 0 0 P 0 0 41 [(2, .int p1.1)] [] SH (p1.2, F, L, RT t)) : Wp l 148 (d + 5) 0 0 P 0 0 4 [(0, .ref 0), (1, .ref r1), (2, .int a2), (3, .int 0)] [] SH (I, F, L, RT t) := by
  have hin := hgl
  have loop : ∀ m k, k + m = ((5 : Int32).toInt + 1 - (0 : Int32).toInt).toNat → ∀ p1 : Int32 × WI, p1 = lp_148_4 I F r1 a2 k → Wp l 148 (d + 5) 0 0 P 0 0 4 [(0, .ref 0), (1, .ref r1), (2, .int p1.1), (3, .int (nI k))] [] SH (p1.2, F, L, RT t) := by
    intro m
    induction m with
    | zero =>
      intro k hk p1 hs
      obtain rfl : k = ((5 : Int32).toInt + 1 - (0 : Int32).toInt).toNat := by omega
      exact bk_148_4  (fun _ => hx _ hs) (fun h => absurd ((cl_gt0 (by decide) (Nat.le_refl _)).mpr rfl) h)
    | succ m ih =>
      intro k hk p1 hs
      have hk2 : k < ((5 : Int32).toInt + 1 - (0 : Int32).toInt).toNat := by omega
      have ih := ih (k + 1) (by omega)
      rw [nI_succ] at ih
      have he := bx_eq hs (lp_148_4.eq_2 ..).symm
      have hg := bx_un hs (hin k hk2)
      refine bk_148_4  (fun h => absurd ((cl_gt0 (by decide) (by omega)).mp h) (by omega)) (fun _ => ?_)
      have k1 := hg
      refine bk_148_9 (cq_I_I (cc_147 (d := d + 0) hr1 k1)) ?_
      rintro _ _ _ _ _ ⟨p2, hr, rfl, rfl, rfl, rfl, rfl⟩
      have he := bx_eq hr he
      obtain ⟨X1, hX1⟩ : ∃ r : Int32, r = (if ¬ p2.1 = (-1) then p1.1 else (p1.1 ||| (1 <<< ((nI k) &&& 31)))) := ⟨_, rfl⟩
      have J1 : ∀ p3 : Int32, p3 = X1 → Wp l 148 (d + 5) 0 0 P 0 0 35 [(0, .ref 0), (1, .ref r1), (2, .int p3), (3, .int (nI k))] [] SH (p2.2, F, L, RT t) := by
        intro p3 hr
        have hr := hr.trans hX1
        have he := bx_eq hr he
        refine bk_148_35 ?_
        exact ih _ he
      have he := hX1.symm
      refine bk_148_25 (fun h2 => ?_) (fun h2 => ?_)
      · have he := ite_p h2 he
        exact J1 _ he
      · have he := ite_n h2 he
        refine bk_148_29 ?_
        exact J1 _ he
  exact loop _ 0 (by omega) _ rfl
/-- VectorShelf.kindsTelling(LVectorShelf$Sheet;)I -/
def v_148 (I : WI) (F : WF) (r1 : Nat) : Int32 × WI := (bx ((lp_148_4 I F r1 (0 : Int32) (((5 : Int32).toInt + 1 - (0 : Int32).toInt).toNat)) : Int32 × WI) (fun p4 => (p4.1, p4.2)))
def g_148 (I : WI) (F : WF) (r1 : Nat) : Prop := (gl_148_4 I F r1 (0 : Int32) (((5 : Int32).toInt + 1 - (0 : Int32).toInt).toNat))
theorem cc_148 {l : LX} {d : Nat} {I : WI} {F : WF} {L : WL} {t : Nat} {r1 : Nat} (hr1 : isH r1) (hg : g_148 I F r1) : Con l 148 (d + 5) 0 0 [.ref 0, .ref r1] SH (I, F, L, RT t) (po_I_I F L t (v_148 I F r1)) := by
  refine cn_148 ?_
  obtain ⟨T1, hT1⟩ : ∃ r : Int32 × WI, r = (v_148 I F r1) := ⟨_, rfl⟩
  rw [← hT1]
  have he := (hT1.trans (v_148.eq_1 ..)).symm
  have hg := Eq.mp (g_148.eq_1 ..) hg
  refine bk_148_0 ?_
  have hgX := hg
  refine lw_148_4 (d := d) hr1 hgX (fun p4 hr => ?_)
  have he := bx_eq hr he
  exact bk_148_41 (rl_I_I he)
/-- the loop at 4 of VectorShelf.weightsTelling -/
def lp_150_4s (I : WI) (F : WF) (r1 : Nat) (a3 : Int32) (a2 : Int32) : Nat → Int32 × WI
  | 0 => (a2, I)
  | k + 1 => bx (lp_150_4s I F r1 a3 a2 k) (fun p1 => (bx ((v_147 (up2 p1.2 23 0 (a3 + nI k)) F r1) : Int32 × WI) (fun p2 => (bx ((if ¬ p2.1 = (-1) then p1.1 else (p1.1 ||| (1 <<< ((a3 + nI k) &&& 31)))) : Int32) (fun p3 => (p3, p2.2))))))
def gl_150_4s (I : WI) (F : WF) (r1 : Nat) (a3 : Int32) (a2 : Int32) (N : Nat) : Prop := (∀ k, k < N → bx (lp_150_4s I F r1 a3 a2 k) (fun p1 => (g_147 (up2 p1.2 23 0 (a3 + nI k)) F r1)))
theorem lw_150_4s {l : LX} {d : Nat} {P : RP} {I : WI} {F : WF} {L : WL} {t : Nat} {r1 : Nat} {a3 : Int32} {a2 : Int32} (hr1 : isH r1) (hgl : gl_150_4s I F r1 a3 a2 (((9 : Int32).toInt + 1 - a3.toInt).toNat)) (hx : ∀ p1 : Int32 × WI, p1 = lp_150_4s I F r1 a3 a2 (((9 : Int32).toInt + 1 - a3.toInt).toNat) → Wp l 150 (d + 5) 0 0 P 0 0 44 [(2, .int p1.1)] [] SH (p1.2, F, L, RT t)) : Wp l 150 (d + 5) 0 0 P 0 0 4 [(0, .ref 0), (1, .ref r1), (2, .int a2), (3, .int a3)] [] SH (I, F, L, RT t) := by
  have hin := hgl
  have loop : ∀ m k, k + m = ((9 : Int32).toInt + 1 - a3.toInt).toNat → ∀ p1 : Int32 × WI, p1 = lp_150_4s I F r1 a3 a2 k → Wp l 150 (d + 5) 0 0 P 0 0 4 [(0, .ref 0), (1, .ref r1), (2, .int p1.1), (3, .int (a3 + nI k))] [] SH (p1.2, F, L, RT t) := by
    intro m
    induction m with
    | zero =>
      intro k hk p1 hs
      obtain rfl : k = ((9 : Int32).toInt + 1 - a3.toInt).toNat := by omega
      exact bk_150_4  (fun _ => hx _ hs) (fun h => absurd ((cl_gt (by decide) (Nat.le_refl _)).mpr rfl) h)
    | succ m ih =>
      intro k hk p1 hs
      have hk2 : k < ((9 : Int32).toInt + 1 - a3.toInt).toNat := by omega
      have ih := ih (k + 1) (by omega)
      rw [nI_succ, ← Int32.add_assoc] at ih
      have he := bx_eq hs (lp_150_4s.eq_2 ..).symm
      have hg := bx_un hs (hin k hk2)
      refine bk_150_4  (fun h => absurd ((cl_gt (by decide) (by omega)).mp h) (by omega)) (fun _ => ?_)
      have k1 := hg
      refine bk_150_10 (cq_I_I (cc_147 (d := d + 0) hr1 k1)) ?_
      rintro _ _ _ _ _ ⟨p2, hr, rfl, rfl, rfl, rfl, rfl⟩
      have he := bx_eq hr he
      obtain ⟨X1, hX1⟩ : ∃ r : Int32, r = (if ¬ p2.1 = (-1) then p1.1 else (p1.1 ||| (1 <<< ((a3 + nI k) &&& 31)))) := ⟨_, rfl⟩
      have J1 : ∀ p3 : Int32, p3 = X1 → Wp l 150 (d + 5) 0 0 P 0 0 38 [(0, .ref 0), (1, .ref r1), (2, .int p3), (3, .int (a3 + nI k))] [] SH (p2.2, F, L, RT t) := by
        intro p3 hr
        have hr := hr.trans hX1
        have he := bx_eq hr he
        refine bk_150_38 ?_
        exact ih _ he
      have he := hX1.symm
      refine bk_150_28 (fun h2 => ?_) (fun h2 => ?_)
      · have he := ite_p h2 he
        exact J1 _ he
      · have he := ite_n h2 he
        refine bk_150_32 ?_
        exact J1 _ he
  have h0 := loop _ 0 (by omega) _ rfl
  rw [show a3 + nI 0 = a3 from by rw [nI_0, Int32.add_zero]] at h0
  exact h0
/-- VectorShelf.weightsTelling(LVectorShelf$Sheet;)I -/
def v_150 (I : WI) (F : WF) (r1 : Nat) : Int32 × WI := (bx ((lp_150_4s I F r1 (1 : Int32) (0 : Int32) (((9 : Int32).toInt + 1 - (1 : Int32).toInt).toNat)) : Int32 × WI) (fun p4 => (p4.1, p4.2)))
def g_150 (I : WI) (F : WF) (r1 : Nat) : Prop := (gl_150_4s I F r1 (1 : Int32) (0 : Int32) (((9 : Int32).toInt + 1 - (1 : Int32).toInt).toNat))
theorem cc_150 {l : LX} {d : Nat} {I : WI} {F : WF} {L : WL} {t : Nat} {r1 : Nat} (hr1 : isH r1) (hg : g_150 I F r1) : Con l 150 (d + 5) 0 0 [.ref 0, .ref r1] SH (I, F, L, RT t) (po_I_I F L t (v_150 I F r1)) := by
  refine cn_150 ?_
  obtain ⟨T1, hT1⟩ : ∃ r : Int32 × WI, r = (v_150 I F r1) := ⟨_, rfl⟩
  rw [← hT1]
  have he := (hT1.trans (v_150.eq_1 ..)).symm
  have hg := Eq.mp (g_150.eq_1 ..) hg
  refine bk_150_0 ?_
  have hgX := hg
  refine lw_150_4s (d := d) hr1 hgX (fun p4 hr => ?_)
  have he := bx_eq hr he
  exact bk_150_44 (rl_I_I he)
/-- the loop at 4 of VectorShelf.dropsTelling -/
def lp_151_4 (I : WI) (F : WF) (r1 : Nat) (a2 : Int32) : Nat → Int32 × WI
  | 0 => (a2, I)
  | k + 1 => bx (lp_151_4 I F r1 a2 k) (fun p1 => (bx ((if (v_61 p1.2 1 (nI k)) = 0 then (p1.1, p1.2) else (bx ((v_56 p1.2 21 (nI k) (0 : Int32)) : WI) (fun p2 => (bx ((v_147 p2 F r1) : Int32 × WI) (fun p3 => (bx ((if ¬ p3.1 = (-1) then p1.1 else (p1.1 ||| (1 <<< ((nI k) &&& 31)))) : Int32) (fun p4 => (bx ((v_56 p3.2 21 (nI k) (1 : Int32)) : WI) (fun p5 => (p4, p5)))))))))) : Int32 × WI) (fun p6 => (p6.1, p6.2))))
def gl_151_4 (I : WI) (F : WF) (r1 : Nat) (a2 : Int32) (N : Nat) : Prop := ((∀ k, k < N → bx (lp_151_4 I F r1 a2 k) (fun p1 => (((p1.2 1 8) = (I 1 8)) ∧ (¬ ((v_61 p1.2 1 (nI k)) = 0) → (bx ((v_56 p1.2 21 (nI k) (0 : Int32)) : WI) (fun p2 => (g_147 p2 F r1))))))) ∧ (bx (lp_151_4 I F r1 a2 N) (fun p1 => (p1.2 1 8) = (I 1 8))))
theorem lw_151_4 {l : LX} {d : Nat} {P : RP} {I : WI} {F : WF} {L : WL} {t : Nat} {r1 : Nat} {a2 : Int32} (hr1 : isH r1) (hgl : gl_151_4 I F r1 a2 ((I 1 8).toNatClampNeg)) (hx : ∀ p1 : Int32 × WI, p1 = lp_151_4 I F r1 a2 ((I 1 8).toNatClampNeg) → Wp l 151 (d + 5) 0 0 P 0 0 65 [(2, .int p1.1)] [] SH (p1.2, F, L, RT t)) : Wp l 151 (d + 5) 0 0 P 0 0 4 [(0, .ref 0), (1, .ref r1), (2, .int a2), (3, .int 0)] [] SH (I, F, L, RT t) := by
  obtain ⟨hin, hend⟩ := hgl
  have loop : ∀ m k, k + m = (I 1 8).toNatClampNeg → ∀ p1 : Int32 × WI, p1 = lp_151_4 I F r1 a2 k → Wp l 151 (d + 5) 0 0 P 0 0 4 [(0, .ref 0), (1, .ref r1), (2, .int p1.1), (3, .int (nI k))] [] SH (p1.2, F, L, RT t) := by
    intro m
    induction m with
    | zero =>
      intro k hk p1 hs
      obtain rfl : k = (I 1 8).toNatClampNeg := by omega
      have hE := bx_un hs hend
      exact bk_151_4  (fun _ => hx _ hs) (fun h => absurd ((show (p1.2 1 8) ≤ (nI ((I 1 8).toNatClampNeg)) from by rw [show (p1.2 1 8) = (I 1 8) from hE]; exact (le_cl (Nat.le_refl _)).mpr rfl)) h)
    | succ m ih =>
      intro k hk p1 hs
      have hk2 : k < (I 1 8).toNatClampNeg := by omega
      have ih := ih (k + 1) (by omega)
      rw [nI_succ] at ih
      have he := bx_eq hs (lp_151_4.eq_2 ..).symm
      have hg := bx_un hs (hin k hk2)
      have hE : (p1.2 1 8) = (I 1 8) := hg.1
      have hg := hg.2
      refine bk_151_4  (fun h => absurd ((le_cl (by omega)).mp (by rw [show (p1.2 1 8) = (I 1 8) from hE] at h; exact h)) (by omega)) (fun _ => ?_)
      refine bk_151_15 (cc_61 (d := d + 3) (by first | decide | (unfold isS; decide) | (unfold isS; omega))) ?_
      have hgX := hg
      obtain ⟨X1, hX1⟩ : ∃ r : Int32 × WI, r = (if (v_61 p1.2 1 (nI k)) = 0 then (p1.1, p1.2) else (bx ((v_56 p1.2 21 (nI k) (0 : Int32)) : WI) (fun p2 => (bx ((v_147 p2 F r1) : Int32 × WI) (fun p3 => (bx ((if ¬ p3.1 = (-1) then p1.1 else (p1.1 ||| (1 <<< ((nI k) &&& 31)))) : Int32) (fun p4 => (bx ((v_56 p3.2 21 (nI k) (1 : Int32)) : WI) (fun p5 => (p4, p5)))))))))) := ⟨_, rfl⟩
      have J1 : ∀ p6 : Int32 × WI, p6 = X1 → Wp l 151 (d + 5) 0 0 P 0 0 59 [(0, .ref 0), (1, .ref r1), (2, .int p6.1), (3, .int (nI k))] [] SH (p6.2, F, L, RT t) := by
        intro p6 hr
        have hr := hr.trans hX1
        have he := bx_eq hr he
        refine bk_151_59 ?_
        exact ih _ he
      have he := hX1.symm
      have hg := hgX
      refine bk_151_23 (fun h2 => ?_) (fun h2 => ?_)
      · have he := ite_p h2 he
        exact J1 _ he
      · have he := ite_n h2 he
        have hg := hg h2
        refine bk_151_26 (cq_V_I (cc_56 (d := d + 4) (by first | decide | (unfold isS; decide) | (unfold isS; omega)))) ?_
        rintro _ _ _ _ ⟨p2, hr, rfl, rfl, rfl, rfl⟩
        have he := bx_eq hr he
        have hg := bx_un hr hg
        have k4 := hg
        refine bk_151_35 (cq_I_I (cc_147 (d := d + 0) hr1 k4)) ?_
        rintro _ _ _ _ _ ⟨p3, hr, rfl, rfl, rfl, rfl, rfl⟩
        have he := bx_eq hr he
        obtain ⟨X2, hX2⟩ : ∃ r : Int32, r = (if ¬ p3.1 = (-1) then p1.1 else (p1.1 ||| (1 <<< ((nI k) &&& 31)))) := ⟨_, rfl⟩
        have J2 : ∀ p4 : Int32, p4 = X2 → Wp l 151 (d + 5) 0 0 P 0 0 50 [(0, .ref 0), (1, .ref r1), (2, .int p4), (3, .int (nI k))] [] SH (p3.2, F, L, RT t) := by
          intro p4 hr
          have hr := hr.trans hX2
          have he := bx_eq hr he
          refine bk_151_50 (cq_V_I (cc_56 (d := d + 4) (by first | decide | (unfold isS; decide) | (unfold isS; omega)))) ?_
          rintro _ _ _ _ ⟨p5, hr, rfl, rfl, rfl, rfl⟩
          have he := bx_eq hr he
          exact J1 _ he
        have he := hX2.symm
        refine bk_151_40 (fun h5 => ?_) (fun h5 => ?_)
        · have he := ite_p h5 he
          exact J2 _ he
        · have he := ite_n h5 he
          refine bk_151_44 ?_
          exact J2 _ he
  exact loop _ 0 (by omega) _ rfl
/-- VectorShelf.dropsTelling(LVectorShelf$Sheet;)I -/
def v_151 (I : WI) (F : WF) (r1 : Nat) : Int32 × WI := (bx ((lp_151_4 I F r1 (0 : Int32) ((I 1 8).toNatClampNeg)) : Int32 × WI) (fun p7 => (p7.1, p7.2)))
def g_151 (I : WI) (F : WF) (r1 : Nat) : Prop := (gl_151_4 I F r1 (0 : Int32) ((I 1 8).toNatClampNeg))
theorem cc_151 {l : LX} {d : Nat} {I : WI} {F : WF} {L : WL} {t : Nat} {r1 : Nat} (hr1 : isH r1) (hg : g_151 I F r1) : Con l 151 (d + 5) 0 0 [.ref 0, .ref r1] SH (I, F, L, RT t) (po_I_I F L t (v_151 I F r1)) := by
  refine cn_151 ?_
  obtain ⟨T1, hT1⟩ : ∃ r : Int32 × WI, r = (v_151 I F r1) := ⟨_, rfl⟩
  rw [← hT1]
  have he := (hT1.trans (v_151.eq_1 ..)).symm
  have hg := Eq.mp (g_151.eq_1 ..) hg
  refine bk_151_0 ?_
  have hgX := hg
  refine lw_151_4 (d := d) hr1 hgX (fun p7 hr => ?_)
  have he := bx_eq hr he
  exact bk_151_65 (rl_I_I he)
/-- VectorShelfModel.vector(IIII)I -/
def v_174 (I : WI) (x1 : Int32) (x2 : Int32) (x3 : Int32) (x4 : Int32) : Int32 × WI := (if (v_173 x1 x2 x3) = 0 then ((-2), I) else (if ¬ (v_170 (Int32.toInt64 x4) ((-99) : Int64) (99 : Int64)) = 0 then (if ¬ (I 74 13) = 0 then (if ¬ (I 74 18) = 12 then (bx ((v_175 (up2 (up2 I 85 (I 74 18).toNatClampNeg x4) 87 (I 74 18).toNatClampNeg 0) (I 74 18) x1 x2 x3) : WI) (fun p1 => ((((p1 74 18) + 1) - 1), (up2 p1 74 18 ((p1 74 18) + 1))))) else ((-4), I)) else ((-3), I)) else ((-2), I)))
def g_174 (I : WI) (x1 : Int32) (x2 : Int32) (x3 : Int32) (x4 : Int32) : Prop := (¬ ((v_173 x1 x2 x3) = 0) → ((¬ (v_170 (Int32.toInt64 x4) ((-99) : Int64) (99 : Int64)) = 0) → ((¬ (I 74 13) = 0) → ((¬ (I 74 18) = 12) → ((vp_in (I 74 18) 12) ∧ (g_175 (up2 (up2 I 85 (I 74 18).toNatClampNeg x4) 87 (I 74 18).toNatClampNeg 0) (I 74 18) x1 x2 x3))))))
theorem cc_174 {l : LX} {d : Nat} {I : WI} {F : WF} {L : WL} {t : Nat} {x1 : Int32} {x2 : Int32} {x3 : Int32} {x4 : Int32} (hg : g_174 I x1 x2 x3 x4) : Con l 174 (d + 2) 0 0 [.ref 74, .int x1, .int x2, .int x3, .int x4] SH (I, F, L, RT t) (po_I_I F L t (v_174 I x1 x2 x3 x4)) := by
  refine cn_174 ?_
  obtain ⟨T1, hT1⟩ : ∃ r : Int32 × WI, r = (v_174 I x1 x2 x3 x4) := ⟨_, rfl⟩
  rw [← hT1]
  have he := (hT1.trans (v_174.eq_1 ..)).symm
  have hg := Eq.mp (g_174.eq_1 ..) hg
  refine bk_174_0 (cc_173 (d := d + 0) ) ?_
  refine bk_174_6 (fun h2 => ?_) (fun h2 => ?_)
  · have he := ite_p h2 he
    exact bk_174_24 (rl_I_I he)
  · have he := ite_n h2 he
    have hg := hg h2
    refine bk_174_9 (cc_170 (d := d + 1) ) ?_
    refine bk_174_21 (fun h4 => ?_) (fun h4 => ?_)
    · have he := ite_p h4 he
      have hg := hg h4
      refine bk_174_27 (fun h5 => ?_) (fun h5 => ?_)
      · have he := ite_p h5 he
        have hg := hg h5
        refine bk_174_37 (fun h6 => ?_) (fun h6 => ?_)
        · have he := ite_p h6 he
          have hg := hg h6
          obtain ⟨k7, k8⟩ := hg
          refine bk_174_49 k7 (cq_V_I (cc_175 (d := d + 0)  k8)) ?_
          rintro _ _ _ _ ⟨p1, hr, rfl, rfl, rfl, rfl⟩
          have he := bx_eq hr he
          exact bk_174_81 (rl_I_I he)
        · have he := ite_n h6 he
          exact bk_174_46 (rl_I_I he)
      · have he := ite_n h5 he
        exact bk_174_34 (rl_I_I he)
    · have he := ite_n h4 he
      exact bk_174_24 (rl_I_I he)
/-- VectorShelfModel.measure(III)I -/
def v_185 (I : WI) (x1 : Int32) (x2 : Int32) (x3 : Int32) : Int32 := (if ¬ (I 78 3) = 4 then (if ¬ (I 78 3) = 2 then (if ¬ (I 78 3) = 5 then (((v_186 I x1 (0 : Int32)) + (v_186 I x2 (1 : Int32))) + (v_186 I x3 (2 : Int32))) else (if (((v_186 I x1 (0 : Int32)) + (v_186 I x2 (1 : Int32))) + (v_186 I x3 (2 : Int32))) ≤ (I 78 2) then (((v_186 I x1 (0 : Int32)) + (v_186 I x2 (1 : Int32))) + (v_186 I x3 (2 : Int32))) else (I 78 2))) else (4 * (((v_186 I x1 (0 : Int32)) + (v_186 I x2 (1 : Int32))) + (v_186 I x3 (2 : Int32))))) else (bx ((if (v_186 I x1 (0 : Int32)) ≤ (v_186 I x2 (1 : Int32)) then (v_186 I x2 (1 : Int32)) else (v_186 I x1 (0 : Int32))) : Int32) (fun p1 => (bx ((if p1 ≤ (v_186 I x3 (2 : Int32)) then (v_186 I x3 (2 : Int32)) else p1) : Int32) (fun p2 => ((4 * p2) + 1))))))
def g_185 (I : WI) (x1 : Int32) (x2 : Int32) (x3 : Int32) : Prop := ((g_186 I x1 (0 : Int32)) ∧ ((g_186 I x2 (1 : Int32)) ∧ (g_186 I x3 (2 : Int32))))
theorem cc_185 {l : LX} {d : Nat} {I : WI} {F : WF} {L : WL} {t : Nat} {x1 : Int32} {x2 : Int32} {x3 : Int32} (hg : g_185 I x1 x2 x3) : Con l 185 (d + 2) 0 0 [.ref 74, .int x1, .int x2, .int x3] SH (I, F, L, RT t) (rI (v_185 I x1 x2 x3) (I, F, L, RT t)) := by
  refine cn_185 ?_
  obtain ⟨T1, hT1⟩ : ∃ r : Int32, r = (v_185 I x1 x2 x3) := ⟨_, rfl⟩
  rw [← hT1]
  have he := (hT1.trans (v_185.eq_1 ..)).symm
  have hg := Eq.mp (g_185.eq_1 ..) hg
  obtain ⟨k1, hg⟩ := hg
  refine bk_185_0 (cc_186 (d := d + 0)  k1) ?_
  obtain ⟨k2, hg⟩ := hg
  refine bk_185_6 (cc_186 (d := d + 0)  k2) ?_
  have k3 := hg
  refine bk_185_14 (cc_186 (d := d + 0)  k3) ?_
  refine bk_185_22 (fun h4 => ?_) (fun h4 => ?_)
  · have he := ite_p h4 he
    refine bk_185_69 (fun h5 => ?_) (fun h5 => ?_)
    · have he := ite_p h5 he
      refine bk_185_96 (fun h6 => ?_) (fun h6 => ?_)
      · have he := ite_p h6 he
        refine bk_185_126 ?_
        exact bk_185_128 (rl_p_I he)
      · have he := ite_n h6 he
        refine bk_185_106 (fun h7 => ?_) (fun h7 => ?_)
        · have he := ite_p h7 he
          refine bk_185_126 ?_
          exact bk_185_128 (rl_p_I he)
        · have he := ite_n h7 he
          refine bk_185_117 ?_
          exact bk_185_128 (rl_p_I he)
    · have he := ite_n h5 he
      refine bk_185_89 ?_
      exact bk_185_128 (rl_p_I he)
  · have he := ite_n h4 he
    obtain ⟨X1, hX1⟩ : ∃ r : Int32, r = (if (v_186 I x1 (0 : Int32)) ≤ (v_186 I x2 (1 : Int32)) then (v_186 I x2 (1 : Int32)) else (v_186 I x1 (0 : Int32))) := ⟨_, rfl⟩
    have J1 : ∀ p1 : Int32, p1 = X1 → Wp l 185 (d + 2) 0 0 (rI T1 (I, F, L, RT t)) 0 0 48 [(6, .int (v_186 I x3 (2 : Int32)))] [.int p1] SH (I, F, L, RT t) := by
      intro p1 hr
      have hr := hr.trans hX1
      have he := bx_eq hr he
      obtain ⟨X2, hX2⟩ : ∃ r : Int32, r = (if p1 ≤ (v_186 I x3 (2 : Int32)) then (v_186 I x3 (2 : Int32)) else p1) := ⟨_, rfl⟩
      have J2 : ∀ p2 : Int32, p2 = X2 → Wp l 185 (d + 2) 0 0 (rI T1 (I, F, L, RT t)) 0 0 65 [] [.int p2, .int 4] SH (I, F, L, RT t) := by
        intro p2 hr
        have hr := hr.trans hX2
        have he := bx_eq hr he
        exact bk_185_65 (rl_p_I he)
      have he := hX2.symm
      refine bk_185_48 (fun h9 => ?_) (fun h9 => ?_)
      · have he := ite_p h9 he
        refine bk_185_63 ?_
        exact J2 _ he
      · have he := ite_n h9 he
        refine bk_185_58 ?_
        exact J2 _ he
    have he := hX1.symm
    refine bk_185_34 (fun h8 => ?_) (fun h8 => ?_)
    · have he := ite_p h8 he
      refine bk_185_46 ?_
      exact J1 _ he
    · have he := ite_n h8 he
      refine bk_185_41 ?_
      exact J1 _ he
/-- VectorShelfModel.lowOfVector(I)F -/
def v_218 (I : WI) (x1 : Int32) : UInt32 := (v_221 I (v_219 I x1 (0 : Int32)) (v_219 I x1 (1 : Int32)) (v_219 I x1 (2 : Int32)))
def g_218 (I : WI) (x1 : Int32) : Prop := ((g_219 I x1 (0 : Int32)) ∧ ((g_219 I x1 (1 : Int32)) ∧ ((g_219 I x1 (2 : Int32)) ∧ (g_221 I (v_219 I x1 (0 : Int32)) (v_219 I x1 (1 : Int32)) (v_219 I x1 (2 : Int32))))))
theorem cc_218 {l : LX} {d : Nat} {I : WI} {F : WF} {L : WL} {t : Nat} {x1 : Int32} (hg : g_218 I x1) : Con l 218 (d + 3) 0 0 [.ref 74, .int x1] SH (I, F, L, RT t) (rF (v_218 I x1) (I, F, L, RT t)) := by
  refine cn_218 ?_
  obtain ⟨T1, hT1⟩ : ∃ r : UInt32, r = (v_218 I x1) := ⟨_, rfl⟩
  rw [← hT1]
  have he := (hT1.trans (v_218.eq_1 ..)).symm
  have hg := Eq.mp (g_218.eq_1 ..) hg
  obtain ⟨k1, hg⟩ := hg
  refine bk_218_0 (cc_219 (d := d + 0)  k1) ?_
  obtain ⟨k2, hg⟩ := hg
  refine bk_218_7 (cc_219 (d := d + 0)  k2) ?_
  obtain ⟨k3, hg⟩ := hg
  refine bk_218_13 (cc_219 (d := d + 0)  k3) ?_
  have k4 := hg
  refine bk_218_19 (cc_221 (d := d + 0)  k4) ?_
  exact bk_218_22 (rl_p_F he)
/-- the loop at 124 of VectorShelfModel.holds -/
def lp_223_124 (I : WI) (x1 : Int32) (x2 : Int32) (a3 : Int32) : Nat → Int32
  | 0 => a3
  | k + 1 => bx (lp_223_124 I x1 x2 a3 k) (fun p1 => (bx ((if ¬ (I 86 (nI k).toNatClampNeg) = x1 then 0 else (if x2 = 10 then 1 else (if (v_180 I (nI k)) = 0 then 0 else 1))) : Int32) (fun p2 => (p1 + p2))))
def gl_223_124 (I : WI) (x1 : Int32) (x2 : Int32) (a3 : Int32) (N : Nat) : Prop := (∀ k, k < N → bx (lp_223_124 I x1 x2 a3 k) (fun p1 => ((vp_in (nI k) 12) ∧ (¬ (¬ (I 86 (nI k).toNatClampNeg) = x1) → (¬ (x2 = 10) → (g_180 I (nI k)))))))
theorem lw_223_124 {l : LX} {d : Nat} {P : RP} {I : WI} {F : WF} {L : WL} {t : Nat} {x1 : Int32} {x2 : Int32} {a3 : Int32} (hgl : gl_223_124 I x1 x2 a3 ((I 74 18).toNatClampNeg)) (hx : ∀ p1 : Int32, p1 = lp_223_124 I x1 x2 a3 ((I 74 18).toNatClampNeg) → Wp l 223 (d + 4) 0 0 P 0 0 173 [(3, .int p1)] [] SH (I, F, L, RT t)) : Wp l 223 (d + 4) 0 0 P 0 0 124 [(0, .ref 74), (1, .int x1), (2, .int x2), (3, .int a3), (4, .int 0)] [] SH (I, F, L, RT t) := by
  have hin := hgl
  have loop : ∀ m k, k + m = (I 74 18).toNatClampNeg → ∀ p1 : Int32, p1 = lp_223_124 I x1 x2 a3 k → Wp l 223 (d + 4) 0 0 P 0 0 124 [(0, .ref 74), (1, .int x1), (2, .int x2), (3, .int p1), (4, .int (nI k))] [] SH (I, F, L, RT t) := by
    intro m
    induction m with
    | zero =>
      intro k hk p1 hs
      obtain rfl : k = (I 74 18).toNatClampNeg := by omega
      exact bk_223_124  (fun _ => hx _ hs) (fun h => absurd ((le_cl (Nat.le_refl _)).mpr rfl) h)
    | succ m ih =>
      intro k hk p1 hs
      have hk2 : k < (I 74 18).toNatClampNeg := by omega
      have ih := ih (k + 1) (by omega)
      rw [nI_succ] at ih
      have he := bx_eq hs (lp_223_124.eq_2 ..).symm
      have hg := bx_un hs (hin k hk2)
      refine bk_223_124  (fun h => absurd ((le_cl (by omega)).mp h) (by omega)) (fun _ => ?_)
      obtain ⟨k9, hg⟩ := hg
      have hgX := hg
      obtain ⟨X1, hX1⟩ : ∃ r : Int32, r = (if ¬ (I 86 (nI k).toNatClampNeg) = x1 then 0 else (if x2 = 10 then 1 else (if (v_180 I (nI k)) = 0 then 0 else 1))) := ⟨_, rfl⟩
      have J1 : ∀ p2 : Int32, p2 = X1 → Wp l 223 (d + 4) 0 0 P 0 0 165 [(0, .ref 74), (1, .int x1), (2, .int x2), (4, .int (nI k))] [.int p2, .int p1] SH (I, F, L, RT t) := by
        intro p2 hr
        have hr := hr.trans hX1
        have he := bx_eq hr he
        refine bk_223_165 ?_
        exact ih _ he
      have he := hX1.symm
      have hg := hgX
      refine bk_223_133 k9 (fun h10 => ?_) (fun h10 => ?_)
      · have he := ite_p h10 he
        refine bk_223_164 ?_
        exact J1 _ he
      · have he := ite_n h10 he
        have hg := hg h10
        refine bk_223_145 (fun h11 => ?_) (fun h11 => ?_)
        · have he := ite_p h11 he
          refine bk_223_160 ?_
          exact J1 _ he
        · have he := ite_n h11 he
          have hg := hg h11
          have k12 := hg
          refine bk_223_151 (cc_180 (d := d + 3)  k12) ?_
          refine bk_223_157 (fun h13 => ?_) (fun h13 => ?_)
          · have he := ite_p h13 he
            refine bk_223_164 ?_
            exact J1 _ he
          · have he := ite_n h13 he
            refine bk_223_160 ?_
            exact J1 _ he
  exact loop _ 0 (by omega) _ rfl
/-- VectorShelfModel.holds(II)I -/
def v_223 (I : WI) (x1 : Int32) (x2 : Int32) : Int32 := (if (v_224 I x1) = 0 then (-99999) else (if (v_170 (Int32.toInt64 x2) (0 : Int64) (11 : Int64)) = 0 then (-99999) else (if (v_170 (Int32.toInt64 x2) (3 : Int64) (9 : Int64)) = 0 then (if 9 ≤ x2 then (if ¬ x2 = 9 then (bx ((lp_223_124 I x1 x2 (0 : Int32) ((I 74 18).toNatClampNeg)) : Int32) (fun p3 => p3)) else (FP.f2i (v_225 I x1))) else (if 3 ≤ x2 then (if 6 ≤ x2 then (I 82 (((3 * x1) + x2) - 6).toNatClampNeg) else (I 81 (((3 * x1) + x2) - 3).toNatClampNeg)) else (I 80 ((3 * x1) + x2).toNatClampNeg))) else (if ¬ (I 83 x1.toNatClampNeg) = 0 then (if 9 ≤ x2 then (if ¬ x2 = 9 then (bx ((lp_223_124 I x1 x2 (0 : Int32) ((I 74 18).toNatClampNeg)) : Int32) (fun p4 => p4)) else (FP.f2i (v_225 I x1))) else (if 3 ≤ x2 then (if 6 ≤ x2 then (I 82 (((3 * x1) + x2) - 6).toNatClampNeg) else (I 81 (((3 * x1) + x2) - 3).toNatClampNeg)) else (I 80 ((3 * x1) + x2).toNatClampNeg))) else (-99999)))))
def g_223 (I : WI) (x1 : Int32) (x2 : Int32) : Prop := (¬ ((v_224 I x1) = 0) → (¬ ((v_170 (Int32.toInt64 x2) (0 : Int64) (11 : Int64)) = 0) → ((((v_170 (Int32.toInt64 x2) (3 : Int64) (9 : Int64)) = 0) → (((9 ≤ x2) → (((¬ x2 = 9) → (gl_223_124 I x1 x2 (0 : Int32) ((I 74 18).toNatClampNeg))) ∧ (¬ (¬ x2 = 9) → (g_225 I x1)))) ∧ (¬ (9 ≤ x2) → (((3 ≤ x2) → (((6 ≤ x2) → (vp_in (((3 * x1) + x2) - 6) 12)) ∧ (¬ (6 ≤ x2) → (vp_in (((3 * x1) + x2) - 3) 12)))) ∧ (¬ (3 ≤ x2) → (vp_in ((3 * x1) + x2) 12)))))) ∧ (¬ ((v_170 (Int32.toInt64 x2) (3 : Int64) (9 : Int64)) = 0) → ((vp_in x1 4) ∧ ((¬ (I 83 x1.toNatClampNeg) = 0) → (((9 ≤ x2) → (((¬ x2 = 9) → (gl_223_124 I x1 x2 (0 : Int32) ((I 74 18).toNatClampNeg))) ∧ (¬ (¬ x2 = 9) → (g_225 I x1)))) ∧ (¬ (9 ≤ x2) → (((3 ≤ x2) → (((6 ≤ x2) → (vp_in (((3 * x1) + x2) - 6) 12)) ∧ (¬ (6 ≤ x2) → (vp_in (((3 * x1) + x2) - 3) 12)))) ∧ (¬ (3 ≤ x2) → (vp_in ((3 * x1) + x2) 12)))))))))))
theorem cc_223 {l : LX} {d : Nat} {I : WI} {F : WF} {L : WL} {t : Nat} {x1 : Int32} {x2 : Int32} (hg : g_223 I x1 x2) : Con l 223 (d + 4) 0 0 [.ref 74, .int x1, .int x2] SH (I, F, L, RT t) (rI (v_223 I x1 x2) (I, F, L, RT t)) := by
  refine cn_223 ?_
  obtain ⟨T1, hT1⟩ : ∃ r : Int32, r = (v_223 I x1 x2) := ⟨_, rfl⟩
  rw [← hT1]
  have he := (hT1.trans (v_223.eq_1 ..)).symm
  have hg := Eq.mp (g_223.eq_1 ..) hg
  refine bk_223_0 (cc_224 (d := d + 2) ) ?_
  refine bk_223_5 (fun h2 => ?_) (fun h2 => ?_)
  · have he := ite_p h2 he
    exact bk_223_43 (rl_p_I he)
  · have he := ite_n h2 he
    have hg := hg h2
    refine bk_223_8 (cc_170 (d := d + 3) ) ?_
    refine bk_223_17 (fun h4 => ?_) (fun h4 => ?_)
    · have he := ite_p h4 he
      exact bk_223_43 (rl_p_I he)
    · have he := ite_n h4 he
      have hg := hg h4
      refine bk_223_20 (cc_170 (d := d + 3) ) ?_
      refine bk_223_31 (fun h6 => ?_) (fun h6 => ?_)
      · have he := ite_p h6 he
        have hg := hg.1 h6
        refine bk_223_47 (fun h7 => ?_) (fun h7 => ?_)
        · have he := ite_p h7 he
          have hg := hg.1 h7
          refine bk_223_106 (fun h8 => ?_) (fun h8 => ?_)
          · have he := ite_p h8 he
            have hg := hg.1 h8
            refine bk_223_119 ?_
            have hgX := hg
            refine lw_223_124 (d := d)  hgX (fun p3 hr => ?_)
            have he := bx_eq hr he
            exact bk_223_173 (rl_p_I he)
          · have he := ite_n h8 he
            have hg := hg.2 h8
            have k14 := hg
            refine bk_223_112 (cc_225 (d := d + 0)  k14) ?_
            exact bk_223_117 (rl_p_I he)
        · have he := ite_n h7 he
          have hg := hg.2 h7
          refine bk_223_53 (fun h15 => ?_) (fun h15 => ?_)
          · have he := ite_p h15 he
            have hg := hg.1 h15
            refine bk_223_71 (fun h16 => ?_) (fun h16 => ?_)
            · have he := ite_p h16 he
              have hg := hg.1 h16
              have k17 := hg
              refine bk_223_92 k17 ?_
              exact bk_223_105 (rl_p_I he)
            · have he := ite_n h16 he
              have hg := hg.2 h16
              have k18 := hg
              refine bk_223_77 k18 ?_
              exact bk_223_105 (rl_p_I he)
          · have he := ite_n h15 he
            have hg := hg.2 h15
            have k19 := hg
            refine bk_223_58 k19 ?_
            exact bk_223_105 (rl_p_I he)
      · have he := ite_n h6 he
        have hg := hg.2 h6
        obtain ⟨k20, hg⟩ := hg
        refine bk_223_34 k20 (fun h21 => ?_) (fun h21 => ?_)
        · have he := ite_p h21 he
          have hg := hg h21
          refine bk_223_47 (fun h22 => ?_) (fun h22 => ?_)
          · have he := ite_p h22 he
            have hg := hg.1 h22
            refine bk_223_106 (fun h23 => ?_) (fun h23 => ?_)
            · have he := ite_p h23 he
              have hg := hg.1 h23
              refine bk_223_119 ?_
              have hgX := hg
              refine lw_223_124 (d := d)  hgX (fun p4 hr => ?_)
              have he := bx_eq hr he
              exact bk_223_173 (rl_p_I he)
            · have he := ite_n h23 he
              have hg := hg.2 h23
              have k24 := hg
              refine bk_223_112 (cc_225 (d := d + 0)  k24) ?_
              exact bk_223_117 (rl_p_I he)
          · have he := ite_n h22 he
            have hg := hg.2 h22
            refine bk_223_53 (fun h25 => ?_) (fun h25 => ?_)
            · have he := ite_p h25 he
              have hg := hg.1 h25
              refine bk_223_71 (fun h26 => ?_) (fun h26 => ?_)
              · have he := ite_p h26 he
                have hg := hg.1 h26
                have k27 := hg
                refine bk_223_92 k27 ?_
                exact bk_223_105 (rl_p_I he)
              · have he := ite_n h26 he
                have hg := hg.2 h26
                have k28 := hg
                refine bk_223_77 k28 ?_
                exact bk_223_105 (rl_p_I he)
            · have he := ite_n h25 he
              have hg := hg.2 h25
              have k29 := hg
              refine bk_223_58 k29 ?_
              exact bk_223_105 (rl_p_I he)
        · have he := ite_n h21 he
          exact bk_223_43 (rl_p_I he)
end
