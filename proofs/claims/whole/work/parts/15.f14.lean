section
/-- VectorShelf.vector(IIII)I -/
def v_108 (I : WI) (x1 : Int32) (x2 : Int32) (x3 : Int32) (x4 : Int32) : Int32 × WI := (if (v_106 x1 x2 x3) = 0 then ((-2), I) else (if ¬ (v_107 x4 ((-99) : Int32) (99 : Int32)) = 0 then (if ¬ (I 1 4) = 0 then (if (I 1 8) < 12 then (bx ((v_55 I 1 x1 x2 x3 x4) : Int32 × WI) (fun p1 => (p1.1, p1.2))) else ((-4), I)) else ((-3), I)) else ((-2), I)))
def g_108 (I : WI) (x1 : Int32) (x2 : Int32) (x3 : Int32) (x4 : Int32) : Prop := (¬ ((v_106 x1 x2 x3) = 0) → ((¬ (v_107 x4 ((-99) : Int32) (99 : Int32)) = 0) → ((¬ (I 1 4) = 0) → (((I 1 8) < 12) → (g_55 I 1 x1 x2 x3 x4)))))
theorem cc_108 {l : LX} {d : Nat} {I : WI} {F : WF} {L : WL} {t : Nat} {x1 : Int32} {x2 : Int32} {x3 : Int32} {x4 : Int32} (hg : g_108 I x1 x2 x3 x4) : Con l 108 (d + 4) 0 0 [.ref 0, .int x1, .int x2, .int x3, .int x4] SH (I, F, L, RT t) (po_I_I F L t (v_108 I x1 x2 x3 x4)) := by
  refine cn_108 ?_
  obtain ⟨T1, hT1⟩ : ∃ r : Int32 × WI, r = (v_108 I x1 x2 x3 x4) := ⟨_, rfl⟩
  rw [← hT1]
  have he := (hT1.trans (v_108.eq_1 ..)).symm
  have hg := Eq.mp (g_108.eq_1 ..) hg
  refine bk_108_0 (cc_106 (d := d + 2) ) ?_
  refine bk_108_6 (fun h2 => ?_) (fun h2 => ?_)
  · have he := ite_p h2 he
    exact bk_108_21 (rl_I_I he)
  · have he := ite_n h2 he
    have hg := hg h2
    refine bk_108_9 (cc_107 (d := d + 3) ) ?_
    refine bk_108_18 (fun h4 => ?_) (fun h4 => ?_)
    · have he := ite_p h4 he
      have hg := hg h4
      refine bk_108_24 (fun h5 => ?_) (fun h5 => ?_)
      · have he := ite_p h5 he
        have hg := hg h5
        refine bk_108_37 (fun h6 => ?_) (fun h6 => ?_)
        · have he := ite_p h6 he
          have hg := hg h6
          have k7 := hg
          refine bk_108_54 (cq_I_I (cc_55 (d := d + 0) (by first | decide | (unfold isS; decide) | (unfold isS; omega)) k7)) ?_
          rintro _ _ _ _ _ ⟨p1, hr, rfl, rfl, rfl, rfl, rfl⟩
          have he := bx_eq hr he
          exact bk_108_66 (rl_I_I he)
        · have he := ite_n h6 he
          refine bk_108_49 ?_
          exact bk_108_66 (rl_I_I he)
      · have he := ite_n h5 he
        exact bk_108_34 (rl_I_I he)
    · have he := ite_n h4 he
      exact bk_108_21 (rl_I_I he)
/-- VectorShelf.judged(II)I -/
def v_114 (I : WI) (x1 : Int32) (x2 : Int32) : Int32 × WI := (bx ((v_115 I 1) : Nat) (fun p1 => (bx ((v_12 I 1 p1) : WI) (fun p2 => (if ¬ x2 = 9 then (if ¬ x2 = 10 then ((v_22 p2 1 x1), p2) else ((p2 37 x1.toNatClampNeg), p2)) else (if (v_20 p2 1 x1) = 0 then (0, p2) else (1, p2)))))))
def g_114 (I : WI) (x1 : Int32) (x2 : Int32) : Prop := ((g_115 I 1) ∧ ((isT (v_115 I 1)) ∧ (bx ((v_115 I 1) : Nat) (fun p1 => ((g_12 I 1 p1) ∧ (bx ((v_12 I 1 p1) : WI) (fun p2 => ((¬ x2 = 9) → (((¬ x2 = 10) → (g_22 p2 1 x1)) ∧ (¬ (¬ x2 = 10) → (vp_in x1 12)))))))))))
theorem cc_114 {l : LX} {d : Nat} {I : WI} {F : WF} {L : WL} {t : Nat} {x1 : Int32} {x2 : Int32} (hg : g_114 I x1 x2) : Con l 114 (d + 5) 0 0 [.ref 0, .int x1, .int x2] SH (I, F, L, RT t) (po_I_I F L t (v_114 I x1 x2)) := by
  refine cn_114 ?_
  obtain ⟨T1, hT1⟩ : ∃ r : Int32 × WI, r = (v_114 I x1 x2) := ⟨_, rfl⟩
  rw [← hT1]
  have he := (hT1.trans (v_114.eq_1 ..)).symm
  have hg := Eq.mp (g_114.eq_1 ..) hg
  obtain ⟨k1, hp1k, hg⟩ := hg
  obtain ⟨p1, hr⟩ : ∃ q : Nat, q = (v_115 I 1) := ⟨_, rfl⟩
  have hp1 : isT p1 := by rw [hr]; exact hp1k
  have he := bx_eq hr he
  have hg := bx_un hr hg
  refine bk_114_0 (show Con l 115 _ 0 0 _ SH _ (rR p1 _) from by rw [hr]; exact (cc_115 (d := d + 3) (by first | decide | (unfold isS; decide) | (unfold isS; omega)) k1)) ?_
  obtain ⟨k2, hg⟩ := hg
  refine bk_114_16 (cq_V_I (cc_12 (d := d + 0) (by first | decide | (unfold isS; decide) | (unfold isS; omega)) hp1 k2)) ?_
  rintro _ _ _ _ ⟨p2, hr, rfl, rfl, rfl, rfl⟩
  have he := bx_eq hr he
  have hg := bx_un hr hg
  refine bk_114_19 (fun h3 => ?_) (fun h3 => ?_)
  · have he := ite_p h3 he
    have hg := hg h3
    refine bk_114_46 (fun h4 => ?_) (fun h4 => ?_)
    · have he := ite_p h4 he
      have hg := hg.1 h4
      have k5 := hg
      refine bk_114_64 (cc_22 (d := d + 2) (by first | decide | (unfold isS; decide) | (unfold isS; omega)) k5) ?_
      exact bk_114_76 (rl_I_I he)
    · have he := ite_n h4 he
      have hg := hg.2 h4
      have k6 := hg
      refine bk_114_52 k6 ?_
      exact bk_114_76 (rl_I_I he)
  · have he := ite_n h3 he
    refine bk_114_25 (cc_20 (d := d + 3) (by first | decide | (unfold isS; decide) | (unfold isS; omega))) ?_
    refine bk_114_37 (fun h8 => ?_) (fun h8 => ?_)
    · have he := ite_p h8 he
      refine bk_114_44 ?_
      exact bk_114_45 (rl_I_I he)
    · have he := ite_n h8 he
      refine bk_114_40 ?_
      exact bk_114_45 (rl_I_I he)
/-- VectorShelf.fitting()I -/
def v_120 (I : WI) : Int32 × WI := (bx ((v_115 I 1) : Nat) (fun p1 => (bx ((v_12 I 1 p1) : WI) (fun p2 => ((v_21 p2 1), p2)))))
def g_120 (I : WI) : Prop := ((g_115 I 1) ∧ ((isT (v_115 I 1)) ∧ (bx ((v_115 I 1) : Nat) (fun p1 => (g_12 I 1 p1)))))
theorem cc_120 {l : LX} {d : Nat} {I : WI} {F : WF} {L : WL} {t : Nat} (hg : g_120 I) : Con l 120 (d + 5) 0 0 [.ref 0] SH (I, F, L, RT t) (po_I_I F L t (v_120 I)) := by
  refine cn_120 ?_
  obtain ⟨T1, hT1⟩ : ∃ r : Int32 × WI, r = (v_120 I) := ⟨_, rfl⟩
  rw [← hT1]
  have he := (hT1.trans (v_120.eq_1 ..)).symm
  have hg := Eq.mp (g_120.eq_1 ..) hg
  obtain ⟨k1, hp1k, hg⟩ := hg
  obtain ⟨p1, hr⟩ : ∃ q : Nat, q = (v_115 I 1) := ⟨_, rfl⟩
  have hp1 : isT p1 := by rw [hr]; exact hp1k
  have he := bx_eq hr he
  have hg := bx_un hr hg
  refine bk_120_0 (show Con l 115 _ 0 0 _ SH _ (rR p1 _) from by rw [hr]; exact (cc_115 (d := d + 3) (by first | decide | (unfold isS; decide) | (unfold isS; omega)) k1)) ?_
  have k2 := hg
  refine bk_120_16 (cq_V_I (cc_12 (d := d + 0) (by first | decide | (unfold isS; decide) | (unfold isS; omega)) hp1 k2)) ?_
  rintro _ _ _ _ ⟨p2, hr, rfl, rfl, rfl, rfl⟩
  have he := bx_eq hr he
  refine bk_120_19 (cc_21 (d := d + 4) (by first | decide | (unfold isS; decide) | (unfold isS; omega))) ?_
  exact bk_120_30 (rl_I_I he)
/-- the loop at 33 of VectorShelf.within -/
def lp_130_33 (I : WI) (x1 : Int32) (x3 : Int32) (a4 : Int32) : Nat → Int32
  | 0 => a4
  | k + 1 => bx (lp_130_33 I x1 x3 a4 k) (fun p2 => (bx ((if (v_111 x3 (nI k)) = 0 then p2 else (if x1 < (v_22 I 1 (nI k)) then p2 else (p2 ||| (1 <<< ((nI k) &&& 31))))) : Int32) (fun p3 => p3)))
def gl_130_33 (I : WI) (x1 : Int32) (x3 : Int32) (a4 : Int32) (N : Nat) : Prop := (∀ k, k < N → bx (lp_130_33 I x1 x3 a4 k) (fun p2 => (¬ ((v_111 x3 (nI k)) = 0) → (g_22 I 1 (nI k)))))
theorem lw_130_33 {l : LX} {d : Nat} {P : RP} {I : WI} {F : WF} {L : WL} {t : Nat} {x1 : Int32} {x2 : Int32} {x3 : Int32} {a4 : Int32} (hgl : gl_130_33 I x1 x3 a4 ((I 1 8).toNatClampNeg)) (hx : ∀ p2 : Int32, p2 = lp_130_33 I x1 x3 a4 ((I 1 8).toNatClampNeg) → Wp l 130 (d + 6) 0 0 P 0 0 86 [(2, .int x2), (4, .int p2)] [] SH (I, F, L, RT t)) : Wp l 130 (d + 6) 0 0 P 0 0 33 [(0, .ref 0), (1, .int x1), (2, .int x2), (3, .int x3), (4, .int a4), (5, .int 0)] [] SH (I, F, L, RT t) := by
  have hin := hgl
  have loop : ∀ m k, k + m = (I 1 8).toNatClampNeg → ∀ p2 : Int32, p2 = lp_130_33 I x1 x3 a4 k → Wp l 130 (d + 6) 0 0 P 0 0 33 [(0, .ref 0), (1, .int x1), (2, .int x2), (3, .int x3), (4, .int p2), (5, .int (nI k))] [] SH (I, F, L, RT t) := by
    intro m
    induction m with
    | zero =>
      intro k hk p2 hs
      obtain rfl : k = (I 1 8).toNatClampNeg := by omega
      exact bk_130_33  (fun _ => hx _ hs) (fun h => absurd ((le_cl (Nat.le_refl _)).mpr rfl) h)
    | succ m ih =>
      intro k hk p2 hs
      have hk2 : k < (I 1 8).toNatClampNeg := by omega
      have ih := ih (k + 1) (by omega)
      rw [nI_succ] at ih
      have he := bx_eq hs (lp_130_33.eq_2 ..).symm
      have hg := bx_un hs (hin k hk2)
      refine bk_130_33  (fun h => absurd ((le_cl (by omega)).mp h) (by omega)) (fun _ => ?_)
      refine bk_130_45 (cc_111 (d := d + 5) ) ?_
      have hgX := hg
      obtain ⟨X1, hX1⟩ : ∃ r : Int32, r = (if (v_111 x3 (nI k)) = 0 then p2 else (if x1 < (v_22 I 1 (nI k)) then p2 else (p2 ||| (1 <<< ((nI k) &&& 31))))) := ⟨_, rfl⟩
      have J1 : ∀ p3 : Int32, p3 = X1 → Wp l 130 (d + 6) 0 0 P 0 0 80 [(0, .ref 0), (1, .int x1), (2, .int x2), (3, .int x3), (4, .int p3), (5, .int (nI k))] [] SH (I, F, L, RT t) := by
        intro p3 hr
        have hr := hr.trans hX1
        have he := bx_eq hr he
        refine bk_130_80 ?_
        exact ih _ he
      have he := hX1.symm
      have hg := hgX
      refine bk_130_51 (fun h7 => ?_) (fun h7 => ?_)
      · have he := ite_p h7 he
        exact J1 _ he
      · have he := ite_n h7 he
        have hg := hg h7
        have k8 := hg
        refine bk_130_54 (cc_22 (d := d + 3) (by first | decide | (unfold isS; decide) | (unfold isS; omega)) k8) ?_
        refine bk_130_67 (fun h9 => ?_) (fun h9 => ?_)
        · have he := ite_p h9 he
          exact J1 _ he
        · have he := ite_n h9 he
          refine bk_130_71 ?_
          exact J1 _ he
  exact loop _ 0 (by omega) _ rfl
/-- VectorShelf.within(II)I -/
def v_130 (I : WI) (x1 : Int32) (x2 : Int32) : Int32 × WI := (if (v_107 x1 (0 : Int32) (999999999 : Int32)) = 0 then ((-2), I) else (if ¬ (v_107 x2 (0 : Int32) (1 : Int32)) = 0 then (bx ((v_120 I) : Int32 × WI) (fun p1 => (bx ((lp_130_33 p1.2 x1 p1.1 (0 : Int32) ((p1.2 1 8).toNatClampNeg)) : Int32) (fun p4 => (if ¬ x2 = 0 then (p4, p1.2) else ((v_286 p4), p1.2)))))) else ((-2), I)))
def g_130 (I : WI) (x1 : Int32) (x2 : Int32) : Prop := (¬ ((v_107 x1 (0 : Int32) (999999999 : Int32)) = 0) → ((¬ (v_107 x2 (0 : Int32) (1 : Int32)) = 0) → ((g_120 I) ∧ (bx ((v_120 I) : Int32 × WI) (fun p1 => (gl_130_33 p1.2 x1 p1.1 (0 : Int32) ((p1.2 1 8).toNatClampNeg)))))))
theorem cc_130 {l : LX} {d : Nat} {I : WI} {F : WF} {L : WL} {t : Nat} {x1 : Int32} {x2 : Int32} (hg : g_130 I x1 x2) : Con l 130 (d + 6) 0 0 [.ref 0, .int x1, .int x2] SH (I, F, L, RT t) (po_I_I F L t (v_130 I x1 x2)) := by
  refine cn_130 ?_
  obtain ⟨T1, hT1⟩ : ∃ r : Int32 × WI, r = (v_130 I x1 x2) := ⟨_, rfl⟩
  rw [← hT1]
  have he := (hT1.trans (v_130.eq_1 ..)).symm
  have hg := Eq.mp (g_130.eq_1 ..) hg
  refine bk_130_0 (cc_107 (d := d + 5) ) ?_
  refine bk_130_7 (fun h2 => ?_) (fun h2 => ?_)
  · have he := ite_p h2 he
    exact bk_130_19 (rl_I_I he)
  · have he := ite_n h2 he
    have hg := hg h2
    refine bk_130_10 (cc_107 (d := d + 5) ) ?_
    refine bk_130_16 (fun h4 => ?_) (fun h4 => ?_)
    · have he := ite_p h4 he
      have hg := hg h4
      obtain ⟨k5, hg⟩ := hg
      refine bk_130_22 (cq_I_I (cc_120 (d := d + 0)  k5)) ?_
      rintro _ _ _ _ _ ⟨p1, hr, rfl, rfl, rfl, rfl, rfl⟩
      have he := bx_eq hr he
      have hg := bx_un hr hg
      refine bk_130_26 ?_
      have hgX := hg
      refine lw_130_33 (d := d)  hgX (fun p4 hr => ?_)
      have he := bx_eq hr he
      refine bk_130_86 (fun h10 => ?_) (fun h10 => ?_)
      · have he := ite_p h10 he
        refine bk_130_98 ?_
        exact bk_130_100 (rl_I_I he)
      · have he := ite_n h10 he
        refine bk_130_90 (cc_286 (d := d + 5) ) ?_
        refine bk_130_95 ?_
        exact bk_130_100 (rl_I_I he)
    · have he := ite_n h4 he
      exact bk_130_19 (rl_I_I he)
/-- the loop at 45 of VectorShelf.rank -/
def lp_131_45 (I : WI) (x1 : Int32) (x2 : Int32) (x3 : Int32) (a4 : Int32) : Nat → Int32
  | 0 => a4
  | k + 1 => bx (lp_131_45 I x1 x2 x3 a4 k) (fun p2 => (bx ((if (v_111 x2 (nI k)) = 0 then p2 else (if (v_129 (v_22 I 1 (nI k)) (nI k) x3 x1) = 0 then p2 else (p2 + 1))) : Int32) (fun p3 => p3)))
def gl_131_45 (I : WI) (x1 : Int32) (x2 : Int32) (x3 : Int32) (a4 : Int32) (N : Nat) : Prop := (∀ k, k < N → bx (lp_131_45 I x1 x2 x3 a4 k) (fun p2 => (¬ ((v_111 x2 (nI k)) = 0) → (g_22 I 1 (nI k)))))
theorem lw_131_45 {l : LX} {d : Nat} {P : RP} {I : WI} {F : WF} {L : WL} {t : Nat} {x1 : Int32} {x2 : Int32} {x3 : Int32} {a4 : Int32} (hgl : gl_131_45 I x1 x2 x3 a4 ((I 1 8).toNatClampNeg)) (hx : ∀ p2 : Int32, p2 = lp_131_45 I x1 x2 x3 a4 ((I 1 8).toNatClampNeg) → Wp l 131 (d + 6) 0 0 P 0 0 98 [(4, .int p2)] [] SH (I, F, L, RT t)) : Wp l 131 (d + 6) 0 0 P 0 0 45 [(0, .ref 0), (1, .int x1), (2, .int x2), (3, .int x3), (4, .int a4), (5, .int 0)] [] SH (I, F, L, RT t) := by
  have hin := hgl
  have loop : ∀ m k, k + m = (I 1 8).toNatClampNeg → ∀ p2 : Int32, p2 = lp_131_45 I x1 x2 x3 a4 k → Wp l 131 (d + 6) 0 0 P 0 0 45 [(0, .ref 0), (1, .int x1), (2, .int x2), (3, .int x3), (4, .int p2), (5, .int (nI k))] [] SH (I, F, L, RT t) := by
    intro m
    induction m with
    | zero =>
      intro k hk p2 hs
      obtain rfl : k = (I 1 8).toNatClampNeg := by omega
      exact bk_131_45  (fun _ => hx _ hs) (fun h => absurd ((le_cl (Nat.le_refl _)).mpr rfl) h)
    | succ m ih =>
      intro k hk p2 hs
      have hk2 : k < (I 1 8).toNatClampNeg := by omega
      have ih := ih (k + 1) (by omega)
      rw [nI_succ] at ih
      have he := bx_eq hs (lp_131_45.eq_2 ..).symm
      have hg := bx_un hs (hin k hk2)
      refine bk_131_45  (fun h => absurd ((le_cl (by omega)).mp h) (by omega)) (fun _ => ?_)
      refine bk_131_57 (cc_111 (d := d + 5) ) ?_
      have hgX := hg
      obtain ⟨X1, hX1⟩ : ∃ r : Int32, r = (if (v_111 x2 (nI k)) = 0 then p2 else (if (v_129 (v_22 I 1 (nI k)) (nI k) x3 x1) = 0 then p2 else (p2 + 1))) := ⟨_, rfl⟩
      have J1 : ∀ p3 : Int32, p3 = X1 → Wp l 131 (d + 6) 0 0 P 0 0 92 [(0, .ref 0), (1, .int x1), (2, .int x2), (3, .int x3), (4, .int p3), (5, .int (nI k))] [] SH (I, F, L, RT t) := by
        intro p3 hr
        have hr := hr.trans hX1
        have he := bx_eq hr he
        refine bk_131_92 ?_
        exact ih _ he
      have he := hX1.symm
      have hg := hgX
      refine bk_131_63 (fun h8 => ?_) (fun h8 => ?_)
      · have he := ite_p h8 he
        exact J1 _ he
      · have he := ite_n h8 he
        have hg := hg h8
        have k9 := hg
        refine bk_131_66 (cc_22 (d := d + 3) (by first | decide | (unfold isS; decide) | (unfold isS; omega)) k9) ?_
        refine bk_131_79 (cc_129 (d := d + 5) ) ?_
        refine bk_131_86 (fun h11 => ?_) (fun h11 => ?_)
        · have he := ite_p h11 he
          exact J1 _ he
        · have he := ite_n h11 he
          refine bk_131_89 ?_
          exact J1 _ he
  exact loop _ 0 (by omega) _ rfl
/-- VectorShelf.rank(I)I -/
def v_131 (I : WI) (x1 : Int32) : Int32 × WI := (if ¬ (v_110 I x1) = 0 then (bx ((v_120 I) : Int32 × WI) (fun p1 => (if ¬ (v_111 p1.1 x1) = 0 then (bx ((lp_131_45 p1.2 x1 p1.1 (v_22 p1.2 1 x1) (0 : Int32) ((p1.2 1 8).toNatClampNeg)) : Int32) (fun p4 => (p4, p1.2))) else ((-1), p1.2)))) else ((-2), I))
def g_131 (I : WI) (x1 : Int32) : Prop := ((¬ (v_110 I x1) = 0) → ((g_120 I) ∧ (bx ((v_120 I) : Int32 × WI) (fun p1 => ((¬ (v_111 p1.1 x1) = 0) → ((g_22 p1.2 1 x1) ∧ (gl_131_45 p1.2 x1 p1.1 (v_22 p1.2 1 x1) (0 : Int32) ((p1.2 1 8).toNatClampNeg))))))))
theorem cc_131 {l : LX} {d : Nat} {I : WI} {F : WF} {L : WL} {t : Nat} {x1 : Int32} (hg : g_131 I x1) : Con l 131 (d + 6) 0 0 [.ref 0, .int x1] SH (I, F, L, RT t) (po_I_I F L t (v_131 I x1)) := by
  refine cn_131 ?_
  obtain ⟨T1, hT1⟩ : ∃ r : Int32 × WI, r = (v_131 I x1) := ⟨_, rfl⟩
  rw [← hT1]
  have he := (hT1.trans (v_131.eq_1 ..)).symm
  have hg := Eq.mp (g_131.eq_1 ..) hg
  refine bk_131_0 (cc_110 (d := d + 4) ) ?_
  refine bk_131_5 (fun h2 => ?_) (fun h2 => ?_)
  · have he := ite_p h2 he
    have hg := hg h2
    obtain ⟨k3, hg⟩ := hg
    refine bk_131_11 (cq_I_I (cc_120 (d := d + 0)  k3)) ?_
    rintro _ _ _ _ _ ⟨p1, hr, rfl, rfl, rfl, rfl, rfl⟩
    have he := bx_eq hr he
    have hg := bx_un hr hg
    refine bk_131_15 (cc_111 (d := d + 5) ) ?_
    refine bk_131_21 (fun h5 => ?_) (fun h5 => ?_)
    · have he := ite_p h5 he
      have hg := hg h5
      obtain ⟨k6, hg⟩ := hg
      refine bk_131_26 (cc_22 (d := d + 3) (by first | decide | (unfold isS; decide) | (unfold isS; omega)) k6) ?_
      refine bk_131_38 ?_
      have hgX := hg
      refine lw_131_45 (d := d)  hgX (fun p4 hr => ?_)
      have he := bx_eq hr he
      exact bk_131_98 (rl_I_I he)
    · have he := ite_n h5 he
      exact bk_131_24 (rl_I_I he)
  · have he := ite_n h2 he
    exact bk_131_8 (rl_I_I he)
/-- VectorShelf.partOfTwo(IZ)I -/
def v_134 (I : WI) (x1 : Int32) (x2 : Int32) : Int32 := (if ¬ (v_3 I 1 x2) = (-1) then (if ¬ x1 = 2 then (if ¬ x1 = 0 then ((v_3 I 1 x2) - (v_3 I 1 x2) / 12 * 12) else ((v_3 I 1 x2) / 12)) else (v_4 I 1 ((v_3 I 1 x2) / 12) ((v_3 I 1 x2) - (v_3 I 1 x2) / 12 * 12) x2)) else (-1))
def g_134 (I : WI) (x1 : Int32) (x2 : Int32) : Prop := ((g_3 I 1 x2) ∧ ((¬ (v_3 I 1 x2) = (-1)) → (¬ (¬ x1 = 2) → (g_4 I 1 ((v_3 I 1 x2) / 12) ((v_3 I 1 x2) - (v_3 I 1 x2) / 12 * 12) x2))))
theorem cc_134 {l : LX} {d : Nat} {I : WI} {F : WF} {L : WL} {t : Nat} {x1 : Int32} {x2 : Int32} (hg : g_134 I x1 x2) : Con l 134 (d + 5) 0 0 [.ref 0, .int x1, .int x2] SH (I, F, L, RT t) (rI (v_134 I x1 x2) (I, F, L, RT t)) := by
  refine cn_134 ?_
  obtain ⟨T1, hT1⟩ : ∃ r : Int32, r = (v_134 I x1 x2) := ⟨_, rfl⟩
  rw [← hT1]
  have he := (hT1.trans (v_134.eq_1 ..)).symm
  have hg := Eq.mp (g_134.eq_1 ..) hg
  obtain ⟨k1, hg⟩ := hg
  refine bk_134_0 (cc_3 (d := d + 0) (by first | decide | (unfold isS; decide) | (unfold isS; omega)) k1) ?_
  refine bk_134_12 (fun h2 => ?_) (fun h2 => ?_)
  · have he := ite_p h2 he
    have hg := hg h2
    refine bk_134_20 (fun h3 => ?_) (fun h3 => ?_)
    · have he := ite_p h3 he
      refine bk_134_54 (fun h4 => ?_) (fun h4 => ?_)
      · have he := ite_p h4 he
        refine bk_134_63 ?_
        exact bk_134_65 (rl_p_I he)
      · have he := ite_n h4 he
        refine bk_134_58 ?_
        exact bk_134_65 (rl_p_I he)
    · have he := ite_n h3 he
      have hg := hg h3
      have k5 := hg
      refine bk_134_37 (cc_4 (d := d + 1) (by first | decide | (unfold isS; decide) | (unfold isS; omega)) k5) ?_
      exact bk_134_53 (rl_p_I he)
  · have he := ite_n h2 he
    exact bk_134_18 (rl_p_I he)
/-- VectorShelf.two(I)I -/
def v_135 (I : WI) (x1 : Int32) : Int32 := (if (v_107 x1 (0 : Int32) (2 : Int32)) = 0 then (-2) else (v_134 I x1 (1 : Int32)))
def g_135 (I : WI) (x1 : Int32) : Prop := (¬ ((v_107 x1 (0 : Int32) (2 : Int32)) = 0) → (g_134 I x1 (1 : Int32)))
theorem cc_135 {l : LX} {d : Nat} {I : WI} {F : WF} {L : WL} {t : Nat} {x1 : Int32} (hg : g_135 I x1) : Con l 135 (d + 6) 0 0 [.ref 0, .int x1] SH (I, F, L, RT t) (rI (v_135 I x1) (I, F, L, RT t)) := by
  refine cn_135 ?_
  obtain ⟨T1, hT1⟩ : ∃ r : Int32, r = (v_135 I x1) := ⟨_, rfl⟩
  rw [← hT1]
  have he := (hT1.trans (v_135.eq_1 ..)).symm
  have hg := Eq.mp (g_135.eq_1 ..) hg
  refine bk_135_0 (cc_107 (d := d + 5) ) ?_
  refine bk_135_6 (fun h2 => ?_) (fun h2 => ?_)
  · have he := ite_p h2 he
    refine bk_135_18 ?_
    exact bk_135_20 (rl_p_I he)
  · have he := ite_n h2 he
    have hg := hg h2
    have k3 := hg
    refine bk_135_9 (cc_134 (d := d + 0)  k3) ?_
    refine bk_135_15 ?_
    exact bk_135_20 (rl_p_I he)
/-- VectorShelf.cover(II)I -/
def v_137 (I : WI) (x1 : Int32) (x2 : Int32) : Int32 × WI := (if (v_107 x1 (0 : Int32) (999999999 : Int32)) = 0 then ((-2), I) else (if ¬ (v_107 x2 (0 : Int32) (1 : Int32)) = 0 then (bx ((v_8 I 1 x1) : Int32 × WI) (fun p1 => (if x2 = 1 then (p1.1, p1.2) else (if ¬ p1.1 = (-1) then ((v_286 p1.1), p1.2) else (p1.1, p1.2))))) else ((-2), I)))
def g_137 (I : WI) (x1 : Int32) (x2 : Int32) : Prop := (¬ ((v_107 x1 (0 : Int32) (999999999 : Int32)) = 0) → ((¬ (v_107 x2 (0 : Int32) (1 : Int32)) = 0) → (g_8 I 1 x1)))
theorem cc_137 {l : LX} {d : Nat} {I : WI} {F : WF} {L : WL} {t : Nat} {x1 : Int32} {x2 : Int32} (hg : g_137 I x1 x2) : Con l 137 (d + 5) 0 0 [.ref 0, .int x1, .int x2] SH (I, F, L, RT t) (po_I_I F L t (v_137 I x1 x2)) := by
  refine cn_137 ?_
  obtain ⟨T1, hT1⟩ : ∃ r : Int32 × WI, r = (v_137 I x1 x2) := ⟨_, rfl⟩
  rw [← hT1]
  have he := (hT1.trans (v_137.eq_1 ..)).symm
  have hg := Eq.mp (g_137.eq_1 ..) hg
  refine bk_137_0 (cc_107 (d := d + 4) ) ?_
  refine bk_137_7 (fun h2 => ?_) (fun h2 => ?_)
  · have he := ite_p h2 he
    exact bk_137_19 (rl_I_I he)
  · have he := ite_n h2 he
    have hg := hg h2
    refine bk_137_10 (cc_107 (d := d + 4) ) ?_
    refine bk_137_16 (fun h4 => ?_) (fun h4 => ?_)
    · have he := ite_p h4 he
      have hg := hg h4
      have k5 := hg
      refine bk_137_22 (cq_I_I (cc_8 (d := d + 0) (by first | decide | (unfold isS; decide) | (unfold isS; omega)) k5)) ?_
      rintro _ _ _ _ _ ⟨p1, hr, rfl, rfl, rfl, rfl, rfl⟩
      have he := bx_eq hr he
      refine bk_137_34 (fun h6 => ?_) (fun h6 => ?_)
      · have he := ite_p h6 he
        refine bk_137_45 ?_
        exact bk_137_53 (rl_I_I he)
      · have he := ite_n h6 he
        refine bk_137_40 (fun h7 => ?_) (fun h7 => ?_)
        · have he := ite_p h7 he
          refine bk_137_49 (cc_286 (d := d + 4) ) ?_
          exact bk_137_53 (rl_I_I he)
        · have he := ite_n h7 he
          refine bk_137_45 ?_
          exact bk_137_53 (rl_I_I he)
    · have he := ite_n h4 he
      exact bk_137_19 (rl_I_I he)
/-- the loop at 68 of VectorShelf.goes -/
def lp_139_68 (x1 : Int32) (x2 : Int32) (x3 : Int32) : Nat → Int32 → WI → Int32 × WI
  | 0, x4, I => (0, I)
  | k + 1, x4, I => (if 40 < x4 then ((-1), I) else (if ¬ (v_107 ((I 4 x1.toNatClampNeg) + (x4 * x2)) ((-999) : Int32) (999 : Int32)) = 0 then (if (v_23 (up2 I 24 x1.toNatClampNeg ((I 4 x1.toNatClampNeg) + (x4 * x2))) 21) = x3 then (lp_139_68 x1 x2 x3 k (x4 + 1) (up2 I 24 x1.toNatClampNeg ((I 4 x1.toNatClampNeg) + (x4 * x2)))) else (x4, (up2 I 24 x1.toNatClampNeg ((I 4 x1.toNatClampNeg) + (x4 * x2))))) else ((-1), I)))
def gl_139_68 (x1 : Int32) (x2 : Int32) (x3 : Int32) : Nat → Int32 → WI → Prop
  | 0, _, _ => False
  | k + 1, x4, I => (¬ (40 < x4) → ((vp_in x1 3) ∧ ((¬ (v_107 ((I 4 x1.toNatClampNeg) + (x4 * x2)) ((-999) : Int32) (999 : Int32)) = 0) → ((vp_in x1 3) ∧ ((g_23 (up2 I 24 x1.toNatClampNeg ((I 4 x1.toNatClampNeg) + (x4 * x2))) 21) ∧ (((v_23 (up2 I 24 x1.toNatClampNeg ((I 4 x1.toNatClampNeg) + (x4 * x2))) 21) = x3) → (gl_139_68 x1 x2 x3 k (x4 + 1) (up2 I 24 x1.toNatClampNeg ((I 4 x1.toNatClampNeg) + (x4 * x2))))))))))
theorem lw_139_68 {l : LX} {d : Nat} {F : WF} {L : WL} {t : Nat} {x1 : Int32} {x2 : Int32} {x3 : Int32} : ∀ k : Nat, ∀ (x4 : Int32) (I : WI), gl_139_68 x1 x2 x3 k x4 I → Wp l 139 (d + 5) 0 0 (po_I_I F L t (lp_139_68 x1 x2 x3 k x4 I)) 0 0 68 [(0, .ref 0), (1, .int x1), (2, .int x2), (3, .int x3), (4, .int x4)] [] SH (I, F, L, RT t) := by
  intro k
  induction k with
  | zero =>
    intro x4 I hg
    exact hg.elim
  | succ k ih =>
    intro x4 I hg
    have hg := Eq.mp (gl_139_68.eq_2 ..) hg
    obtain ⟨T1, hT1⟩ : ∃ r : Int32 × WI, r = lp_139_68 x1 x2 x3 (k + 1) x4 I := ⟨_, rfl⟩
    rw [← hT1]
    have he := (hT1.trans (lp_139_68.eq_2 ..)).symm
    refine bk_139_68 (fun h9 => ?_) (fun h9 => ?_)
    · have he := ite_p h9 he
      exact bk_139_142 (rl_I_I he)
    · have he := ite_n h9 he
      have hg := hg h9
      obtain ⟨k10, hg⟩ := hg
      refine bk_139_75 k10 (cc_107 (d := d + 4) ) ?_
      refine bk_139_102 (fun h12 => ?_) (fun h12 => ?_)
      · have he := ite_p h12 he
        have hg := hg h12
        obtain ⟨k13, k14, hg⟩ := hg
        refine bk_139_107 k13 (cc_23 (d := d + 1) (by first | decide | (unfold isS; decide) | (unfold isS; omega)) k14) ?_
        refine bk_139_129 (fun h15 => ?_) (fun h15 => ?_)
        · have he := ite_p h15 he
          have hg := hg h15
          refine bk_139_136 ?_
          exact Wp_eq (post := fun r => (po_I_I F L t r)) he (ih _ _ hg)
        · have he := ite_n h15 he
          exact bk_139_133 (rl_I_I he)
      · have he := ite_n h12 he
        exact bk_139_105 (rl_I_I he)
/-- VectorShelf.goes(II)I -/
def v_139 (I : WI) (x1 : Int32) (x2 : Int32) : Int32 × WI := (if (v_107 x1 (0 : Int32) (2 : Int32)) = 0 then ((-2), I) else (if ¬ (v_107 x2 ((-99) : Int32) (99 : Int32)) = 0 then (bx ((v_115 I 1) : Nat) (fun p1 => (bx ((v_12 I 1 p1) : WI) (fun p2 => (bx ((v_76 p2 21 1) : WI) (fun p3 => (lp_139_68 x1 x2 (v_23 p2 1) 400 (1 : Int32) p3))))))) else ((-2), I)))
def g_139 (I : WI) (x1 : Int32) (x2 : Int32) : Prop := (¬ ((v_107 x1 (0 : Int32) (2 : Int32)) = 0) → ((¬ (v_107 x2 ((-99) : Int32) (99 : Int32)) = 0) → ((g_115 I 1) ∧ ((isT (v_115 I 1)) ∧ (bx ((v_115 I 1) : Nat) (fun p1 => ((g_12 I 1 p1) ∧ (bx ((v_12 I 1 p1) : WI) (fun p2 => ((g_23 p2 1) ∧ (bx ((v_76 p2 21 1) : WI) (fun p3 => (gl_139_68 x1 x2 (v_23 p2 1) 400 (1 : Int32) p3)))))))))))))
theorem cc_139 {l : LX} {d : Nat} {I : WI} {F : WF} {L : WL} {t : Nat} {x1 : Int32} {x2 : Int32} (hg : g_139 I x1 x2) : Con l 139 (d + 5) 0 0 [.ref 0, .int x1, .int x2] SH (I, F, L, RT t) (po_I_I F L t (v_139 I x1 x2)) := by
  refine cn_139 ?_
  obtain ⟨T1, hT1⟩ : ∃ r : Int32 × WI, r = (v_139 I x1 x2) := ⟨_, rfl⟩
  rw [← hT1]
  have he := (hT1.trans (v_139.eq_1 ..)).symm
  have hg := Eq.mp (g_139.eq_1 ..) hg
  refine bk_139_0 (cc_107 (d := d + 4) ) ?_
  refine bk_139_6 (fun h2 => ?_) (fun h2 => ?_)
  · have he := ite_p h2 he
    exact bk_139_20 (rl_I_I he)
  · have he := ite_n h2 he
    have hg := hg h2
    refine bk_139_9 (cc_107 (d := d + 4) ) ?_
    refine bk_139_17 (fun h4 => ?_) (fun h4 => ?_)
    · have he := ite_p h4 he
      have hg := hg h4
      obtain ⟨k5, hp1k, hg⟩ := hg
      obtain ⟨p1, hr⟩ : ∃ q : Nat, q = (v_115 I 1) := ⟨_, rfl⟩
      have hp1 : isT p1 := by rw [hr]; exact hp1k
      have he := bx_eq hr he
      have hg := bx_un hr hg
      refine bk_139_23 (show Con l 115 _ 0 0 _ SH _ (rR p1 _) from by rw [hr]; exact (cc_115 (d := d + 3) (by first | decide | (unfold isS; decide) | (unfold isS; omega)) k5)) ?_
      obtain ⟨k6, hg⟩ := hg
      refine bk_139_39 (cq_V_I (cc_12 (d := d + 0) (by first | decide | (unfold isS; decide) | (unfold isS; omega)) hp1 k6)) ?_
      rintro _ _ _ _ ⟨p2, hr, rfl, rfl, rfl, rfl⟩
      have he := bx_eq hr he
      have hg := bx_un hr hg
      obtain ⟨k7, hg⟩ := hg
      refine bk_139_42 (cc_23 (d := d + 1) (by first | decide | (unfold isS; decide) | (unfold isS; omega)) k7) ?_
      refine bk_139_53 (cq_V_I (cc_76 (d := d + 2) (by first | decide | (unfold isS; decide) | (unfold isS; omega)) (by first | decide | (unfold isS; decide) | (unfold isS; omega)))) ?_
      rintro _ _ _ _ ⟨p3, hr, rfl, rfl, rfl, rfl⟩
      have he := bx_eq hr he
      have hg := bx_un hr hg
      refine bk_139_65 ?_
      exact Wp_eq (post := fun r => (po_I_I F L t r)) he (lw_139_68 (d := d)  400 _ _ hg)
    · have he := ite_n h4 he
      exact bk_139_20 (rl_I_I he)
/-- the loop at 4 of VectorShelf.textsTelling -/
def lp_149_4 (I : WI) (F : WF) (r1 : Nat) (a2 : Int32) : Nat → Int32 × WI
  | 0 => (a2, I)
  | k + 1 => bx (lp_149_4 I F r1 a2 k) (fun p1 => (bx ((45 + 2 * ((nI k).toNatClampNeg)) : Nat) (fun p2 => (bx ((v_12 p1.2 21 p2) : WI) (fun p3 => (bx ((v_147 p3 F r1) : Int32 × WI) (fun p4 => (bx ((if ¬ p4.1 = (-1) then p1.1 else (p1.1 ||| (1 <<< ((nI k) &&& 31)))) : Int32) (fun p5 => (p5, p4.2))))))))))
def gl_149_4 (I : WI) (F : WF) (r1 : Nat) (a2 : Int32) (N : Nat) : Prop := ((∀ k, k < N → bx (lp_149_4 I F r1 a2 k) (fun p1 => (((p1.2 0 9) = (I 0 9)) ∧ ((vp_in (nI k) 6) ∧ (bx ((45 + 2 * ((nI k).toNatClampNeg)) : Nat) (fun p2 => ((g_12 p1.2 21 p2) ∧ (bx ((v_12 p1.2 21 p2) : WI) (fun p3 => (g_147 p3 F r1)))))))))) ∧ (bx (lp_149_4 I F r1 a2 N) (fun p1 => (p1.2 0 9) = (I 0 9))))
theorem lw_149_4 {l : LX} {d : Nat} {P : RP} {I : WI} {F : WF} {L : WL} {t : Nat} {r1 : Nat} {a2 : Int32} (hr1 : isH r1) (hgl : gl_149_4 I F r1 a2 ((I 0 9).toNatClampNeg)) (hx : ∀ p1 : Int32 × WI, p1 = lp_149_4 I F r1 a2 ((I 0 9).toNatClampNeg) → Wp l 149 (d + 5) 0 0 P 0 0 50 [(2, .int p1.1)] [] SH (p1.2, F, L, RT t)) : Wp l 149 (d + 5) 0 0 P 0 0 4 [(0, .ref 0), (1, .ref r1), (2, .int a2), (3, .int 0)] [] SH (I, F, L, RT t) := by
  obtain ⟨hin, hend⟩ := hgl
  have loop : ∀ m k, k + m = (I 0 9).toNatClampNeg → ∀ p1 : Int32 × WI, p1 = lp_149_4 I F r1 a2 k → Wp l 149 (d + 5) 0 0 P 0 0 4 [(0, .ref 0), (1, .ref r1), (2, .int p1.1), (3, .int (nI k))] [] SH (p1.2, F, L, RT t) := by
    intro m
    induction m with
    | zero =>
      intro k hk p1 hs
      obtain rfl : k = (I 0 9).toNatClampNeg := by omega
      have hE := bx_un hs hend
      exact bk_149_4  (fun _ => hx _ hs) (fun h => absurd ((show (p1.2 0 9) ≤ (nI ((I 0 9).toNatClampNeg)) from by rw [show (p1.2 0 9) = (I 0 9) from hE]; exact (le_cl (Nat.le_refl _)).mpr rfl)) h)
    | succ m ih =>
      intro k hk p1 hs
      have hk2 : k < (I 0 9).toNatClampNeg := by omega
      have ih := ih (k + 1) (by omega)
      rw [nI_succ] at ih
      have he := bx_eq hs (lp_149_4.eq_2 ..).symm
      have hg := bx_un hs (hin k hk2)
      have hE : (p1.2 0 9) = (I 0 9) := hg.1
      have hg := hg.2
      refine bk_149_4  (fun h => absurd ((le_cl (by omega)).mp (by rw [show (p1.2 0 9) = (I 0 9) from hE] at h; exact h)) (by omega)) (fun _ => ?_)
      obtain ⟨k1, hg⟩ := hg
      obtain ⟨p2, hnp2⟩ : ∃ q : Nat, q = (45 + 2 * ((nI k).toNatClampNeg)) := ⟨_, rfl⟩
      have hp2 : isT p2 := by rw [hnp2]; exact isT_at k1
      have he := bx_eq hnp2 he
      have hg := bx_un hnp2 hg
      refine bk_149_12 k1 (by rw [hnp2]; exact RT_at44 k1) ?_
      obtain ⟨k2, hg⟩ := hg
      refine bk_149_26 (cq_V_I (cc_12 (d := d + 0) (by first | decide | (unfold isS; decide) | (unfold isS; omega)) hp2 k2)) ?_
      rintro _ _ _ _ ⟨p3, hr, rfl, rfl, rfl, rfl⟩
      have he := bx_eq hr he
      have hg := bx_un hr hg
      have k3 := hg
      refine bk_149_29 (cq_I_I (cc_147 (d := d + 0) hr1 k3)) ?_
      rintro _ _ _ _ _ ⟨p4, hr, rfl, rfl, rfl, rfl, rfl⟩
      have he := bx_eq hr he
      obtain ⟨X1, hX1⟩ : ∃ r : Int32, r = (if ¬ p4.1 = (-1) then p1.1 else (p1.1 ||| (1 <<< ((nI k) &&& 31)))) := ⟨_, rfl⟩
      have J1 : ∀ p5 : Int32, p5 = X1 → Wp l 149 (d + 5) 0 0 P 0 0 44 [(0, .ref 0), (1, .ref r1), (2, .int p5), (3, .int (nI k))] [] SH (p4.2, F, L, RT t) := by
        intro p5 hr
        have hr := hr.trans hX1
        have he := bx_eq hr he
        refine bk_149_44 ?_
        exact ih _ he
      have he := hX1.symm
      refine bk_149_34 (fun h4 => ?_) (fun h4 => ?_)
      · have he := ite_p h4 he
        exact J1 _ he
      · have he := ite_n h4 he
        refine bk_149_38 ?_
        exact J1 _ he
  exact loop _ 0 (by omega) _ rfl
/-- VectorShelf.textsTelling(LVectorShelf$Sheet;)I -/
def v_149 (I : WI) (F : WF) (r1 : Nat) : Int32 × WI := (bx ((lp_149_4 I F r1 (0 : Int32) ((I 0 9).toNatClampNeg)) : Int32 × WI) (fun p6 => (p6.1, p6.2)))
def g_149 (I : WI) (F : WF) (r1 : Nat) : Prop := (gl_149_4 I F r1 (0 : Int32) ((I 0 9).toNatClampNeg))
theorem cc_149 {l : LX} {d : Nat} {I : WI} {F : WF} {L : WL} {t : Nat} {r1 : Nat} (hr1 : isH r1) (hg : g_149 I F r1) : Con l 149 (d + 5) 0 0 [.ref 0, .ref r1] SH (I, F, L, RT t) (po_I_I F L t (v_149 I F r1)) := by
  refine cn_149 ?_
  obtain ⟨T1, hT1⟩ : ∃ r : Int32 × WI, r = (v_149 I F r1) := ⟨_, rfl⟩
  rw [← hT1]
  have he := (hT1.trans (v_149.eq_1 ..)).symm
  have hg := Eq.mp (g_149.eq_1 ..) hg
  refine bk_149_0 ?_
  have hgX := hg
  refine lw_149_4 (d := d) hr1 hgX (fun p6 hr => ?_)
  have he := bx_eq hr he
  exact bk_149_50 (rl_I_I he)
/-- the loop at 66 of VectorShelf.film -/
def lp_152_66 (I : WI) (F : WF) (v3 : Nat) : Nat → WI × WF
  | 0 => (I, F)
  | k + 1 => bx (lp_152_66 I F v3 k) (fun p6 => (bx ((v_78 p6.1 21 (nI k)) : WI) (fun p7 => (bx ((v_47 p7 p6.2 v3 (nI k) (v_23 p7 21)) : WI × WF) (fun p8 => (p8.1, p8.2))))))
def gl_152_66 (I : WI) (F : WF) (v3 : Nat) (N : Nat) : Prop := (∀ k, k < N → bx (lp_152_66 I F v3 k) (fun p6 => ((g_78 p6.1 21 (nI k)) ∧ (bx ((v_78 p6.1 21 (nI k)) : WI) (fun p7 => ((g_23 p7 21) ∧ (g_47 p7 v3 (nI k) (v_23 p7 21))))))))
theorem lw_152_66 {l : LX} {d : Nat} {P : RP} {I : WI} {F : WF} {L : WL} {t : Nat} {x2 : Int32} {v3 : Nat} (hv3 : isH v3) (hgl : gl_152_66 I F v3 x2.toNatClampNeg) (hx : ∀ p6 : WI × WF, p6 = lp_152_66 I F v3 x2.toNatClampNeg → Wp l 152 (d + 5) 0 0 P 0 0 104 [(2, .int x2)] [] SH (p6.1, p6.2, L, RT t)) : Wp l 152 (d + 5) 0 0 P 0 0 66 [(0, .ref 0), (2, .int x2), (3, .ref v3), (4, .int 0)] [] SH (I, F, L, RT t) := by
  have hin := hgl
  have loop : ∀ m k, k + m = x2.toNatClampNeg → ∀ p6 : WI × WF, p6 = lp_152_66 I F v3 k → Wp l 152 (d + 5) 0 0 P 0 0 66 [(0, .ref 0), (2, .int x2), (3, .ref v3), (4, .int (nI k))] [] SH (p6.1, p6.2, L, RT t) := by
    intro m
    induction m with
    | zero =>
      intro k hk p6 hs
      obtain rfl : k = x2.toNatClampNeg := by omega
      exact bk_152_66  (fun _ => hx _ hs) (fun h => absurd ((le_cl (Nat.le_refl _)).mpr rfl) h)
    | succ m ih =>
      intro k hk p6 hs
      have hk2 : k < x2.toNatClampNeg := by omega
      have ih := ih (k + 1) (by omega)
      rw [nI_succ] at ih
      have he := bx_eq hs (lp_152_66.eq_2 ..).symm
      have hg := bx_un hs (hin k hk2)
      refine bk_152_66  (fun h => absurd ((le_cl (by omega)).mp h) (by omega)) (fun _ => ?_)
      obtain ⟨k10, hg⟩ := hg
      refine bk_152_72 (cq_V_I (cc_78 (d := d + 3) (by first | decide | (unfold isS; decide) | (unfold isS; omega)) k10)) ?_
      rintro _ _ _ _ ⟨p7, hr, rfl, rfl, rfl, rfl⟩
      have he := bx_eq hr he
      have hg := bx_un hr hg
      obtain ⟨k11, hg⟩ := hg
      refine bk_152_81 (cc_23 (d := d + 1) (by first | decide | (unfold isS; decide) | (unfold isS; omega)) k11) ?_
      have k12 := hg
      refine bk_152_95 hv3 (cq_V_IF (cc_47 (d := d + 4) hv3 k12)) ?_
      rintro _ _ _ _ ⟨p8, hr, rfl, rfl, rfl, rfl⟩
      have he := bx_eq hr he
      refine bk_152_98 ?_
      exact ih _ he
  exact loop _ 0 (by omega) _ rfl
/-- VectorShelf.film(II)I -/
def v_152 (I : WI) (F : WF) (x1 : Int32) (x2 : Int32) : Int32 × WI × WF := (if (v_146 x1) = 0 then ((-2), I, F) else (if ¬ (v_107 x2 (0 : Int32) (12 : Int32)) = 0 then (bx ((v_115 I 1) : Nat) (fun p1 => (bx ((v_12 I 1 p1) : WI) (fun p2 => (bx ((v_76 p2 21 1) : WI) (fun p3 => (bx ((58 + 4 * x1.toNatClampNeg) : Nat) (fun p4 => (bx ((v_46 p3 F p4 (2 : Int32) x2) : WI × WF) (fun p5 => (bx ((lp_152_66 p5.1 p5.2 p4 x2.toNatClampNeg) : WI × WF) (fun p9 => (x2, p9.1, p9.2))))))))))))) else ((-2), I, F)))
def g_152 (I : WI) (F : WF) (x1 : Int32) (x2 : Int32) : Prop := (¬ ((v_146 x1) = 0) → ((¬ (v_107 x2 (0 : Int32) (12 : Int32)) = 0) → ((g_115 I 1) ∧ ((isT (v_115 I 1)) ∧ (bx ((v_115 I 1) : Nat) (fun p1 => ((g_12 I 1 p1) ∧ (bx ((v_12 I 1 p1) : WI) (fun p2 => (bx ((v_76 p2 21 1) : WI) (fun p3 => ((vp_in x1 4) ∧ (bx ((58 + 4 * x1.toNatClampNeg) : Nat) (fun p4 => ((g_46 p3 F p4 (2 : Int32) x2) ∧ (bx ((v_46 p3 F p4 (2 : Int32) x2) : WI × WF) (fun p5 => (gl_152_66 p5.1 p5.2 p4 x2.toNatClampNeg))))))))))))))))))
theorem cc_152 {l : LX} {d : Nat} {I : WI} {F : WF} {L : WL} {t : Nat} {x1 : Int32} {x2 : Int32} (hg : g_152 I F x1 x2) : Con l 152 (d + 5) 0 0 [.ref 0, .int x1, .int x2] SH (I, F, L, RT t) (po_I_IF L t (v_152 I F x1 x2)) := by
  refine cn_152 ?_
  obtain ⟨T1, hT1⟩ : ∃ r : Int32 × WI × WF, r = (v_152 I F x1 x2) := ⟨_, rfl⟩
  rw [← hT1]
  have he := (hT1.trans (v_152.eq_1 ..)).symm
  have hg := Eq.mp (g_152.eq_1 ..) hg
  refine bk_152_0 (cc_146 (d := d + 3) ) ?_
  refine bk_152_4 (fun h2 => ?_) (fun h2 => ?_)
  · have he := ite_p h2 he
    exact bk_152_17 (rl_I_IF he)
  · have he := ite_n h2 he
    have hg := hg h2
    refine bk_152_7 (cc_107 (d := d + 4) ) ?_
    refine bk_152_14 (fun h4 => ?_) (fun h4 => ?_)
    · have he := ite_p h4 he
      have hg := hg h4
      obtain ⟨k5, hp1k, hg⟩ := hg
      obtain ⟨p1, hr⟩ : ∃ q : Nat, q = (v_115 I 1) := ⟨_, rfl⟩
      have hp1 : isT p1 := by rw [hr]; exact hp1k
      have he := bx_eq hr he
      have hg := bx_un hr hg
      refine bk_152_20 (show Con l 115 _ 0 0 _ SH _ (rR p1 _) from by rw [hr]; exact (cc_115 (d := d + 3) (by first | decide | (unfold isS; decide) | (unfold isS; omega)) k5)) ?_
      obtain ⟨k6, hg⟩ := hg
      refine bk_152_36 (cq_V_I (cc_12 (d := d + 0) (by first | decide | (unfold isS; decide) | (unfold isS; omega)) hp1 k6)) ?_
      rintro _ _ _ _ ⟨p2, hr, rfl, rfl, rfl, rfl⟩
      have he := bx_eq hr he
      have hg := bx_un hr hg
      refine bk_152_39 (cq_V_I (cc_76 (d := d + 2) (by first | decide | (unfold isS; decide) | (unfold isS; omega)) (by first | decide | (unfold isS; decide) | (unfold isS; omega)))) ?_
      rintro _ _ _ _ ⟨p3, hr, rfl, rfl, rfl, rfl⟩
      have he := bx_eq hr he
      have hg := bx_un hr hg
      obtain ⟨k8, hg⟩ := hg
      obtain ⟨p4, hnp4⟩ : ∃ q : Nat, q = (58 + 4 * x1.toNatClampNeg) := ⟨_, rfl⟩
      have hp4 : isH p4 := by rw [hnp4]; exact isH_at k8
      have he := bx_eq hnp4 he
      have hg := bx_un hnp4 hg
      refine bk_152_50 k8 (by rw [hnp4]; exact RT_at57 k8) ?_
      obtain ⟨k9, hg⟩ := hg
      refine bk_152_56 hp4 (cq_V_IF (cc_46 (d := d + 3) hp4 k9)) ?_
      rintro _ _ _ _ ⟨p5, hr, rfl, rfl, rfl, rfl⟩
      have he := bx_eq hr he
      have hg := bx_un hr hg
      refine bk_152_63 ?_
      have hgX := hg
      refine lw_152_66 (d := d) hp4 hgX (fun p9 hr => ?_)
      have he := bx_eq hr he
      exact bk_152_104 (rl_I_IF he)
    · have he := ite_n h4 he
      exact bk_152_17 (rl_I_IF he)
/-- VectorShelf.count(I)I -/
def v_155 (I : WI) (x1 : Int32) : Int32 × WI := (if x1 = 0 then ((I 1 8), I) else (if x1 = 1 then ((I 1 4), I) else (if x1 = 2 then ((v_286 (I 1 12)), I) else (if x1 = 3 then ((I 0 9), I) else (if x1 = 4 then ((I 31 1), I) else (if x1 = 5 then ((I 1 2), I) else (if x1 = 6 then (bx ((v_120 I) : Int32 × WI) (fun p1 => ((v_286 p1.1), p1.2))) else (if x1 = 7 then ((I 2 0), I) else ((-2), I)))))))))
def g_155 (I : WI) (x1 : Int32) : Prop := ((x1 = 0 → True) ∧ (¬ (x1 = 0) → ((x1 = 1 → True) ∧ (¬ (x1 = 1) → ((x1 = 2 → True) ∧ (¬ (x1 = 2) → ((x1 = 3 → True) ∧ (¬ (x1 = 3) → ((x1 = 4 → True) ∧ (¬ (x1 = 4) → ((x1 = 5 → True) ∧ (¬ (x1 = 5) → ((x1 = 6 → (g_120 I)) ∧ (¬ (x1 = 6) → True))))))))))))))
theorem cc_155 {l : LX} {d : Nat} {I : WI} {F : WF} {L : WL} {t : Nat} {x1 : Int32} (hg : g_155 I x1) : Con l 155 (d + 6) 0 0 [.ref 0, .int x1] SH (I, F, L, RT t) (po_I_I F L t (v_155 I x1)) := by
  refine cn_155 ?_
  obtain ⟨T1, hT1⟩ : ∃ r : Int32 × WI, r = (v_155 I x1) := ⟨_, rfl⟩
  rw [← hT1]
  have he := (hT1.trans (v_155.eq_1 ..)).symm
  have hg := Eq.mp (g_155.eq_1 ..) hg
  refine bk_155_0 (fun h1 => ?_) (fun h1 => ?_) (fun h1 => ?_) (fun h1 => ?_) (fun h1 => ?_) (fun h1 => ?_) (fun h1 => ?_) (fun h1 => ?_) (fun h1x0 h1x1 h1x2 h1x3 h1x4 h1x5 h1x6 h1x7 => ?_)
  · have he := ite_p h1 he
    exact bk_155_48 (rl_I_I he)
  · have he := ite_n (show ¬ x1 = 0 from fun e => absurd (h1.symm.trans e) (by decide)) he
    have hg := hg.2 (show ¬ x1 = 0 from fun e => absurd (h1.symm.trans e) (by decide))
    have he := ite_p h1 he
    exact bk_155_56 (rl_I_I he)
  · have he := ite_n (show ¬ x1 = 0 from fun e => absurd (h1.symm.trans e) (by decide)) he
    have hg := hg.2 (show ¬ x1 = 0 from fun e => absurd (h1.symm.trans e) (by decide))
    have he := ite_n (show ¬ x1 = 1 from fun e => absurd (h1.symm.trans e) (by decide)) he
    have hg := hg.2 (show ¬ x1 = 1 from fun e => absurd (h1.symm.trans e) (by decide))
    have he := ite_p h1 he
    refine bk_155_64 (cc_286 (d := d + 5) ) ?_
    exact bk_155_74 (rl_I_I he)
  · have he := ite_n (show ¬ x1 = 0 from fun e => absurd (h1.symm.trans e) (by decide)) he
    have hg := hg.2 (show ¬ x1 = 0 from fun e => absurd (h1.symm.trans e) (by decide))
    have he := ite_n (show ¬ x1 = 1 from fun e => absurd (h1.symm.trans e) (by decide)) he
    have hg := hg.2 (show ¬ x1 = 1 from fun e => absurd (h1.symm.trans e) (by decide))
    have he := ite_n (show ¬ x1 = 2 from fun e => absurd (h1.symm.trans e) (by decide)) he
    have hg := hg.2 (show ¬ x1 = 2 from fun e => absurd (h1.symm.trans e) (by decide))
    have he := ite_p h1 he
    exact bk_155_75 (rl_I_I he)
  · have he := ite_n (show ¬ x1 = 0 from fun e => absurd (h1.symm.trans e) (by decide)) he
    have hg := hg.2 (show ¬ x1 = 0 from fun e => absurd (h1.symm.trans e) (by decide))
    have he := ite_n (show ¬ x1 = 1 from fun e => absurd (h1.symm.trans e) (by decide)) he
    have hg := hg.2 (show ¬ x1 = 1 from fun e => absurd (h1.symm.trans e) (by decide))
    have he := ite_n (show ¬ x1 = 2 from fun e => absurd (h1.symm.trans e) (by decide)) he
    have hg := hg.2 (show ¬ x1 = 2 from fun e => absurd (h1.symm.trans e) (by decide))
    have he := ite_n (show ¬ x1 = 3 from fun e => absurd (h1.symm.trans e) (by decide)) he
    have hg := hg.2 (show ¬ x1 = 3 from fun e => absurd (h1.symm.trans e) (by decide))
    have he := ite_p h1 he
    exact bk_155_80 (rl_I_I he)
  · have he := ite_n (show ¬ x1 = 0 from fun e => absurd (h1.symm.trans e) (by decide)) he
    have hg := hg.2 (show ¬ x1 = 0 from fun e => absurd (h1.symm.trans e) (by decide))
    have he := ite_n (show ¬ x1 = 1 from fun e => absurd (h1.symm.trans e) (by decide)) he
    have hg := hg.2 (show ¬ x1 = 1 from fun e => absurd (h1.symm.trans e) (by decide))
    have he := ite_n (show ¬ x1 = 2 from fun e => absurd (h1.symm.trans e) (by decide)) he
    have hg := hg.2 (show ¬ x1 = 2 from fun e => absurd (h1.symm.trans e) (by decide))
    have he := ite_n (show ¬ x1 = 3 from fun e => absurd (h1.symm.trans e) (by decide)) he
    have hg := hg.2 (show ¬ x1 = 3 from fun e => absurd (h1.symm.trans e) (by decide))
    have he := ite_n (show ¬ x1 = 4 from fun e => absurd (h1.symm.trans e) (by decide)) he
    have hg := hg.2 (show ¬ x1 = 4 from fun e => absurd (h1.symm.trans e) (by decide))
    have he := ite_p h1 he
    exact bk_155_88 (rl_I_I he)
  · have he := ite_n (show ¬ x1 = 0 from fun e => absurd (h1.symm.trans e) (by decide)) he
    have hg := hg.2 (show ¬ x1 = 0 from fun e => absurd (h1.symm.trans e) (by decide))
    have he := ite_n (show ¬ x1 = 1 from fun e => absurd (h1.symm.trans e) (by decide)) he
    have hg := hg.2 (show ¬ x1 = 1 from fun e => absurd (h1.symm.trans e) (by decide))
    have he := ite_n (show ¬ x1 = 2 from fun e => absurd (h1.symm.trans e) (by decide)) he
    have hg := hg.2 (show ¬ x1 = 2 from fun e => absurd (h1.symm.trans e) (by decide))
    have he := ite_n (show ¬ x1 = 3 from fun e => absurd (h1.symm.trans e) (by decide)) he
    have hg := hg.2 (show ¬ x1 = 3 from fun e => absurd (h1.symm.trans e) (by decide))
    have he := ite_n (show ¬ x1 = 4 from fun e => absurd (h1.symm.trans e) (by decide)) he
    have hg := hg.2 (show ¬ x1 = 4 from fun e => absurd (h1.symm.trans e) (by decide))
    have he := ite_n (show ¬ x1 = 5 from fun e => absurd (h1.symm.trans e) (by decide)) he
    have hg := hg.2 (show ¬ x1 = 5 from fun e => absurd (h1.symm.trans e) (by decide))
    have he := ite_p h1 he
    have hg := hg.1 h1
    have k3 := hg
    refine bk_155_96 (cq_I_I (cc_120 (d := d + 0)  k3)) ?_
    rintro _ _ _ _ _ ⟨p1, hr, rfl, rfl, rfl, rfl, rfl⟩
    have he := bx_eq hr he
    refine bk_155_100 (cc_286 (d := d + 5) ) ?_
    exact bk_155_103 (rl_I_I he)
  · have he := ite_n (show ¬ x1 = 0 from fun e => absurd (h1.symm.trans e) (by decide)) he
    have he := ite_n (show ¬ x1 = 1 from fun e => absurd (h1.symm.trans e) (by decide)) he
    have he := ite_n (show ¬ x1 = 2 from fun e => absurd (h1.symm.trans e) (by decide)) he
    have he := ite_n (show ¬ x1 = 3 from fun e => absurd (h1.symm.trans e) (by decide)) he
    have he := ite_n (show ¬ x1 = 4 from fun e => absurd (h1.symm.trans e) (by decide)) he
    have he := ite_n (show ¬ x1 = 5 from fun e => absurd (h1.symm.trans e) (by decide)) he
    have he := ite_n (show ¬ x1 = 6 from fun e => absurd (h1.symm.trans e) (by decide)) he
    have he := ite_p h1 he
    exact bk_155_104 (rl_I_I he)
  · have he := ite_n h1x0 he
    have he := ite_n h1x1 he
    have he := ite_n h1x2 he
    have he := ite_n h1x3 he
    have he := ite_n h1x4 he
    have he := ite_n h1x5 he
    have he := ite_n h1x6 he
    have he := ite_n h1x7 he
    exact bk_155_115 (rl_I_I he)
end
