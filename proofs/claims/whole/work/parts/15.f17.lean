section
/-- VectorShelf.query(III)I -/
def v_119 (I : WI) (x1 : Int32) (x2 : Int32) (x3 : Int32) : Int32 × WI := (if ¬ (v_106 x1 x2 x3) = 0 then (bx ((v_70 I 1 x1 x2 x3) : WI) (fun p1 => (bx ((v_120 p1) : Int32 × WI) (fun p2 => ((v_286 p2.1), p2.2))))) else ((-2), I))
def g_119 (I : WI) (x1 : Int32) (x2 : Int32) (x3 : Int32) : Prop := ((¬ (v_106 x1 x2 x3) = 0) → (bx ((v_70 I 1 x1 x2 x3) : WI) (fun p1 => (g_120 p1))))
theorem cc_119 {l : LX} {d : Nat} {I : WI} {F : WF} {L : WL} {t : Nat} {x1 : Int32} {x2 : Int32} {x3 : Int32} (hg : g_119 I x1 x2 x3) : Con l 119 (d + 6) 0 0 [.ref 0, .int x1, .int x2, .int x3] SH (I, F, L, RT t) (po_I_I F L t (v_119 I x1 x2 x3)) := by
  refine cn_119 ?_
  obtain ⟨T1, hT1⟩ : ∃ r : Int32 × WI, r = (v_119 I x1 x2 x3) := ⟨_, rfl⟩
  rw [← hT1]
  have he := (hT1.trans (v_119.eq_1 ..)).symm
  have hg := Eq.mp (g_119.eq_1 ..) hg
  refine bk_119_0 (cc_106 (d := d + 4) ) ?_
  refine bk_119_6 (fun h2 => ?_) (fun h2 => ?_)
  · have he := ite_p h2 he
    have hg := hg h2
    refine bk_119_12 (cq_V_I (cc_70 (d := d + 5) (by first | decide | (unfold isS; decide) | (unfold isS; omega)))) ?_
    rintro _ _ _ _ ⟨p1, hr, rfl, rfl, rfl, rfl⟩
    have he := bx_eq hr he
    have hg := bx_un hr hg
    have k4 := hg
    refine bk_119_22 (cq_I_I (cc_120 (d := d + 0)  k4)) ?_
    rintro _ _ _ _ _ ⟨p2, hr, rfl, rfl, rfl, rfl, rfl⟩
    have he := bx_eq hr he
    refine bk_119_26 (cc_286 (d := d + 5) ) ?_
    exact bk_119_29 (rl_I_I he)
  · have he := ite_n h2 he
    exact bk_119_9 (rl_I_I he)
/-- VectorShelf.near(II)I -/
def v_128 (I : WI) (F : WF) (x1 : Int32) (x2 : Int32) : Int32 × WI × WF := (if (v_107 x1 (1 : Int32) (5 : Int32)) = 0 then ((-2), I, F) else (if ¬ (v_107 x2 (0 : Int32) (9 : Int32)) = 0 then (bx ((v_115 I 1) : Nat) (fun p1 => (bx ((v_12 I 1 p1) : WI) (fun p2 => (bx ((v_35 p2 F x1 1) : WI × WF) (fun p3 => (if x2 = 5 then ((p3.1 38 4), p3.1, p3.2) else (if x2 = 6 then ((p3.1 38 5), p3.1, p3.2) else (if x2 = 7 then ((p3.1 38 6), p3.1, p3.2) else (if x2 = 8 then ((v_41 p3.1), p3.1, p3.2) else (if x2 = 9 then ((p3.1 38 3), p3.1, p3.2) else ((v_42 p3.1 x2), p3.1, p3.2)))))))))))) else ((-2), I, F)))
def g_128 (I : WI) (F : WF) (x1 : Int32) (x2 : Int32) : Prop := (¬ ((v_107 x1 (1 : Int32) (5 : Int32)) = 0) → ((¬ (v_107 x2 (0 : Int32) (9 : Int32)) = 0) → ((g_115 I 1) ∧ ((isT (v_115 I 1)) ∧ (bx ((v_115 I 1) : Nat) (fun p1 => ((g_12 I 1 p1) ∧ (bx ((v_12 I 1 p1) : WI) (fun p2 => ((g_35 p2 F x1 1) ∧ (bx ((v_35 p2 F x1 1) : WI × WF) (fun p3 => ((x2 = 5 → True) ∧ (¬ (x2 = 5) → ((x2 = 6 → True) ∧ (¬ (x2 = 6) → ((x2 = 7 → True) ∧ (¬ (x2 = 7) → ((x2 = 8 → (g_41 p3.1)) ∧ (¬ (x2 = 8) → ((x2 = 9 → True) ∧ (¬ (x2 = 9) → (g_42 p3.1 x2)))))))))))))))))))))))
theorem cc_128 {l : LX} {d : Nat} {I : WI} {F : WF} {L : WL} {t : Nat} {x1 : Int32} {x2 : Int32} (hg : g_128 I F x1 x2) : Con l 128 (d + 6) 0 0 [.ref 0, .int x1, .int x2] SH (I, F, L, RT t) (po_I_IF L t (v_128 I F x1 x2)) := by
  refine cn_128 ?_
  obtain ⟨T1, hT1⟩ : ∃ r : Int32 × WI × WF, r = (v_128 I F x1 x2) := ⟨_, rfl⟩
  rw [← hT1]
  have he := (hT1.trans (v_128.eq_1 ..)).symm
  have hg := Eq.mp (g_128.eq_1 ..) hg
  refine bk_128_0 (cc_107 (d := d + 5) ) ?_
  refine bk_128_6 (fun h2 => ?_) (fun h2 => ?_)
  · have he := ite_p h2 he
    exact bk_128_19 (rl_I_IF he)
  · have he := ite_n h2 he
    have hg := hg h2
    refine bk_128_9 (cc_107 (d := d + 5) ) ?_
    refine bk_128_16 (fun h4 => ?_) (fun h4 => ?_)
    · have he := ite_p h4 he
      have hg := hg h4
      obtain ⟨k5, hp1k, hg⟩ := hg
      obtain ⟨p1, hr⟩ : ∃ q : Nat, q = (v_115 I 1) := ⟨_, rfl⟩
      have hp1 : isT p1 := by rw [hr]; exact hp1k
      have he := bx_eq hr he
      have hg := bx_un hr hg
      refine bk_128_22 (show Con l 115 _ 0 0 _ SH _ (rR p1 _) from by rw [hr]; exact (cc_115 (d := d + 4) (by first | decide | (unfold isS; decide) | (unfold isS; omega)) k5)) ?_
      obtain ⟨k6, hg⟩ := hg
      refine bk_128_38 (cq_V_I (cc_12 (d := d + 1) (by first | decide | (unfold isS; decide) | (unfold isS; omega)) hp1 k6)) ?_
      rintro _ _ _ _ ⟨p2, hr, rfl, rfl, rfl, rfl⟩
      have he := bx_eq hr he
      have hg := bx_un hr hg
      obtain ⟨k7, hg⟩ := hg
      refine bk_128_41 (cq_V_IF (cc_35 (d := d + 0) (by first | decide | (unfold isS; decide) | (unfold isS; omega)) k7)) ?_
      rintro _ _ _ _ ⟨p3, hr, rfl, rfl, rfl, rfl⟩
      have he := bx_eq hr he
      have hg := bx_un hr hg
      refine bk_128_57 (fun h8 => ?_) (fun h8 => ?_) (fun h8 => ?_) (fun h8 => ?_) (fun h8 => ?_) (fun h8x0 h8x1 h8x2 h8x3 h8x4 => ?_)
      · have he := ite_p h8 he
        exact bk_128_92 (rl_I_IF he)
      · have he := ite_n (show ¬ x2 = 5 from fun e => absurd (h8.symm.trans e) (by decide)) he
        have hg := hg.2 (show ¬ x2 = 5 from fun e => absurd (h8.symm.trans e) (by decide))
        have he := ite_p h8 he
        exact bk_128_100 (rl_I_IF he)
      · have he := ite_n (show ¬ x2 = 5 from fun e => absurd (h8.symm.trans e) (by decide)) he
        have hg := hg.2 (show ¬ x2 = 5 from fun e => absurd (h8.symm.trans e) (by decide))
        have he := ite_n (show ¬ x2 = 6 from fun e => absurd (h8.symm.trans e) (by decide)) he
        have hg := hg.2 (show ¬ x2 = 6 from fun e => absurd (h8.symm.trans e) (by decide))
        have he := ite_p h8 he
        exact bk_128_108 (rl_I_IF he)
      · have he := ite_n (show ¬ x2 = 5 from fun e => absurd (h8.symm.trans e) (by decide)) he
        have hg := hg.2 (show ¬ x2 = 5 from fun e => absurd (h8.symm.trans e) (by decide))
        have he := ite_n (show ¬ x2 = 6 from fun e => absurd (h8.symm.trans e) (by decide)) he
        have hg := hg.2 (show ¬ x2 = 6 from fun e => absurd (h8.symm.trans e) (by decide))
        have he := ite_n (show ¬ x2 = 7 from fun e => absurd (h8.symm.trans e) (by decide)) he
        have hg := hg.2 (show ¬ x2 = 7 from fun e => absurd (h8.symm.trans e) (by decide))
        have he := ite_p h8 he
        have hg := hg.1 h8
        have k9 := hg
        refine bk_128_116 (cc_41 (d := d + 5)  k9) ?_
        exact bk_128_123 (rl_I_IF he)
      · have he := ite_n (show ¬ x2 = 5 from fun e => absurd (h8.symm.trans e) (by decide)) he
        have hg := hg.2 (show ¬ x2 = 5 from fun e => absurd (h8.symm.trans e) (by decide))
        have he := ite_n (show ¬ x2 = 6 from fun e => absurd (h8.symm.trans e) (by decide)) he
        have hg := hg.2 (show ¬ x2 = 6 from fun e => absurd (h8.symm.trans e) (by decide))
        have he := ite_n (show ¬ x2 = 7 from fun e => absurd (h8.symm.trans e) (by decide)) he
        have hg := hg.2 (show ¬ x2 = 7 from fun e => absurd (h8.symm.trans e) (by decide))
        have he := ite_n (show ¬ x2 = 8 from fun e => absurd (h8.symm.trans e) (by decide)) he
        have hg := hg.2 (show ¬ x2 = 8 from fun e => absurd (h8.symm.trans e) (by decide))
        have he := ite_p h8 he
        exact bk_128_124 (rl_I_IF he)
      · have he := ite_n h8x0 he
        have hg := hg.2 h8x0
        have he := ite_n h8x1 he
        have hg := hg.2 h8x1
        have he := ite_n h8x2 he
        have hg := hg.2 h8x2
        have he := ite_n h8x3 he
        have hg := hg.2 h8x3
        have he := ite_n h8x4 he
        have hg := hg.2 h8x4
        have k10 := hg
        refine bk_128_132 (cc_42 (d := d + 4)  k10) ?_
        exact bk_128_140 (rl_I_IF he)
    · have he := ite_n h4 he
      exact bk_128_19 (rl_I_IF he)
/-- VectorShelf.pair(I)I -/
def v_133 (I : WI) (x1 : Int32) : Int32 := (if (v_107 x1 (0 : Int32) (2 : Int32)) = 0 then (-2) else (v_134 I x1 (0 : Int32)))
def g_133 (I : WI) (x1 : Int32) : Prop := (¬ ((v_107 x1 (0 : Int32) (2 : Int32)) = 0) → (g_134 I x1 (0 : Int32)))
theorem cc_133 {l : LX} {d : Nat} {I : WI} {F : WF} {L : WL} {t : Nat} {x1 : Int32} (hg : g_133 I x1) : Con l 133 (d + 6) 0 0 [.ref 0, .int x1] SH (I, F, L, RT t) (rI (v_133 I x1) (I, F, L, RT t)) := by
  refine cn_133 ?_
  obtain ⟨T1, hT1⟩ : ∃ r : Int32, r = (v_133 I x1) := ⟨_, rfl⟩
  rw [← hT1]
  have he := (hT1.trans (v_133.eq_1 ..)).symm
  have hg := Eq.mp (g_133.eq_1 ..) hg
  refine bk_133_0 (cc_107 (d := d + 5) ) ?_
  refine bk_133_6 (fun h2 => ?_) (fun h2 => ?_)
  · have he := ite_p h2 he
    refine bk_133_18 ?_
    exact bk_133_20 (rl_p_I he)
  · have he := ite_n h2 he
    have hg := hg h2
    have k3 := hg
    refine bk_133_9 (cc_134 (d := d + 0)  k3) ?_
    refine bk_133_15 ?_
    exact bk_133_20 (rl_p_I he)
/-- VectorShelf.spread(I)I -/
def v_136 (I : WI) (x1 : Int32) : Int32 := (if (v_107 x1 (0 : Int32) (11 : Int32)) = 0 then (-2) else (v_5 I 1 x1))
def g_136 (I : WI) (x1 : Int32) : Prop := (¬ ((v_107 x1 (0 : Int32) (11 : Int32)) = 0) → (g_5 I 1 x1))
theorem cc_136 {l : LX} {d : Nat} {I : WI} {F : WF} {L : WL} {t : Nat} {x1 : Int32} (hg : g_136 I x1) : Con l 136 (d + 6) 0 0 [.ref 0, .int x1] SH (I, F, L, RT t) (rI (v_136 I x1) (I, F, L, RT t)) := by
  refine cn_136 ?_
  obtain ⟨T1, hT1⟩ : ∃ r : Int32, r = (v_136 I x1) := ⟨_, rfl⟩
  rw [← hT1]
  have he := (hT1.trans (v_136.eq_1 ..)).symm
  have hg := Eq.mp (g_136.eq_1 ..) hg
  refine bk_136_0 (cc_107 (d := d + 5) ) ?_
  refine bk_136_7 (fun h2 => ?_) (fun h2 => ?_)
  · have he := ite_p h2 he
    refine bk_136_25 ?_
    exact bk_136_27 (rl_p_I he)
  · have he := ite_n h2 he
    have hg := hg h2
    have k3 := hg
    refine bk_136_10 (cc_5 (d := d + 0) (by first | decide | (unfold isS; decide) | (unfold isS; omega)) k3) ?_
    refine bk_136_22 ?_
    exact bk_136_27 (rl_p_I he)
/-- the loop at 57 of VectorShelf.costs -/
def lp_140_57 (I : WI) (F : WF) (a2 : Int32) : Nat → Int32 × WI × WF
  | 0 => (a2, I, F)
  | k + 1 => bx (lp_140_57 I F a2 k) (fun p4 => (bx ((if (v_61 p4.2.1 1 (nI k)) = 0 then (p4.1, p4.2.1, p4.2.2) else (bx ((v_78 p4.2.1 21 (nI k)) : WI) (fun p5 => (bx ((v_35 p5 p4.2.2 (1 : Int32) 21) : WI × WF) (fun p6 => ((p4.1 + (p6.1 38 4)), p6.1, p6.2)))))) : Int32 × WI × WF) (fun p7 => (p7.1, p7.2.1, p7.2.2))))
def gl_140_57 (I : WI) (F : WF) (a2 : Int32) (N : Nat) : Prop := ((∀ k, k < N → bx (lp_140_57 I F a2 k) (fun p4 => (((p4.2.1 1 8) = (I 1 8)) ∧ (¬ ((v_61 p4.2.1 1 (nI k)) = 0) → ((g_78 p4.2.1 21 (nI k)) ∧ (bx ((v_78 p4.2.1 21 (nI k)) : WI) (fun p5 => (g_35 p5 p4.2.2 (1 : Int32) 21)))))))) ∧ (bx (lp_140_57 I F a2 N) (fun p4 => (p4.2.1 1 8) = (I 1 8))))
theorem lw_140_57 {l : LX} {d : Nat} {P : RP} {I : WI} {F : WF} {L : WL} {t : Nat} {x1 : Int32} {a2 : Int32} (hgl : gl_140_57 I F a2 ((I 1 8).toNatClampNeg)) (hx : ∀ p4 : Int32 × WI × WF, p4 = lp_140_57 I F a2 ((I 1 8).toNatClampNeg) → Wp l 140 (d + 6) 0 0 P 0 0 119 [(0, .ref 0), (1, .int x1), (2, .int p4.1)] [] SH (p4.2.1, p4.2.2, L, RT t)) : Wp l 140 (d + 6) 0 0 P 0 0 57 [(0, .ref 0), (1, .int x1), (2, .int a2), (3, .int 0)] [] SH (I, F, L, RT t) := by
  obtain ⟨hin, hend⟩ := hgl
  have loop : ∀ m k, k + m = (I 1 8).toNatClampNeg → ∀ p4 : Int32 × WI × WF, p4 = lp_140_57 I F a2 k → Wp l 140 (d + 6) 0 0 P 0 0 57 [(0, .ref 0), (1, .int x1), (2, .int p4.1), (3, .int (nI k))] [] SH (p4.2.1, p4.2.2, L, RT t) := by
    intro m
    induction m with
    | zero =>
      intro k hk p4 hs
      obtain rfl : k = (I 1 8).toNatClampNeg := by omega
      have hE := bx_un hs hend
      exact bk_140_57  (fun _ => hx _ hs) (fun h => absurd ((show (p4.2.1 1 8) ≤ (nI ((I 1 8).toNatClampNeg)) from by rw [show (p4.2.1 1 8) = (I 1 8) from hE]; exact (le_cl (Nat.le_refl _)).mpr rfl)) h)
    | succ m ih =>
      intro k hk p4 hs
      have hk2 : k < (I 1 8).toNatClampNeg := by omega
      have ih := ih (k + 1) (by omega)
      rw [nI_succ] at ih
      have he := bx_eq hs (lp_140_57.eq_2 ..).symm
      have hg := bx_un hs (hin k hk2)
      have hE : (p4.2.1 1 8) = (I 1 8) := hg.1
      have hg := hg.2
      refine bk_140_57  (fun h => absurd ((le_cl (E := (I 1 8)) (i := k) (by omega)).mp (by rw [show (p4.2.1 1 8) = (I 1 8) from hE] at h; exact h)) (by omega)) (fun _ => ?_)
      refine bk_140_68 (cc_61 (d := d + 4) (by first | decide | (unfold isS; decide) | (unfold isS; omega))) ?_
      have hgX := hg
      obtain ⟨X1, hX1⟩ : ∃ r : Int32 × WI × WF, r = (if (v_61 p4.2.1 1 (nI k)) = 0 then (p4.1, p4.2.1, p4.2.2) else (bx ((v_78 p4.2.1 21 (nI k)) : WI) (fun p5 => (bx ((v_35 p5 p4.2.2 (1 : Int32) 21) : WI × WF) (fun p6 => ((p4.1 + (p6.1 38 4)), p6.1, p6.2)))))) := ⟨_, rfl⟩
      have J1 : ∀ p7 : Int32 × WI × WF, p7 = X1 → Wp l 140 (d + 6) 0 0 P 0 0 113 [(0, .ref 0), (1, .int x1), (2, .int p7.1), (3, .int (nI k))] [] SH (p7.2.1, p7.2.2, L, RT t) := by
        intro p7 hr
        have hr := hr.trans hX1
        have he := bx_eq hr he
        refine bk_140_113 ?_
        exact ih (p7.1, p7.2.1, p7.2.2) he
      have he := hX1.symm
      have hg := hgX
      refine bk_140_76 (fun h8 => ?_) (fun h8 => ?_)
      · have he := ite_p h8 he
        exact J1 (p4.1, p4.2.1, p4.2.2) he
      · have he := ite_n h8 he
        have hg := hg h8
        obtain ⟨k9, hg⟩ := hg
        refine bk_140_79 (cq_V_I (cc_78 (d := d + 4) (by first | decide | (unfold isS; decide) | (unfold isS; omega)) k9)) ?_
        rintro _ _ _ _ ⟨p5, hr, rfl, rfl, rfl, rfl⟩
        have he := bx_eq hr he
        have hg := bx_un hr hg
        have k10 := hg
        refine bk_140_87 (cq_V_IF (cc_35 (d := d + 0) (by first | decide | (unfold isS; decide) | (unfold isS; omega)) k10)) ?_
        rintro _ _ _ _ ⟨p6, hr, rfl, rfl, rfl, rfl⟩
        have he := bx_eq hr he
        refine bk_140_103 ?_
        exact J1 ((p4.1 + (p6.1 38 4)), p6.1, p6.2) he
  exact loop _ 0 (Nat.zero_add _) _ rfl
/-- VectorShelf.costs(I)J -/
def v_140 (I : WI) (F : WF) (x1 : Int32) : Int64 × WI × WF := (if (v_107 x1 (0 : Int32) (1 : Int32)) = 0 then ((-4611686018427387904), I, F) else (if ¬ (I 1 12) = 0 then (bx ((v_115 I 1) : Nat) (fun p1 => (bx ((v_12 I 1 p1) : WI) (fun p2 => (bx ((v_76 p2 21 1) : WI) (fun p3 => (bx ((lp_140_57 p3 F (0 : Int32) ((p3 1 8).toNatClampNeg)) : Int32 × WI × WF) (fun p8 => ((v_141 p8.1 (v_286 (p8.2.1 1 12)) x1), p8.2.1, p8.2.2))))))))) else ((-4611686018427387904), I, F)))
def g_140 (I : WI) (F : WF) (x1 : Int32) : Prop := (¬ ((v_107 x1 (0 : Int32) (1 : Int32)) = 0) → ((¬ (I 1 12) = 0) → ((g_115 I 1) ∧ ((isT (v_115 I 1)) ∧ (bx ((v_115 I 1) : Nat) (fun p1 => ((g_12 I 1 p1) ∧ (bx ((v_12 I 1 p1) : WI) (fun p2 => (bx ((v_76 p2 21 1) : WI) (fun p3 => ((gl_140_57 p3 F (0 : Int32) ((p3 1 8).toNatClampNeg)) ∧ (bx ((lp_140_57 p3 F (0 : Int32) ((p3 1 8).toNatClampNeg)) : Int32 × WI × WF) (fun p8 => (g_141 p8.1 (v_286 (p8.2.1 1 12)) x1)))))))))))))))
theorem cc_140 {l : LX} {d : Nat} {I : WI} {F : WF} {L : WL} {t : Nat} {x1 : Int32} (hg : g_140 I F x1) : Con l 140 (d + 6) 0 0 [.ref 0, .int x1] SH (I, F, L, RT t) (po_J_IF L t (v_140 I F x1)) := by
  refine cn_140 ?_
  obtain ⟨T1, hT1⟩ : ∃ r : Int64 × WI × WF, r = (v_140 I F x1) := ⟨_, rfl⟩
  rw [← hT1]
  have he := (hT1.trans (v_140.eq_1 ..)).symm
  have hg := Eq.mp (g_140.eq_1 ..) hg
  refine bk_140_0 (cc_107 (d := d + 5) ) ?_
  refine bk_140_6 (fun h2 => ?_) (fun h2 => ?_)
  · have he := ite_p h2 he
    exact bk_140_19 (rl_J_IF he)
  · have he := ite_n h2 he
    have hg := hg h2
    refine bk_140_9 (fun h3 => ?_) (fun h3 => ?_)
    · have he := ite_p h3 he
      have hg := hg h3
      obtain ⟨k4, hp1k, hg⟩ := hg
      obtain ⟨p1, hr⟩ : ∃ q : Nat, q = (v_115 I 1) := ⟨_, rfl⟩
      have hp1 : isT p1 := by rw [hr]; exact hp1k
      have he := bx_eq hr he
      have hg := bx_un hr hg
      refine bk_140_23 (show Con l 115 _ 0 0 _ SH _ (rR p1 _) from by rw [hr]; exact (cc_115 (d := d + 4) (by first | decide | (unfold isS; decide) | (unfold isS; omega)) k4)) ?_
      obtain ⟨k5, hg⟩ := hg
      refine bk_140_39 (cq_V_I (cc_12 (d := d + 1) (by first | decide | (unfold isS; decide) | (unfold isS; omega)) hp1 k5)) ?_
      rintro _ _ _ _ ⟨p2, hr, rfl, rfl, rfl, rfl⟩
      have he := bx_eq hr he
      have hg := bx_un hr hg
      refine bk_140_42 (cq_V_I (cc_76 (d := d + 3) (by first | decide | (unfold isS; decide) | (unfold isS; omega)) (by first | decide | (unfold isS; decide) | (unfold isS; omega)))) ?_
      rintro _ _ _ _ ⟨p3, hr, rfl, rfl, rfl, rfl⟩
      have he := bx_eq hr he
      have hg := bx_un hr hg
      refine bk_140_53 ?_
      obtain ⟨hgX, hg⟩ := hg
      refine lw_140_57 (d := d)  hgX (fun p8 hr => ?_)
      have he := bx_eq hr he
      have hg := bx_un hr hg
      refine bk_140_119 (cc_286 (d := d + 5) ) ?_
      have k12 := hg
      refine bk_140_130 (cc_141 (d := d + 5)  k12) ?_
      exact bk_140_134 (rl_J_IF he)
    · have he := ite_n h3 he
      exact bk_140_19 (rl_J_IF he)
/-- the loop at 70 of VectorShelf.lot -/
def lp_142_70 (I : WI) (F : WF) (x1 : Int32) (x3 : Int32) (a5 : Int32) : Nat → Int32 × WI × WF
  | 0 => (a5, I, F)
  | k + 1 => bx (lp_142_70 I F x1 x3 a5 k) (fun p4 => (bx ((v_70 p4.2.1 21 (v_143 (x1 + (nI k)) (0 : Int32)) (v_143 (x1 + (nI k)) (1 : Int32)) (v_143 (x1 + (nI k)) (2 : Int32))) : WI) (fun p5 => (bx ((v_35 p5 p4.2.2 (1 : Int32) 21) : WI × WF) (fun p6 => (bx ((if (p6.1 38 4) ≤ x3 then p4.1 else (p4.1 + 1)) : Int32) (fun p7 => (p7, p6.1, p6.2))))))))
def gl_142_70 (I : WI) (F : WF) (x1 : Int32) (x3 : Int32) (a5 : Int32) (N : Nat) : Prop := (∀ k, k < N → bx (lp_142_70 I F x1 x3 a5 k) (fun p4 => ((g_143 (x1 + (nI k)) (0 : Int32)) ∧ ((g_143 (x1 + (nI k)) (1 : Int32)) ∧ ((g_143 (x1 + (nI k)) (2 : Int32)) ∧ (bx ((v_70 p4.2.1 21 (v_143 (x1 + (nI k)) (0 : Int32)) (v_143 (x1 + (nI k)) (1 : Int32)) (v_143 (x1 + (nI k)) (2 : Int32))) : WI) (fun p5 => (g_35 p5 p4.2.2 (1 : Int32) 21))))))))
theorem lw_142_70 {l : LX} {d : Nat} {P : RP} {I : WI} {F : WF} {L : WL} {t : Nat} {x1 : Int32} {x2 : Int32} {x3 : Int32} {x4 : Int32} {a5 : Int32} (hgl : gl_142_70 I F x1 x3 a5 x2.toNatClampNeg) (hx : ∀ p4 : Int32 × WI × WF, p4 = lp_142_70 I F x1 x3 a5 x2.toNatClampNeg → Wp l 142 (d + 6) 0 0 P 0 0 143 [(2, .int x2), (4, .int x4), (5, .int p4.1)] [] SH (p4.2.1, p4.2.2, L, RT t)) : Wp l 142 (d + 6) 0 0 P 0 0 70 [(0, .ref 0), (1, .int x1), (2, .int x2), (3, .int x3), (4, .int x4), (5, .int a5), (6, .int 0)] [] SH (I, F, L, RT t) := by
  have hin := hgl
  have loop : ∀ m k, k + m = x2.toNatClampNeg → ∀ p4 : Int32 × WI × WF, p4 = lp_142_70 I F x1 x3 a5 k → Wp l 142 (d + 6) 0 0 P 0 0 70 [(0, .ref 0), (1, .int x1), (2, .int x2), (3, .int x3), (4, .int x4), (5, .int p4.1), (6, .int (nI k))] [] SH (p4.2.1, p4.2.2, L, RT t) := by
    intro m
    induction m with
    | zero =>
      intro k hk p4 hs
      obtain rfl : k = x2.toNatClampNeg := by omega
      exact bk_142_70  (fun _ => hx _ hs) (fun h => absurd ((le_cl (Nat.le_refl _)).mpr rfl) h)
    | succ m ih =>
      intro k hk p4 hs
      have hk2 : k < x2.toNatClampNeg := by omega
      have ih := ih (k + 1) (by omega)
      rw [nI_succ] at ih
      have he := bx_eq hs (lp_142_70.eq_2 ..).symm
      have hg := bx_un hs (hin k hk2)
      refine bk_142_70  (fun h => absurd ((le_cl (E := x2) (i := k) (by omega)).mp h) (by omega)) (fun _ => ?_)
      obtain ⟨k10, hg⟩ := hg
      refine bk_142_76 (cc_143 (d := d + 5)  k10) ?_
      obtain ⟨k11, hg⟩ := hg
      refine bk_142_88 (cc_143 (d := d + 5)  k11) ?_
      obtain ⟨k12, hg⟩ := hg
      refine bk_142_96 (cc_143 (d := d + 5)  k12) ?_
      refine bk_142_104 (cq_V_I (cc_70 (d := d + 5) (by first | decide | (unfold isS; decide) | (unfold isS; omega)))) ?_
      rintro _ _ _ _ ⟨p5, hr, rfl, rfl, rfl, rfl⟩
      have he := bx_eq hr he
      have hg := bx_un hr hg
      have k14 := hg
      refine bk_142_107 (cq_V_IF (cc_35 (d := d + 0) (by first | decide | (unfold isS; decide) | (unfold isS; omega)) k14)) ?_
      rintro _ _ _ _ ⟨p6, hr, rfl, rfl, rfl, rfl⟩
      have he := bx_eq hr he
      obtain ⟨X1, hX1⟩ : ∃ r : Int32, r = (if (p6.1 38 4) ≤ x3 then p4.1 else (p4.1 + 1)) := ⟨_, rfl⟩
      have J1 : ∀ p7 : Int32, p7 = X1 → Wp l 142 (d + 6) 0 0 P 0 0 137 [(0, .ref 0), (1, .int x1), (2, .int x2), (3, .int x3), (4, .int x4), (5, .int p7), (6, .int (nI k))] [] SH (p6.1, p6.2, L, RT t) := by
        intro p7 hr
        have hr := hr.trans hX1
        have he := bx_eq hr he
        refine bk_142_137 ?_
        exact ih (p7, p6.1, p6.2) he
      have he := hX1.symm
      refine bk_142_123 (fun h15 => ?_) (fun h15 => ?_)
      · have he := ite_p h15 he
        exact J1 p4.1 he
      · have he := ite_n h15 he
        refine bk_142_134 ?_
        exact J1 (p4.1 + 1) he
  exact loop _ 0 (Nat.zero_add _) _ rfl
/-- VectorShelf.lot(IIII)J -/
def v_142 (I : WI) (F : WF) (x1 : Int32) (x2 : Int32) (x3 : Int32) (x4 : Int32) : Int64 × WI × WF := (if (v_107 x2 (1 : Int32) (20 : Int32)) = 0 then ((-4611686018427387904), I, F) else (if (v_107 x3 (0 : Int32) (12 : Int32)) = 0 then ((-4611686018427387904), I, F) else (if ¬ (v_107 x4 (0 : Int32) (1 : Int32)) = 0 then (bx ((v_115 I 1) : Nat) (fun p1 => (bx ((v_12 I 1 p1) : WI) (fun p2 => (bx ((v_76 p2 21 1) : WI) (fun p3 => (bx ((lp_142_70 p3 F x1 x3 (0 : Int32) x2.toNatClampNeg) : Int32 × WI × WF) (fun p8 => ((v_141 p8.1 x2 x4), p8.2.1, p8.2.2))))))))) else ((-4611686018427387904), I, F))))
def g_142 (I : WI) (F : WF) (x1 : Int32) (x2 : Int32) (x3 : Int32) (x4 : Int32) : Prop := (¬ ((v_107 x2 (1 : Int32) (20 : Int32)) = 0) → (¬ ((v_107 x3 (0 : Int32) (12 : Int32)) = 0) → ((¬ (v_107 x4 (0 : Int32) (1 : Int32)) = 0) → ((g_115 I 1) ∧ ((isT (v_115 I 1)) ∧ (bx ((v_115 I 1) : Nat) (fun p1 => ((g_12 I 1 p1) ∧ (bx ((v_12 I 1 p1) : WI) (fun p2 => (bx ((v_76 p2 21 1) : WI) (fun p3 => ((gl_142_70 p3 F x1 x3 (0 : Int32) x2.toNatClampNeg) ∧ (bx ((lp_142_70 p3 F x1 x3 (0 : Int32) x2.toNatClampNeg) : Int32 × WI × WF) (fun p8 => (g_141 p8.1 x2 x4))))))))))))))))
theorem cc_142 {l : LX} {d : Nat} {I : WI} {F : WF} {L : WL} {t : Nat} {x1 : Int32} {x2 : Int32} {x3 : Int32} {x4 : Int32} (hg : g_142 I F x1 x2 x3 x4) : Con l 142 (d + 6) 0 0 [.ref 0, .int x1, .int x2, .int x3, .int x4] SH (I, F, L, RT t) (po_J_IF L t (v_142 I F x1 x2 x3 x4)) := by
  refine cn_142 ?_
  obtain ⟨T1, hT1⟩ : ∃ r : Int64 × WI × WF, r = (v_142 I F x1 x2 x3 x4) := ⟨_, rfl⟩
  rw [← hT1]
  have he := (hT1.trans (v_142.eq_1 ..)).symm
  have hg := Eq.mp (g_142.eq_1 ..) hg
  refine bk_142_0 (cc_107 (d := d + 5) ) ?_
  refine bk_142_7 (fun h2 => ?_) (fun h2 => ?_)
  · have he := ite_p h2 he
    exact bk_142_30 (rl_J_IF he)
  · have he := ite_n h2 he
    have hg := hg h2
    refine bk_142_10 (cc_107 (d := d + 5) ) ?_
    refine bk_142_17 (fun h4 => ?_) (fun h4 => ?_)
    · have he := ite_p h4 he
      exact bk_142_30 (rl_J_IF he)
    · have he := ite_n h4 he
      have hg := hg h4
      refine bk_142_20 (cc_107 (d := d + 5) ) ?_
      refine bk_142_27 (fun h6 => ?_) (fun h6 => ?_)
      · have he := ite_p h6 he
        have hg := hg h6
        obtain ⟨k7, hp1k, hg⟩ := hg
        obtain ⟨p1, hr⟩ : ∃ q : Nat, q = (v_115 I 1) := ⟨_, rfl⟩
        have hp1 : isT p1 := by rw [hr]; exact hp1k
        have he := bx_eq hr he
        have hg := bx_un hr hg
        refine bk_142_34 (show Con l 115 _ 0 0 _ SH _ (rR p1 _) from by rw [hr]; exact (cc_115 (d := d + 4) (by first | decide | (unfold isS; decide) | (unfold isS; omega)) k7)) ?_
        obtain ⟨k8, hg⟩ := hg
        refine bk_142_50 (cq_V_I (cc_12 (d := d + 1) (by first | decide | (unfold isS; decide) | (unfold isS; omega)) hp1 k8)) ?_
        rintro _ _ _ _ ⟨p2, hr, rfl, rfl, rfl, rfl⟩
        have he := bx_eq hr he
        have hg := bx_un hr hg
        refine bk_142_53 (cq_V_I (cc_76 (d := d + 3) (by first | decide | (unfold isS; decide) | (unfold isS; omega)) (by first | decide | (unfold isS; decide) | (unfold isS; omega)))) ?_
        rintro _ _ _ _ ⟨p3, hr, rfl, rfl, rfl, rfl⟩
        have he := bx_eq hr he
        have hg := bx_un hr hg
        refine bk_142_64 ?_
        obtain ⟨hgX, hg⟩ := hg
        refine lw_142_70 (d := d)  hgX (fun p8 hr => ?_)
        have he := bx_eq hr he
        have hg := bx_un hr hg
        have k16 := hg
        refine bk_142_143 (cc_141 (d := d + 5)  k16) ?_
        exact bk_142_151 (rl_J_IF he)
      · have he := ite_n h6 he
        exact bk_142_30 (rl_J_IF he)
/-- VectorShelf.tells(II)I -/
def v_145 (I : WI) (F : WF) (x1 : Int32) (x2 : Int32) : Int32 × WI := (if (v_146 x1) = 0 then ((-2), I) else (if ¬ (v_107 x2 (0 : Int32) (4 : Int32)) = 0 then (bx ((58 + 4 * x1.toNatClampNeg) : Nat) (fun p1 => (if (v_44 I p1) = 0 then (if (I p1 1) ≤ 12 then (bx ((v_115 I 1) : Nat) (fun p2 => (bx ((v_12 I 1 p2) : WI) (fun p3 => (bx ((v_76 p3 21 1) : WI) (fun p4 => (if x2 = 0 then (bx ((v_147 p4 F p1) : Int32 × WI) (fun p5 => (p5.1, p5.2))) else (if x2 = 1 then (bx ((v_148 p4 F p1) : Int32 × WI) (fun p6 => (p6.1, p6.2))) else (if x2 = 2 then (bx ((v_149 p4 F p1) : Int32 × WI) (fun p7 => (p7.1, p7.2))) else (if x2 = 3 then (bx ((v_150 p4 F p1) : Int32 × WI) (fun p8 => (p8.1, p8.2))) else (bx ((v_151 p4 F p1) : Int32 × WI) (fun p9 => (p9.1, p9.2))))))))))))) else ((-2), I)) else ((-11), I)))) else ((-2), I)))
def g_145 (I : WI) (F : WF) (x1 : Int32) (x2 : Int32) : Prop := (¬ ((v_146 x1) = 0) → ((¬ (v_107 x2 (0 : Int32) (4 : Int32)) = 0) → ((vp_in x1 4) ∧ (bx ((58 + 4 * x1.toNatClampNeg) : Nat) (fun p1 => (((v_44 I p1) = 0) → (((I p1 1) ≤ 12) → ((g_115 I 1) ∧ ((isT (v_115 I 1)) ∧ (bx ((v_115 I 1) : Nat) (fun p2 => ((g_12 I 1 p2) ∧ (bx ((v_12 I 1 p2) : WI) (fun p3 => (bx ((v_76 p3 21 1) : WI) (fun p4 => ((x2 = 0 → (g_147 p4 F p1)) ∧ (¬ (x2 = 0) → ((x2 = 1 → (g_148 p4 F p1)) ∧ (¬ (x2 = 1) → ((x2 = 2 → (g_149 p4 F p1)) ∧ (¬ (x2 = 2) → ((x2 = 3 → (g_150 p4 F p1)) ∧ (¬ (x2 = 3) → (g_151 p4 F p1)))))))))))))))))))))))))
theorem cc_145 {l : LX} {d : Nat} {I : WI} {F : WF} {L : WL} {t : Nat} {x1 : Int32} {x2 : Int32} (hg : g_145 I F x1 x2) : Con l 145 (d + 6) 0 0 [.ref 0, .int x1, .int x2] SH (I, F, L, RT t) (po_I_I F L t (v_145 I F x1 x2)) := by
  refine cn_145 ?_
  obtain ⟨T1, hT1⟩ : ∃ r : Int32 × WI, r = (v_145 I F x1 x2) := ⟨_, rfl⟩
  rw [← hT1]
  have he := (hT1.trans (v_145.eq_1 ..)).symm
  have hg := Eq.mp (g_145.eq_1 ..) hg
  refine bk_145_0 (cc_146 (d := d + 4) ) ?_
  refine bk_145_4 (fun h2 => ?_) (fun h2 => ?_)
  · have he := ite_p h2 he
    exact bk_145_16 (rl_I_I he)
  · have he := ite_n h2 he
    have hg := hg h2
    refine bk_145_7 (cc_107 (d := d + 5) ) ?_
    refine bk_145_13 (fun h4 => ?_) (fun h4 => ?_)
    · have he := ite_p h4 he
      have hg := hg h4
      obtain ⟨k5, hg⟩ := hg
      obtain ⟨p1, hnp1⟩ : ∃ q : Nat, q = (58 + 4 * x1.toNatClampNeg) := ⟨_, rfl⟩
      have hp1 : isH p1 := by rw [hnp1]; exact isH_at k5
      have he := bx_eq hnp1 he
      have hg := bx_un hnp1 hg
      refine bk_145_19 k5 (show RT t 57 x1.toNatClampNeg = some p1 from by rw [hnp1]; exact RT_at57 k5) ?_
      refine bk_145_25 hp1 (cc_44 (d := d + 5) hp1) ?_
      refine bk_145_30 (fun h7 => ?_) (fun h7 => ?_)
      · have he := ite_p h7 he
        have hg := hg h7
        refine bk_145_36 hp1 (fun h8 => ?_) (fun h8 => ?_)
        · have he := ite_p h8 he
          have hg := hg h8
          obtain ⟨k9, hp2k, hg⟩ := hg
          obtain ⟨p2, hr⟩ : ∃ q : Nat, q = (v_115 I 1) := ⟨_, rfl⟩
          have hp2 : isT p2 := by rw [hr]; exact hp2k
          have he := bx_eq hr he
          have hg := bx_un hr hg
          refine bk_145_48 (show Con l 115 _ 0 0 _ SH _ (rR p2 _) from by rw [hr]; exact (cc_115 (d := d + 4) (by first | decide | (unfold isS; decide) | (unfold isS; omega)) k9)) ?_
          obtain ⟨k10, hg⟩ := hg
          refine bk_145_64 (cq_V_I (cc_12 (d := d + 1) (by first | decide | (unfold isS; decide) | (unfold isS; omega)) hp2 k10)) ?_
          rintro _ _ _ _ ⟨p3, hr, rfl, rfl, rfl, rfl⟩
          have he := bx_eq hr he
          have hg := bx_un hr hg
          refine bk_145_67 (cq_V_I (cc_76 (d := d + 3) (by first | decide | (unfold isS; decide) | (unfold isS; omega)) (by first | decide | (unfold isS; decide) | (unfold isS; omega)))) ?_
          rintro _ _ _ _ ⟨p4, hr, rfl, rfl, rfl, rfl⟩
          have he := bx_eq hr he
          have hg := bx_un hr hg
          refine bk_145_78 (fun h12 => ?_) (fun h12 => ?_) (fun h12 => ?_) (fun h12 => ?_) (fun h12x0 h12x1 h12x2 h12x3 => ?_)
          · have he := ite_p h12 he
            have hg := hg.1 h12
            have k13 := hg
            refine bk_145_108 (cq_I_I (cc_147 (d := d + 1) hp1 k13)) ?_
            rintro _ _ _ _ _ ⟨p5, hr, rfl, rfl, rfl, rfl, rfl⟩
            have he := bx_eq hr he
            exact bk_145_113 (rl_I_I he)
          · have he := ite_n (show ¬ x2 = 0 from fun e => absurd (h12.symm.trans e) (by decide)) he
            have hg := hg.2 (show ¬ x2 = 0 from fun e => absurd (h12.symm.trans e) (by decide))
            have he := ite_p h12 he
            have hg := hg.1 h12
            have k14 := hg
            refine bk_145_114 (cq_I_I (cc_148 (d := d + 0) hp1 k14)) ?_
            rintro _ _ _ _ _ ⟨p6, hr, rfl, rfl, rfl, rfl, rfl⟩
            have he := bx_eq hr he
            exact bk_145_119 (rl_I_I he)
          · have he := ite_n (show ¬ x2 = 0 from fun e => absurd (h12.symm.trans e) (by decide)) he
            have hg := hg.2 (show ¬ x2 = 0 from fun e => absurd (h12.symm.trans e) (by decide))
            have he := ite_n (show ¬ x2 = 1 from fun e => absurd (h12.symm.trans e) (by decide)) he
            have hg := hg.2 (show ¬ x2 = 1 from fun e => absurd (h12.symm.trans e) (by decide))
            have he := ite_p h12 he
            have hg := hg.1 h12
            have k15 := hg
            refine bk_145_120 (cq_I_I (cc_149 (d := d + 0) hp1 k15)) ?_
            rintro _ _ _ _ _ ⟨p7, hr, rfl, rfl, rfl, rfl, rfl⟩
            have he := bx_eq hr he
            exact bk_145_125 (rl_I_I he)
          · have he := ite_n (show ¬ x2 = 0 from fun e => absurd (h12.symm.trans e) (by decide)) he
            have hg := hg.2 (show ¬ x2 = 0 from fun e => absurd (h12.symm.trans e) (by decide))
            have he := ite_n (show ¬ x2 = 1 from fun e => absurd (h12.symm.trans e) (by decide)) he
            have hg := hg.2 (show ¬ x2 = 1 from fun e => absurd (h12.symm.trans e) (by decide))
            have he := ite_n (show ¬ x2 = 2 from fun e => absurd (h12.symm.trans e) (by decide)) he
            have hg := hg.2 (show ¬ x2 = 2 from fun e => absurd (h12.symm.trans e) (by decide))
            have he := ite_p h12 he
            have hg := hg.1 h12
            have k16 := hg
            refine bk_145_126 (cq_I_I (cc_150 (d := d + 0) hp1 k16)) ?_
            rintro _ _ _ _ _ ⟨p8, hr, rfl, rfl, rfl, rfl, rfl⟩
            have he := bx_eq hr he
            exact bk_145_131 (rl_I_I he)
          · have he := ite_n h12x0 he
            have hg := hg.2 h12x0
            have he := ite_n h12x1 he
            have hg := hg.2 h12x1
            have he := ite_n h12x2 he
            have hg := hg.2 h12x2
            have he := ite_n h12x3 he
            have hg := hg.2 h12x3
            have k17 := hg
            refine bk_145_132 (cq_I_I (cc_151 (d := d + 0) hp1 k17)) ?_
            rintro _ _ _ _ _ ⟨p9, hr, rfl, rfl, rfl, rfl, rfl⟩
            have he := bx_eq hr he
            exact bk_145_137 (rl_I_I he)
        · have he := ite_n h8 he
          exact bk_145_45 (rl_I_I he)
      · have he := ite_n h7 he
        exact bk_145_33 (rl_I_I he)
    · have he := ite_n h4 he
      exact bk_145_16 (rl_I_I he)
/-- VectorShelfModel.apart(II)I -/
def v_182 (I : WI) (x1 : Int32) (x2 : Int32) : Int32 := (if (v_179 I x1) = 0 then (-2) else (if (v_179 I x2) = 0 then (-2) else (v_183 I x1 x2)))
def g_182 (I : WI) (x1 : Int32) (x2 : Int32) : Prop := (¬ ((v_179 I x1) = 0) → (¬ ((v_179 I x2) = 0) → (g_183 I x1 x2)))
theorem cc_182 {l : LX} {d : Nat} {I : WI} {F : WF} {L : WL} {t : Nat} {x1 : Int32} {x2 : Int32} (hg : g_182 I x1 x2) : Con l 182 (d + 4) 0 0 [.ref 74, .int x1, .int x2] SH (I, F, L, RT t) (rI (v_182 I x1 x2) (I, F, L, RT t)) := by
  refine cn_182 ?_
  obtain ⟨T1, hT1⟩ : ∃ r : Int32, r = (v_182 I x1 x2) := ⟨_, rfl⟩
  rw [← hT1]
  have he := (hT1.trans (v_182.eq_1 ..)).symm
  have hg := Eq.mp (g_182.eq_1 ..) hg
  refine bk_182_0 (cc_179 (d := d + 2) ) ?_
  refine bk_182_5 (fun h2 => ?_) (fun h2 => ?_)
  · have he := ite_p h2 he
    refine bk_182_25 ?_
    exact bk_182_27 (rl_p_I he)
  · have he := ite_n h2 he
    have hg := hg h2
    refine bk_182_8 (cc_179 (d := d + 2) ) ?_
    refine bk_182_13 (fun h4 => ?_) (fun h4 => ?_)
    · have he := ite_p h4 he
      refine bk_182_25 ?_
      exact bk_182_27 (rl_p_I he)
    · have he := ite_n h4 he
      have hg := hg h4
      have k5 := hg
      refine bk_182_16 (cc_183 (d := d + 0)  k5) ?_
      refine bk_182_22 ?_
      exact bk_182_27 (rl_p_I he)
/-- the loop at 26 of VectorShelfModel.friend -/
def lp_245_26 (I : WI) (x1 : Int32) (a3 : Int32) : Nat → Int32
  | 0 => a3
  | k + 1 => bx (lp_245_26 I x1 a3 k) (fun p1 => (bx ((if (v_180 I (nI k)) = 0 then 0 else (if ¬ (v_246 I (nI k)) = x1 then 0 else 1)) : Int32) (fun p2 => (p1 ||| (p2 <<< ((nI k) &&& 31))))))
def gl_245_26 (I : WI) (x1 : Int32) (a3 : Int32) (N : Nat) : Prop := (∀ k, k < N → bx (lp_245_26 I x1 a3 k) (fun p1 => ((g_180 I (nI k)) ∧ (¬ ((v_180 I (nI k)) = 0) → (g_246 I (nI k))))))
theorem lw_245_26 {l : LX} {d : Nat} {P : RP} {I : WI} {F : WF} {L : WL} {t : Nat} {x1 : Int32} {x2 : Int32} {a3 : Int32} (hgl : gl_245_26 I x1 a3 ((I 74 18).toNatClampNeg)) (hx : ∀ p1 : Int32, p1 = lp_245_26 I x1 a3 ((I 74 18).toNatClampNeg) → Wp l 245 (d + 5) 0 0 P 0 0 71 [(0, .ref 74), (1, .int x1), (2, .int x2), (3, .int p1)] [] SH (I, F, L, RT t)) : Wp l 245 (d + 5) 0 0 P 0 0 26 [(0, .ref 74), (1, .int x1), (2, .int x2), (3, .int a3), (4, .int 0)] [] SH (I, F, L, RT t) := by
  have hin := hgl
  have loop : ∀ m k, k + m = (I 74 18).toNatClampNeg → ∀ p1 : Int32, p1 = lp_245_26 I x1 a3 k → Wp l 245 (d + 5) 0 0 P 0 0 26 [(0, .ref 74), (1, .int x1), (2, .int x2), (3, .int p1), (4, .int (nI k))] [] SH (I, F, L, RT t) := by
    intro m
    induction m with
    | zero =>
      intro k hk p1 hs
      obtain rfl : k = (I 74 18).toNatClampNeg := by omega
      exact bk_245_26  (fun _ => hx _ hs) (fun h => absurd ((le_cl (Nat.le_refl _)).mpr rfl) h)
    | succ m ih =>
      intro k hk p1 hs
      have hk2 : k < (I 74 18).toNatClampNeg := by omega
      have ih := ih (k + 1) (by omega)
      rw [nI_succ] at ih
      have he := bx_eq hs (lp_245_26.eq_2 ..).symm
      have hg := bx_un hs (hin k hk2)
      refine bk_245_26  (fun h => absurd ((le_cl (E := (I 74 18)) (i := k) (by omega)).mp h) (by omega)) (fun _ => ?_)
      obtain ⟨k5, hg⟩ := hg
      refine bk_245_35 (cc_180 (d := d + 4)  k5) ?_
      have hgX := hg
      obtain ⟨X1, hX1⟩ : ∃ r : Int32, r = (if (v_180 I (nI k)) = 0 then 0 else (if ¬ (v_246 I (nI k)) = x1 then 0 else 1)) := ⟨_, rfl⟩
      have J1 : ∀ p2 : Int32, p2 = X1 → Wp l 245 (d + 5) 0 0 P 0 0 60 [(0, .ref 74), (1, .int x1), (2, .int x2), (4, .int (nI k))] [.int p2, .int p1] SH (I, F, L, RT t) := by
        intro p2 hr
        have hr := hr.trans hX1
        have he := bx_eq hr he
        refine bk_245_60 ?_
        exact ih (p1 ||| (p2 <<< ((nI k) &&& 31))) he
      have he := hX1.symm
      have hg := hgX
      refine bk_245_42 (fun h6 => ?_) (fun h6 => ?_)
      · have he := ite_p h6 he
        refine bk_245_59 ?_
        exact J1 0 he
      · have he := ite_n h6 he
        have hg := hg h6
        have k7 := hg
        refine bk_245_45 (cc_246 (d := d + 0)  k7) ?_
        refine bk_245_51 (fun h8 => ?_) (fun h8 => ?_)
        · have he := ite_p h8 he
          refine bk_245_59 ?_
          exact J1 0 he
        · have he := ite_n h8 he
          refine bk_245_55 ?_
          exact J1 1 he
  exact loop _ 0 (Nat.zero_add _) _ rfl
/-- VectorShelfModel.friend(II)I -/
def v_245 (I : WI) (x1 : Int32) (x2 : Int32) : Int32 := (if (v_179 I x1) = 0 then (-2) else (if ¬ (v_170 (Int32.toInt64 x2) (0 : Int64) (1 : Int64)) = 0 then (bx ((lp_245_26 I x1 (0 : Int32) ((I 74 18).toNatClampNeg)) : Int32) (fun p3 => (if ¬ x2 = 0 then p3 else (v_246 I x1)))) else (-2)))
def g_245 (I : WI) (x1 : Int32) (x2 : Int32) : Prop := (¬ ((v_179 I x1) = 0) → ((¬ (v_170 (Int32.toInt64 x2) (0 : Int64) (1 : Int64)) = 0) → ((gl_245_26 I x1 (0 : Int32) ((I 74 18).toNatClampNeg)) ∧ (bx ((lp_245_26 I x1 (0 : Int32) ((I 74 18).toNatClampNeg)) : Int32) (fun p3 => (¬ (¬ x2 = 0) → (g_246 I x1)))))))
theorem cc_245 {l : LX} {d : Nat} {I : WI} {F : WF} {L : WL} {t : Nat} {x1 : Int32} {x2 : Int32} (hg : g_245 I x1 x2) : Con l 245 (d + 5) 0 0 [.ref 74, .int x1, .int x2] SH (I, F, L, RT t) (rI (v_245 I x1 x2) (I, F, L, RT t)) := by
  refine cn_245 ?_
  obtain ⟨T1, hT1⟩ : ∃ r : Int32, r = (v_245 I x1 x2) := ⟨_, rfl⟩
  rw [← hT1]
  have he := (hT1.trans (v_245.eq_1 ..)).symm
  have hg := Eq.mp (g_245.eq_1 ..) hg
  refine bk_245_0 (cc_179 (d := d + 3) ) ?_
  refine bk_245_5 (fun h2 => ?_) (fun h2 => ?_)
  · have he := ite_p h2 he
    exact bk_245_18 (rl_p_I he)
  · have he := ite_n h2 he
    have hg := hg h2
    refine bk_245_8 (cc_170 (d := d + 4) ) ?_
    refine bk_245_15 (fun h4 => ?_) (fun h4 => ?_)
    · have he := ite_p h4 he
      have hg := hg h4
      refine bk_245_21 ?_
      obtain ⟨hgX, hg⟩ := hg
      refine lw_245_26 (d := d)  hgX (fun p3 hr => ?_)
      have he := bx_eq hr he
      have hg := bx_un hr hg
      refine bk_245_71 (fun h9 => ?_) (fun h9 => ?_)
      · have he := ite_p h9 he
        refine bk_245_83 ?_
        exact bk_245_84 (rl_p_I he)
      · have he := ite_n h9 he
        have hg := hg h9
        have k10 := hg
        refine bk_245_75 (cc_246 (d := d + 0)  k10) ?_
        refine bk_245_80 ?_
        exact bk_245_84 (rl_p_I he)
    · have he := ite_n h4 he
      exact bk_245_18 (rl_p_I he)
/-- the loop at 36 of VectorShelfModel.spread -/
def lp_248_36 (I : WI) (x2 : Int32) (a3 : Int32) (a5 : Int32) : Nat → Int32 × Int32
  | 0 => (a3, a5)
  | k + 1 => bx (lp_248_36 I x2 a3 a5 k) (fun p1 => (bx ((if (v_180 I (nI k)) = 0 then (p1.1, p1.2) else (if ¬ ((x2 >>> ((nI k) &&& 31)) &&& 1) = 0 then (p1.1, p1.2) else (if p1.1 = (-1) then ((nI k), (v_249 I (nI k) x2)) else (if (v_249 I (nI k) x2) ≤ p1.2 then (p1.1, p1.2) else ((nI k), (v_249 I (nI k) x2)))))) : Int32 × Int32) (fun p2 => (p2.1, p2.2))))
def gl_248_36 (I : WI) (x2 : Int32) (a3 : Int32) (a5 : Int32) (N : Nat) : Prop := (∀ k, k < N → bx (lp_248_36 I x2 a3 a5 k) (fun p1 => ((g_180 I (nI k)) ∧ (¬ ((v_180 I (nI k)) = 0) → (¬ (¬ ((x2 >>> ((nI k) &&& 31)) &&& 1) = 0) → (g_249 I (nI k) x2))))))
theorem lw_248_36 {l : LX} {d : Nat} {P : RP} {I : WI} {F : WF} {L : WL} {t : Nat} {x1 : Int32} {x2 : Int32} {x4 : Int32} {a3 : Int32} {a5 : Int32} (hgl : gl_248_36 I x2 a3 a5 ((I 74 18).toNatClampNeg)) (hx : ∀ p1 : Int32 × Int32, p1 = lp_248_36 I x2 a3 a5 ((I 74 18).toNatClampNeg) → Wp l 248 (d + 5) 0 0 P 0 0 97 [(0, .ref 74), (1, .int x1), (2, .int x2), (3, .int p1.1), (4, .int x4)] [] SH (I, F, L, RT t)) : Wp l 248 (d + 5) 0 0 P 0 0 36 [(0, .ref 74), (1, .int x1), (2, .int x2), (3, .int a3), (4, .int x4), (5, .int a5), (6, .int 0)] [] SH (I, F, L, RT t) := by
  have hin := hgl
  have loop : ∀ m k, k + m = (I 74 18).toNatClampNeg → ∀ p1 : Int32 × Int32, p1 = lp_248_36 I x2 a3 a5 k → Wp l 248 (d + 5) 0 0 P 0 0 36 [(0, .ref 74), (1, .int x1), (2, .int x2), (3, .int p1.1), (4, .int x4), (5, .int p1.2), (6, .int (nI k))] [] SH (I, F, L, RT t) := by
    intro m
    induction m with
    | zero =>
      intro k hk p1 hs
      obtain rfl : k = (I 74 18).toNatClampNeg := by omega
      exact bk_248_36  (fun _ => hx _ hs) (fun h => absurd ((le_cl (Nat.le_refl _)).mpr rfl) h)
    | succ m ih =>
      intro k hk p1 hs
      have hk2 : k < (I 74 18).toNatClampNeg := by omega
      have ih := ih (k + 1) (by omega)
      rw [nI_succ] at ih
      have he := bx_eq hs (lp_248_36.eq_2 ..).symm
      have hg := bx_un hs (hin k hk2)
      refine bk_248_36  (fun h => absurd ((le_cl (E := (I 74 18)) (i := k) (by omega)).mp h) (by omega)) (fun _ => ?_)
      obtain ⟨k4, hg⟩ := hg
      refine bk_248_45 (cc_180 (d := d + 4)  k4) ?_
      have hgX := hg
      obtain ⟨X1, hX1⟩ : ∃ r : Int32 × Int32, r = (if (v_180 I (nI k)) = 0 then (p1.1, p1.2) else (if ¬ ((x2 >>> ((nI k) &&& 31)) &&& 1) = 0 then (p1.1, p1.2) else (if p1.1 = (-1) then ((nI k), (v_249 I (nI k) x2)) else (if (v_249 I (nI k) x2) ≤ p1.2 then (p1.1, p1.2) else ((nI k), (v_249 I (nI k) x2)))))) := ⟨_, rfl⟩
      have J1 : ∀ p2 : Int32 × Int32, p2 = X1 → Wp l 248 (d + 5) 0 0 P 0 0 91 [(0, .ref 74), (1, .int x1), (2, .int x2), (3, .int p2.1), (4, .int x4), (5, .int p2.2), (6, .int (nI k))] [] SH (I, F, L, RT t) := by
        intro p2 hr
        have hr := hr.trans hX1
        have he := bx_eq hr he
        refine bk_248_91 ?_
        exact ih (p2.1, p2.2) he
      have he := hX1.symm
      have hg := hgX
      refine bk_248_51 (fun h5 => ?_) (fun h5 => ?_)
      · have he := ite_p h5 he
        exact J1 (p1.1, p1.2) he
      · have he := ite_n h5 he
        have hg := hg h5
        refine bk_248_54 (fun h6 => ?_) (fun h6 => ?_)
        · have he := ite_p h6 he
          exact J1 (p1.1, p1.2) he
        · have he := ite_n h6 he
          have hg := hg h6
          have k7 := hg
          refine bk_248_63 (cc_249 (d := d + 0)  k7) ?_
          refine bk_248_70 (fun h8 => ?_) (fun h8 => ?_)
          · have he := ite_p h8 he
            refine bk_248_84 ?_
            exact J1 ((nI k), (v_249 I (nI k) x2)) he
          · have he := ite_n h8 he
            refine bk_248_77 (fun h9 => ?_) (fun h9 => ?_)
            · have he := ite_p h9 he
              exact J1 (p1.1, p1.2) he
            · have he := ite_n h9 he
              refine bk_248_84 ?_
              exact J1 ((nI k), (v_249 I (nI k) x2)) he
  exact loop _ 0 (Nat.zero_add _) _ rfl
/-- the loop at 22 of VectorShelfModel.spread -/
def lp_248_22 (I : WI) (x1 : Int32) : Nat → Int32 → Int32 → Int32 → Int32
  | 0, x2, x3, x4 => 0
  | k + 1, x2, x3, x4 => (if x1 < x4 then x3 else (bx ((lp_248_36 I x2 ((-1) : Int32) (0 : Int32) ((I 74 18).toNatClampNeg)) : Int32 × Int32) (fun p3 => (if ¬ p3.1 = (-1) then (lp_248_22 I x1 k (x2 ||| (1 <<< (p3.1 &&& 31))) p3.1 (x4 + 1)) else (-1)))))
def gl_248_22 (I : WI) (x1 : Int32) : Nat → Int32 → Int32 → Int32 → Prop
  | 0, _, _, _ => False
  | k + 1, x2, x3, x4 => (¬ (x1 < x4) → ((gl_248_36 I x2 ((-1) : Int32) (0 : Int32) ((I 74 18).toNatClampNeg)) ∧ (bx ((lp_248_36 I x2 ((-1) : Int32) (0 : Int32) ((I 74 18).toNatClampNeg)) : Int32 × Int32) (fun p3 => ((¬ p3.1 = (-1)) → (gl_248_22 I x1 k (x2 ||| (1 <<< (p3.1 &&& 31))) p3.1 (x4 + 1)))))))
theorem lw_248_22 {l : LX} {d : Nat} {I : WI} {F : WF} {L : WL} {t : Nat} {x1 : Int32} : ∀ k : Nat, ∀ (x2 : Int32) (x3 : Int32) (x4 : Int32), gl_248_22 I x1 k x2 x3 x4 → Wp l 248 (d + 5) 0 0 (rI (lp_248_22 I x1 k x2 x3 x4) (I, F, L, RT t)) 0 0 22 [(0, .ref 74), (1, .int x1), (2, .int x2), (3, .int x3), (4, .int x4)] [] SH (I, F, L, RT t) := by
  intro k
  induction k with
  | zero =>
    intro x2 x3 x4 hg
    exact hg.elim
  | succ k ih =>
    intro x2 x3 x4 hg
    have hg := Eq.mp (gl_248_22.eq_2 ..) hg
    obtain ⟨T1, hT1⟩ : ∃ r : Int32, r = lp_248_22 I x1 (k + 1) x2 x3 x4 := ⟨_, rfl⟩
    rw [← hT1]
    have he := (hT1.trans (lp_248_22.eq_2 ..)).symm
    refine bk_248_22 (fun h3 => ?_) (fun h3 => ?_)
    · have he := ite_p h3 he
      exact bk_248_116 (rl_p_I he)
    · have he := ite_n h3 he
      have hg := hg h3
      refine bk_248_28 ?_
      obtain ⟨hgX, hg⟩ := hg
      refine lw_248_36 (d := d)  hgX (fun p3 hr => ?_)
      have he := bx_eq hr he
      have hg := bx_un hr hg
      refine bk_248_97 (fun h10 => ?_) (fun h10 => ?_)
      · have he := ite_p h10 he
        have hg := hg h10
        refine bk_248_104 ?_
        exact Wp_eq (post := fun r => (rI r (I, F, L, RT t))) he (ih (x2 ||| (1 <<< (p3.1 &&& 31))) p3.1 (x4 + 1) hg)
      · have he := ite_n h10 he
        exact bk_248_102 (rl_p_I he)
/-- VectorShelfModel.spread(I)I -/
def v_248 (I : WI) (x1 : Int32) : Int32 := (if ¬ (v_170 (Int32.toInt64 x1) (0 : Int64) (11 : Int64)) = 0 then (lp_248_22 I x1 400 (0 : Int32) ((-1) : Int32) (0 : Int32)) else (-2))
def g_248 (I : WI) (x1 : Int32) : Prop := ((¬ (v_170 (Int32.toInt64 x1) (0 : Int64) (11 : Int64)) = 0) → (gl_248_22 I x1 400 (0 : Int32) ((-1) : Int32) (0 : Int32)))
theorem cc_248 {l : LX} {d : Nat} {I : WI} {F : WF} {L : WL} {t : Nat} {x1 : Int32} (hg : g_248 I x1) : Con l 248 (d + 5) 0 0 [.ref 74, .int x1] SH (I, F, L, RT t) (rI (v_248 I x1) (I, F, L, RT t)) := by
  refine cn_248 ?_
  obtain ⟨T1, hT1⟩ : ∃ r : Int32, r = (v_248 I x1) := ⟨_, rfl⟩
  rw [← hT1]
  have he := (hT1.trans (v_248.eq_1 ..)).symm
  have hg := Eq.mp (g_248.eq_1 ..) hg
  refine bk_248_0 (cc_170 (d := d + 4) ) ?_
  refine bk_248_9 (fun h2 => ?_) (fun h2 => ?_)
  · have he := ite_p h2 he
    have hg := hg h2
    refine bk_248_15 ?_
    exact Wp_eq (post := fun r => (rI r (I, F, L, RT t))) he (lw_248_22 (d := d)  400 (0 : Int32) ((-1) : Int32) (0 : Int32) hg)
  · have he := ite_n h2 he
    exact bk_248_12 (rl_p_I he)
end
