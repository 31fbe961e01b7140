section
/-- the loop at 26 of VectorShelfModel.costs -/
noncomputable def st_256_26 (I : WI) (L : WL) (a2 : Int64) (a4 : Int64) (k : Nat) (p2 : Int64 × Int64 × WI × WL) : Int64 × Int64 × WI × WL := (bx ((if (v_180 p2.2.2.1 (nI k)) = 0 then (p2.1, p2.2.1, p2.2.2.1, p2.2.2.2) else (bx ((v_257 p2.2.2.1 (nI k)) : WI) (fun p3 => (bx ((v_237 p3 p2.2.2.2 (1 : Int32)) : WI × WL) (fun p4 => ((p2.1 + (Int32.toInt64 (p4.1 74 46))), (p2.2.1 + 1), p4.1, p4.2)))))) : Int64 × Int64 × WI × WL) (fun p5 => (p5.1, p5.2.1, p5.2.2.1, p5.2.2.2)))
noncomputable def lp_256_26 (I : WI) (L : WL) (a2 : Int64) (a4 : Int64) (n : Nat) : Int64 × Int64 × WI × WL := Nat.rec (motive := fun _ => Int64 × Int64 × WI × WL) (a2, a4, I, L) (fun k r => st_256_26 I L a2 a4 k r) n
theorem le_256_26 (I : WI) (L : WL) (a2 : Int64) (a4 : Int64) (k : Nat) : lp_256_26 I L a2 a4 (k + 1) = st_256_26 I L a2 a4 k (lp_256_26 I L a2 a4 k) := rfl
noncomputable def gl_256_26 (I : WI) (L : WL) (a2 : Int64) (a4 : Int64) (N : Nat) : Prop := ((∀ k, k < N → bx (lp_256_26 I L a2 a4 k) (fun p2 => (((p2.2.2.1 74 18) = (I 74 18)) ∧ ((g_180 p2.2.2.1 (nI k)) ∧ (¬ ((v_180 p2.2.2.1 (nI k)) = 0) → ((g_257 p2.2.2.1 (nI k)) ∧ (bx ((v_257 p2.2.2.1 (nI k)) : WI) (fun p3 => (g_237 p3 p2.2.2.2 (1 : Int32)))))))))) ∧ (bx (lp_256_26 I L a2 a4 N) (fun p2 => (p2.2.2.1 74 18) = (I 74 18))))
theorem lw_256_26 {l : LX} {d : Nat} {P : RP} {I : WI} {F : WF} {L : WL} {t : Nat} {x1 : Int32} {a2 : Int64} {a4 : Int64} (hgl : gl_256_26 I L a2 a4 ((I 74 18).toNatClampNeg)) (hx : ∀ p2 : Int64 × Int64 × WI × WL, p2 = lp_256_26 I L a2 a4 ((I 74 18).toNatClampNeg) → Wp l 256 (d + 178) 0 0 P 0 0 75 [(0, .ref 74), (1, .int x1), (2, .long p2.1), (4, .long p2.2.1)] [] SH (p2.2.2.1, F, p2.2.2.2, RT t)) : Wp l 256 (d + 178) 0 0 P 0 0 26 [(0, .ref 74), (1, .int x1), (2, .long a2), (4, .long a4), (6, .int 0)] [] SH (I, F, L, RT t) := by
  obtain ⟨hin, hend⟩ := hgl
  have loop : ∀ m k, k + m = (I 74 18).toNatClampNeg → ∀ p2 : Int64 × Int64 × WI × WL, p2 = lp_256_26 I L a2 a4 k → Wp l 256 (d + 178) 0 0 P 0 0 26 [(0, .ref 74), (1, .int x1), (2, .long p2.1), (4, .long p2.2.1), (6, .int (nI k))] [] SH (p2.2.2.1, F, p2.2.2.2, RT t) := by
    intro m
    induction m with
    | zero =>
      intro k hk p2 hs
      obtain rfl : k = (I 74 18).toNatClampNeg := by omega
      have hE := bx_un hs hend
      exact bk_256_26  (fun _ => hx _ hs) (fun h => absurd ((show (p2.2.2.1 74 18) ≤ (nI ((I 74 18).toNatClampNeg)) from by rw [show (p2.2.2.1 74 18) = (I 74 18) from hE]; exact (le_cl (Nat.le_refl _)).mpr rfl)) h)
    | succ m ih =>
      intro k hk p2 hs
      have hk2 : k < (I 74 18).toNatClampNeg := by omega
      have ih := ih (k + 1) (by omega)
      rw [nI_succ] at ih
      have he := (st_256_26.eq_1 ..).symm.trans (st_ap hs (le_256_26 ..))
      have hg := bx_un hs (hin k hk2)
      have hE : (p2.2.2.1 74 18) = (I 74 18) := hg.1
      have hg := hg.2
      refine bk_256_26  (fun h => absurd ((le_cl (E := (I 74 18)) (i := k) (by omega)).mp (by rw [show (p2.2.2.1 74 18) = (I 74 18) from hE] at h; exact h)) (by omega)) (fun _ => ?_)
      obtain ⟨k4, hg⟩ := hg
      refine bk_256_35 (cc_180 (d := d + 177)  k4) ?_
      have hgX := hg
      obtain ⟨X1, hX1⟩ : ∃ r : Int64 × Int64 × WI × WL, r = (if (v_180 p2.2.2.1 (nI k)) = 0 then (p2.1, p2.2.1, p2.2.2.1, p2.2.2.2) else (bx ((v_257 p2.2.2.1 (nI k)) : WI) (fun p3 => (bx ((v_237 p3 p2.2.2.2 (1 : Int32)) : WI × WL) (fun p4 => ((p2.1 + (Int32.toInt64 (p4.1 74 46))), (p2.2.1 + 1), p4.1, p4.2)))))) := ⟨_, rfl⟩
      have J1 : ∀ p5 : Int64 × Int64 × WI × WL, p5 = X1 → Wp l 256 (d + 178) 0 0 P 0 0 69 [(0, .ref 74), (1, .int x1), (2, .long p5.1), (4, .long p5.2.1), (6, .int (nI k))] [] SH (p5.2.2.1, F, p5.2.2.2, RT t) := by
        intro p5 hr
        have hr := hr.trans hX1
        have he := bx_eq hr he
        refine bk_256_69 ?_
        exact ih (p5.1, p5.2.1, p5.2.2.1, p5.2.2.2) he
      have he := hX1.symm
      have hg := hgX
      refine bk_256_41 (fun h5 => ?_) (fun h5 => ?_)
      · have he := ite_p h5 he
        exact J1 (p2.1, p2.2.1, p2.2.2.1, p2.2.2.2) he
      · have he := ite_n h5 he
        have hg := hg h5
        obtain ⟨k6, hg⟩ := hg
        refine bk_256_44 (cq_V_I (cc_257 (d := d + 177)  k6)) ?_
        rintro _ _ _ _ ⟨p3, hr, rfl, rfl, rfl, rfl⟩
        have he := bx_eq hr he
        have hg := bx_un hr hg
        have k7 := hg
        refine bk_256_50 (cq_V_IL (cc_237 (d := d + 177) (by omega)  k7)) ?_
        rintro _ _ _ _ ⟨p4, hr, rfl, rfl, rfl, rfl⟩
        have he := bx_eq hr he
        refine bk_256_55 ?_
        exact J1 ((p2.1 + (Int32.toInt64 (p4.1 74 46))), (p2.2.1 + 1), p4.1, p4.2) he
  exact loop _ 0 (Nat.zero_add _) _ rfl
/-- VectorShelfModel.costs(I)J -/
noncomputable def v_256 (I : WI) (L : WL) (x1 : Int32) : Int64 × WI × WL := (if ¬ (v_170 (Int32.toInt64 x1) (0 : Int64) (1 : Int64)) = 0 then (bx ((v_234 I) : WI) (fun p1 => (bx ((lp_256_26 p1 L (0 : Int64) (0 : Int64) ((p1 74 18).toNatClampNeg)) : Int64 × Int64 × WI × WL) (fun p6 => (bx ((v_235 p6.2.2.1) : WI) (fun p7 => (if ¬ (lg_cmp p6.2.1 0) = 0 then ((v_258 p6.1 p6.2.1 x1), p7, p6.2.2.2) else ((-4611686018427387904), p7, p6.2.2.2)))))))) else ((-4611686018427387904), I, L))
noncomputable def g_256 (I : WI) (L : WL) (x1 : Int32) : Prop := ((¬ (v_170 (Int32.toInt64 x1) (0 : Int64) (1 : Int64)) = 0) → ((g_234 I) ∧ (bx ((v_234 I) : WI) (fun p1 => ((gl_256_26 p1 L (0 : Int64) (0 : Int64) ((p1 74 18).toNatClampNeg)) ∧ (bx ((lp_256_26 p1 L (0 : Int64) (0 : Int64) ((p1 74 18).toNatClampNeg)) : Int64 × Int64 × WI × WL) (fun p6 => ((g_235 p6.2.2.1) ∧ (bx ((v_235 p6.2.2.1) : WI) (fun p7 => ((¬ (lg_cmp p6.2.1 0) = 0) → (g_258 p6.1 p6.2.1 x1))))))))))))
theorem cc_256 {l : LX} {d : Nat} {I : WI} {F : WF} {L : WL} {t : Nat} {x1 : Int32} (hd : 178 ≤ d) (hg : g_256 I L x1) : Con l 256 d 0 0 [.ref 74, .int x1] SH (I, F, L, RT t) (po_J_IL F t (v_256 I L x1)) := by
  obtain ⟨d, rfl⟩ : ∃ e, d = e + 178 := ⟨d - 178, by omega⟩
  refine cn_256 ?_
  obtain ⟨T1, hT1⟩ : ∃ r : Int64 × WI × WL, r = (v_256 I L x1) := ⟨_, rfl⟩
  rw [← hT1]
  have he := (hT1.trans (v_256.eq_1 ..)).symm
  have hg := Eq.mp (g_256.eq_1 ..) hg
  refine bk_256_0 (cc_170 (d := d + 177) ) ?_
  refine bk_256_7 (fun h2 => ?_) (fun h2 => ?_)
  · have he := ite_p h2 he
    have hg := hg h2
    obtain ⟨k3, hg⟩ := hg
    refine bk_256_14 (cq_V_I (cc_234 (d := d + 177)  k3)) ?_
    rintro _ _ _ _ ⟨p1, hr, rfl, rfl, rfl, rfl⟩
    have he := bx_eq hr he
    have hg := bx_un hr hg
    refine bk_256_18 ?_
    obtain ⟨hgX, hg⟩ := hg
    refine lw_256_26 (d := d)  hgX (fun p6 hr => ?_)
    have he := bx_eq hr he
    have hg := bx_un hr hg
    obtain ⟨k8, hg⟩ := hg
    refine bk_256_75 (cq_V_I (cc_235 (d := d + 177)  k8)) ?_
    rintro _ _ _ _ ⟨p7, hr, rfl, rfl, rfl, rfl⟩
    have he := bx_eq hr he
    have hg := bx_un hr hg
    refine bk_256_79 (fun h9 => ?_) (fun h9 => ?_)
    · have he := ite_p h9 he
      have hg := hg h9
      have k10 := hg
      refine bk_256_92 (cc_258 (d := d + 177)  k10) ?_
      exact bk_256_99 (rl_J_IL he)
    · have he := ite_n h9 he
      refine bk_256_86 ?_
      exact bk_256_99 (rl_J_IL he)
  · have he := ite_n h2 he
    exact bk_256_10 (rl_J_IL he)
/-- the loop at 58 of VectorShelfModel.lot -/
def lp_260_58 (I : WI) (x1 : Int32) (x7 : Int32) : Nat → WI
  | 0 => I
  | k + 1 => bx (lp_260_58 I x1 x7 k) (fun p3 => (up2 p3 79 (nI k).toNatClampNeg (v_259 (x1 + x7) (nI k))))
def gl_260_58 (I : WI) (x1 : Int32) (x7 : Int32) (N : Nat) : Prop := (∀ k, k < N → bx (lp_260_58 I x1 x7 k) (fun p3 => ((g_259 (x1 + x7) (nI k)) ∧ (vp_in (nI k) 3))))
theorem lw_260_58 {l : LX} {d : Nat} {P : RP} {I : WI} {F : WF} {L : WL} {t : Nat} {x1 : Int32} {x2 : Int32} {x3 : Int32} {x4 : Int32} {y5 : Int64} {x7 : Int32} (hgl : gl_260_58 I x1 x7 ((3 : Int32).toNatClampNeg)) (hx : ∀ p3 : WI, p3 = lp_260_58 I x1 x7 ((3 : Int32).toNatClampNeg) → Wp l 260 (d + 178) 0 0 P 0 0 87 [(0, .ref 74), (1, .int x1), (2, .int x2), (3, .int x3), (4, .int x4), (5, .long y5), (7, .int x7)] [] SH (p3, F, L, RT t)) : Wp l 260 (d + 178) 0 0 P 0 0 58 [(0, .ref 74), (1, .int x1), (2, .int x2), (3, .int x3), (4, .int x4), (5, .long y5), (7, .int x7), (8, .int 0)] [] SH (I, F, L, RT t) := by
  have hin := hgl
  have loop : ∀ m k, k + m = (3 : Int32).toNatClampNeg → ∀ p3 : WI, p3 = lp_260_58 I x1 x7 k → Wp l 260 (d + 178) 0 0 P 0 0 58 [(0, .ref 74), (1, .int x1), (2, .int x2), (3, .int x3), (4, .int x4), (5, .long y5), (7, .int x7), (8, .int (nI k))] [] SH (p3, F, L, RT t) := by
    intro m
    induction m with
    | zero =>
      intro k hk p3 hs
      obtain rfl : k = (3 : Int32).toNatClampNeg := by omega
      exact bk_260_58  (fun _ => hx _ hs) (fun h => absurd ((le_cl (Nat.le_refl _)).mpr rfl) h)
    | succ m ih =>
      intro k hk p3 hs
      have hk2 : k < (3 : Int32).toNatClampNeg := by omega
      have ih := ih (k + 1) (by omega)
      rw [nI_succ] at ih
      have he := bx_eq hs (lp_260_58.eq_2 ..).symm
      have hg := bx_un hs (hin k hk2)
      refine bk_260_58  (fun h => absurd ((le_cl (E := 3) (i := k) (by omega)).mp h) (by omega)) (fun _ => ?_)
      obtain ⟨k8, hg⟩ := hg
      refine bk_260_64 (cc_259 (d := d + 176)  k8) ?_
      have k9 := hg
      refine bk_260_80 k9 ?_
      exact ih (up2 p3 79 (nI k).toNatClampNeg (v_259 (x1 + x7) (nI k))) he
  exact loop _ 0 (Nat.zero_add _) _ rfl
/-- the loop at 49 of VectorShelfModel.lot -/
noncomputable def st_260_49 (I : WI) (L : WL) (x1 : Int32) (x3 : Int32) (a5 : Int64) (k : Nat) (p2 : Int64 × WI × WL) : Int64 × WI × WL := (bx ((lp_260_58 p2.2.1 x1 (nI k) ((3 : Int32).toNatClampNeg)) : WI) (fun p4 => (bx ((v_237 p4 p2.2.2 (1 : Int32)) : WI × WL) (fun p5 => (bx ((if (p5.1 74 46) ≤ x3 then 0 else 1) : Int64) (fun p6 => ((p2.1 + p6), p5.1, p5.2)))))))
noncomputable def lp_260_49 (I : WI) (L : WL) (x1 : Int32) (x3 : Int32) (a5 : Int64) (n : Nat) : Int64 × WI × WL := Nat.rec (motive := fun _ => Int64 × WI × WL) (a5, I, L) (fun k r => st_260_49 I L x1 x3 a5 k r) n
theorem le_260_49 (I : WI) (L : WL) (x1 : Int32) (x3 : Int32) (a5 : Int64) (k : Nat) : lp_260_49 I L x1 x3 a5 (k + 1) = st_260_49 I L x1 x3 a5 k (lp_260_49 I L x1 x3 a5 k) := rfl
noncomputable def gl_260_49 (I : WI) (L : WL) (x1 : Int32) (x3 : Int32) (a5 : Int64) (N : Nat) : Prop := (∀ k, k < N → bx (lp_260_49 I L x1 x3 a5 k) (fun p2 => ((gl_260_58 p2.2.1 x1 (nI k) ((3 : Int32).toNatClampNeg)) ∧ (bx ((lp_260_58 p2.2.1 x1 (nI k) ((3 : Int32).toNatClampNeg)) : WI) (fun p4 => (g_237 p4 p2.2.2 (1 : Int32)))))))
theorem lw_260_49 {l : LX} {d : Nat} {P : RP} {I : WI} {F : WF} {L : WL} {t : Nat} {x1 : Int32} {x2 : Int32} {x3 : Int32} {x4 : Int32} {a5 : Int64} (hgl : gl_260_49 I L x1 x3 a5 x2.toNatClampNeg) (hx : ∀ p2 : Int64 × WI × WL, p2 = lp_260_49 I L x1 x3 a5 x2.toNatClampNeg → Wp l 260 (d + 178) 0 0 P 0 0 116 [(0, .ref 74), (2, .int x2), (4, .int x4), (5, .long p2.1)] [] SH (p2.2.1, F, p2.2.2, RT t)) : Wp l 260 (d + 178) 0 0 P 0 0 49 [(0, .ref 74), (1, .int x1), (2, .int x2), (3, .int x3), (4, .int x4), (5, .long a5), (7, .int 0)] [] SH (I, F, L, RT t) := by
  have hin := hgl
  have loop : ∀ m k, k + m = x2.toNatClampNeg → ∀ p2 : Int64 × WI × WL, p2 = lp_260_49 I L x1 x3 a5 k → Wp l 260 (d + 178) 0 0 P 0 0 49 [(0, .ref 74), (1, .int x1), (2, .int x2), (3, .int x3), (4, .int x4), (5, .long p2.1), (7, .int (nI k))] [] SH (p2.2.1, F, p2.2.2, RT t) := by
    intro m
    induction m with
    | zero =>
      intro k hk p2 hs
      obtain rfl : k = x2.toNatClampNeg := by omega
      exact bk_260_49  (fun _ => hx _ hs) (fun h => absurd ((le_cl (Nat.le_refl _)).mpr rfl) h)
    | succ m ih =>
      intro k hk p2 hs
      have hk2 : k < x2.toNatClampNeg := by omega
      have ih := ih (k + 1) (by omega)
      rw [nI_succ] at ih
      have he := (st_260_49.eq_1 ..).symm.trans (st_ap hs (le_260_49 ..))
      have hg := bx_un hs (hin k hk2)
      refine bk_260_49  (fun h => absurd ((le_cl (E := x2) (i := k) (by omega)).mp h) (by omega)) (fun _ => ?_)
      refine bk_260_55 ?_
      obtain ⟨hgX, hg⟩ := hg
      refine lw_260_58 (d := d)  hgX (fun p4 hr => ?_)
      have he := bx_eq hr he
      have hg := bx_un hr hg
      have k10 := hg
      refine bk_260_87 (cq_V_IL (cc_237 (d := d + 177) (by omega)  k10)) ?_
      rintro _ _ _ _ ⟨p5, hr, rfl, rfl, rfl, rfl⟩
      have he := bx_eq hr he
      obtain ⟨X1, hX1⟩ : ∃ r : Int64, r = (if (p5.1 74 46) ≤ x3 then 0 else 1) := ⟨_, rfl⟩
      have J1 : ∀ p6 : Int64, p6 = X1 → Wp l 260 (d + 178) 0 0 P 0 0 107 [(0, .ref 74), (1, .int x1), (2, .int x2), (3, .int x3), (4, .int x4), (7, .int (nI k))] [.long p6, .long p2.1] SH (p5.1, F, p5.2, RT t) := by
        intro p6 hr
        have hr := hr.trans hX1
        have he := bx_eq hr he
        refine bk_260_107 ?_
        exact ih ((p2.1 + p6), p5.1, p5.2) he
      have he := hX1.symm
      refine bk_260_92 (fun h11 => ?_) (fun h11 => ?_)
      · have he := ite_p h11 he
        refine bk_260_106 ?_
        exact J1 0 he
      · have he := ite_n h11 he
        refine bk_260_102 ?_
        exact J1 1 he
  exact loop _ 0 (Nat.zero_add _) _ rfl
/-- VectorShelfModel.lot(IIII)J -/
noncomputable def v_260 (I : WI) (L : WL) (x1 : Int32) (x2 : Int32) (x3 : Int32) (x4 : Int32) : Int64 × WI × WL := (if (v_170 (Int32.toInt64 x2) (1 : Int64) (20 : Int64)) = 0 then ((-4611686018427387904), I, L) else (if (v_170 (Int32.toInt64 x3) (0 : Int64) (12 : Int64)) = 0 then ((-4611686018427387904), I, L) else (if ¬ (v_170 (Int32.toInt64 x4) (0 : Int64) (1 : Int64)) = 0 then (bx ((v_234 I) : WI) (fun p1 => (bx ((lp_260_49 p1 L x1 x3 (0 : Int64) x2.toNatClampNeg) : Int64 × WI × WL) (fun p7 => (bx ((v_235 p7.2.1) : WI) (fun p8 => ((v_258 p7.1 (Int32.toInt64 x2) x4), p8, p7.2.2))))))) else ((-4611686018427387904), I, L))))
noncomputable def g_260 (I : WI) (L : WL) (x1 : Int32) (x2 : Int32) (x3 : Int32) (x4 : Int32) : Prop := (¬ ((v_170 (Int32.toInt64 x2) (1 : Int64) (20 : Int64)) = 0) → (¬ ((v_170 (Int32.toInt64 x3) (0 : Int64) (12 : Int64)) = 0) → ((¬ (v_170 (Int32.toInt64 x4) (0 : Int64) (1 : Int64)) = 0) → ((g_234 I) ∧ (bx ((v_234 I) : WI) (fun p1 => ((gl_260_49 p1 L x1 x3 (0 : Int64) x2.toNatClampNeg) ∧ (bx ((lp_260_49 p1 L x1 x3 (0 : Int64) x2.toNatClampNeg) : Int64 × WI × WL) (fun p7 => ((g_235 p7.2.1) ∧ (bx ((v_235 p7.2.1) : WI) (fun p8 => (g_258 p7.1 (Int32.toInt64 x2) x4)))))))))))))
theorem cc_260 {l : LX} {d : Nat} {I : WI} {F : WF} {L : WL} {t : Nat} {x1 : Int32} {x2 : Int32} {x3 : Int32} {x4 : Int32} (hd : 178 ≤ d) (hg : g_260 I L x1 x2 x3 x4) : Con l 260 d 0 0 [.ref 74, .int x1, .int x2, .int x3, .int x4] SH (I, F, L, RT t) (po_J_IL F t (v_260 I L x1 x2 x3 x4)) := by
  obtain ⟨d, rfl⟩ : ∃ e, d = e + 178 := ⟨d - 178, by omega⟩
  refine cn_260 ?_
  obtain ⟨T1, hT1⟩ : ∃ r : Int64 × WI × WL, r = (v_260 I L x1 x2 x3 x4) := ⟨_, rfl⟩
  rw [← hT1]
  have he := (hT1.trans (v_260.eq_1 ..)).symm
  have hg := Eq.mp (g_260.eq_1 ..) hg
  refine bk_260_0 (cc_170 (d := d + 177) ) ?_
  refine bk_260_9 (fun h2 => ?_) (fun h2 => ?_)
  · have he := ite_p h2 he
    exact bk_260_35 (rl_J_IL he)
  · have he := ite_n h2 he
    have hg := hg h2
    refine bk_260_12 (cc_170 (d := d + 177) ) ?_
    refine bk_260_21 (fun h4 => ?_) (fun h4 => ?_)
    · have he := ite_p h4 he
      exact bk_260_35 (rl_J_IL he)
    · have he := ite_n h4 he
      have hg := hg h4
      refine bk_260_24 (cc_170 (d := d + 177) ) ?_
      refine bk_260_32 (fun h6 => ?_) (fun h6 => ?_)
      · have he := ite_p h6 he
        have hg := hg h6
        obtain ⟨k7, hg⟩ := hg
        refine bk_260_39 (cq_V_I (cc_234 (d := d + 177)  k7)) ?_
        rintro _ _ _ _ ⟨p1, hr, rfl, rfl, rfl, rfl⟩
        have he := bx_eq hr he
        have hg := bx_un hr hg
        refine bk_260_43 ?_
        obtain ⟨hgX, hg⟩ := hg
        refine lw_260_49 (d := d)  hgX (fun p7 hr => ?_)
        have he := bx_eq hr he
        have hg := bx_un hr hg
        obtain ⟨k12, hg⟩ := hg
        refine bk_260_116 (cq_V_I (cc_235 (d := d + 177)  k12)) ?_
        rintro _ _ _ _ ⟨p8, hr, rfl, rfl, rfl, rfl⟩
        have he := bx_eq hr he
        have hg := bx_un hr hg
        have k13 := hg
        refine bk_260_120 (cc_258 (d := d + 177)  k13) ?_
        exact bk_260_129 (rl_J_IL he)
      · have he := ite_n h6 he
        exact bk_260_35 (rl_J_IL he)
/-- the loop at 113 of VectorShelfModel.tells -/
noncomputable def st_261_113s (I : WI) (F : WF) (L : WL) (x1 : Int32) (x2 : Int32) (a5 : Int32) (a3 : Int32) (k : Nat) (p3 : Int32 × WI × WL) : Int32 × WI × WL := (bx ((if ¬ x2 = 1 then (if ¬ x2 = 2 then (if ¬ x2 = 3 then (p3.2.1 87 (a5 + nI k).toNatClampNeg) else (p3.2.1 78 4)) else (p3.2.1 74 4)) else (p3.2.1 78 3)) : Int32) (fun p4 => (bx ((if ¬ x2 = 4 then 1 else (if (v_180 p3.2.1 (a5 + nI k)) = 0 then 0 else 1)) : Int32) (fun p5 => (bx ((if ¬ x2 = 4 then (a5 + nI k) else 1) : Int32) (fun p6 => (bx ((v_265 p3.2.1 x2 (a5 + nI k) p6) : WI) (fun p7 => (bx ((if p5 = 0 then (0, p7, p3.2.2) else (bx ((v_263 p7 F p3.2.2 x1) : Int32 × WI × WL) (fun p8 => (if ¬ p8.1 = (-1) then (0, p8.2.1, p8.2.2) else (1, p8.2.1, p8.2.2))))) : Int32 × WI × WL) (fun p9 => (bx ((v_265 p9.2.1 x2 (a5 + nI k) p4) : WI) (fun p10 => ((p3.1 ||| (p9.1 <<< ((a5 + nI k) &&& 31))), p10, p9.2.2)))))))))))))
noncomputable def lp_261_113s (I : WI) (F : WF) (L : WL) (x1 : Int32) (x2 : Int32) (a5 : Int32) (a3 : Int32) (n : Nat) : Int32 × WI × WL := Nat.rec (motive := fun _ => Int32 × WI × WL) (a3, I, L) (fun k r => st_261_113s I F L x1 x2 a5 a3 k r) n
theorem le_261_113s (I : WI) (F : WF) (L : WL) (x1 : Int32) (x2 : Int32) (a5 : Int32) (a3 : Int32) (k : Nat) : lp_261_113s I F L x1 x2 a5 a3 (k + 1) = st_261_113s I F L x1 x2 a5 a3 k (lp_261_113s I F L x1 x2 a5 a3 k) := rfl
noncomputable def gl_261_113s (I : WI) (F : WF) (L : WL) (x1 : Int32) (x2 : Int32) (x4 : Int32) (a5 : Int32) (a3 : Int32) (N : Nat) : Prop := ((x4.toInt < 2147483647) ∧ (∀ k, k < N → bx (lp_261_113s I F L x1 x2 a5 a3 k) (fun p3 => (((¬ x2 = 1) → ((¬ x2 = 2) → ((¬ x2 = 3) → (vp_in (a5 + nI k) 12)))) ∧ (bx ((if ¬ x2 = 1 then (if ¬ x2 = 2 then (if ¬ x2 = 3 then (p3.2.1 87 (a5 + nI k).toNatClampNeg) else (p3.2.1 78 4)) else (p3.2.1 74 4)) else (p3.2.1 78 3)) : Int32) (fun p4 => ((¬ (¬ x2 = 4) → (g_180 p3.2.1 (a5 + nI k))) ∧ (bx ((if ¬ x2 = 4 then 1 else (if (v_180 p3.2.1 (a5 + nI k)) = 0 then 0 else 1)) : Int32) (fun p5 => (bx ((if ¬ x2 = 4 then (a5 + nI k) else 1) : Int32) (fun p6 => ((g_265 x2 (a5 + nI k)) ∧ (bx ((v_265 p3.2.1 x2 (a5 + nI k) p6) : WI) (fun p7 => ((¬ (p5 = 0) → (g_263 p7 F p3.2.2 x1)) ∧ (bx ((if p5 = 0 then (0, p7, p3.2.2) else (bx ((v_263 p7 F p3.2.2 x1) : Int32 × WI × WL) (fun p8 => (if ¬ p8.1 = (-1) then (0, p8.2.1, p8.2.2) else (1, p8.2.1, p8.2.2))))) : Int32 × WI × WL) (fun p9 => (g_265 x2 (a5 + nI k)))))))))))))))))))
theorem lw_261_113s {l : LX} {d : Nat} {P : RP} {I : WI} {F : WF} {L : WL} {t : Nat} {x1 : Int32} {x2 : Int32} {x4 : Int32} {a5 : Int32} {a3 : Int32} (hgl : gl_261_113s I F L x1 x2 x4 a5 a3 ((x4.toInt + 1 - a5.toInt).toNat)) (hx : ∀ p3 : Int32 × WI × WL, p3 = lp_261_113s I F L x1 x2 a5 a3 ((x4.toInt + 1 - a5.toInt).toNat) → Wp l 261 (d + 179) 0 0 P 0 0 248 [(3, .int p3.1)] [] SH (p3.2.1, F, p3.2.2, RT t)) : Wp l 261 (d + 179) 0 0 P 0 0 113 [(0, .ref 74), (1, .int x1), (2, .int x2), (3, .int a3), (4, .int x4), (5, .int a5)] [] SH (I, F, L, RT t) := by
  obtain ⟨hbig, hin⟩ := hgl
  have loop : ∀ m k, k + m = (x4.toInt + 1 - a5.toInt).toNat → ∀ p3 : Int32 × WI × WL, p3 = lp_261_113s I F L x1 x2 a5 a3 k → Wp l 261 (d + 179) 0 0 P 0 0 113 [(0, .ref 74), (1, .int x1), (2, .int x2), (3, .int p3.1), (4, .int x4), (5, .int (a5 + nI k))] [] SH (p3.2.1, F, p3.2.2, RT t) := by
    intro m
    induction m with
    | zero =>
      intro k hk p3 hs
      obtain rfl : k = (x4.toInt + 1 - a5.toInt).toNat := by omega
      exact bk_261_113  (fun _ => hx _ hs) (fun h => absurd ((cl_gt hbig (Nat.le_refl _)).mpr rfl) h)
    | succ m ih =>
      intro k hk p3 hs
      have hk2 : k < (x4.toInt + 1 - a5.toInt).toNat := by omega
      have ih := ih (k + 1) (by omega)
      rw [nI_succ, ← Int32.add_assoc] at ih
      have he := (st_261_113s.eq_1 ..).symm.trans (st_ap hs (le_261_113s ..))
      have hg := bx_un hs (hin k hk2)
      refine bk_261_113  (fun h => absurd ((cl_gt (E := x4) (a := a5) (k := k) hbig (by omega)).mp h) (by omega)) (fun _ => ?_)
      obtain ⟨hgX, hg⟩ := hg
      obtain ⟨X3, hX3⟩ : ∃ r : Int32, r = (if ¬ x2 = 1 then (if ¬ x2 = 2 then (if ¬ x2 = 3 then (p3.2.1 87 (a5 + nI k).toNatClampNeg) else (p3.2.1 78 4)) else (p3.2.1 74 4)) else (p3.2.1 78 3)) := ⟨_, rfl⟩
      have J3 : ∀ p4 : Int32, p4 = X3 → Wp l 261 (d + 179) 0 0 P 0 0 167 [(0, .ref 74), (1, .int x1), (2, .int x2), (3, .int p3.1), (4, .int x4), (5, .int (a5 + nI k))] [.int p4] SH (p3.2.1, F, p3.2.2, RT t) := by
        intro p4 hr
        have hr := hr.trans hX3
        have he := bx_eq hr he
        have hg := bx_un hr hg
        obtain ⟨hgX, hg⟩ := hg
        obtain ⟨X4, hX4⟩ : ∃ r : Int32, r = (if ¬ x2 = 4 then 1 else (if (v_180 p3.2.1 (a5 + nI k)) = 0 then 0 else 1)) := ⟨_, rfl⟩
        have J4 : ∀ p5 : Int32, p5 = X4 → Wp l 261 (d + 179) 0 0 P 0 0 188 [(0, .ref 74), (1, .int x1), (2, .int x2), (3, .int p3.1), (4, .int x4), (5, .int (a5 + nI k)), (6, .int p4)] [.int p5] SH (p3.2.1, F, p3.2.2, RT t) := by
          intro p5 hr
          have hr := hr.trans hX4
          have he := bx_eq hr he
          have hg := bx_un hr hg
          obtain ⟨X5, hX5⟩ : ∃ r : Int32, r = (if ¬ x2 = 4 then (a5 + nI k) else 1) := ⟨_, rfl⟩
          have J5 : ∀ p6 : Int32, p6 = X5 → Wp l 261 (d + 179) 0 0 P 0 0 205 [(0, .ref 74), (1, .int x1), (2, .int x2), (3, .int p3.1), (4, .int x4), (5, .int (a5 + nI k)), (6, .int p4), (7, .int p5)] [.int p6, .int (a5 + nI k), .int x2, .ref 74] SH (p3.2.1, F, p3.2.2, RT t) := by
            intro p6 hr
            have hr := hr.trans hX5
            have he := bx_eq hr he
            have hg := bx_un hr hg
            obtain ⟨k22, hg⟩ := hg
            refine bk_261_205 (cq_V_I (cc_265 (d := d + 178)  k22)) ?_
            rintro _ _ _ _ ⟨p7, hr, rfl, rfl, rfl, rfl⟩
            have he := bx_eq hr he
            have hg := bx_un hr hg
            obtain ⟨hgX, hg⟩ := hg
            obtain ⟨X6, hX6⟩ : ∃ r : Int32 × WI × WL, r = (if p5 = 0 then (0, p7, p3.2.2) else (bx ((v_263 p7 F p3.2.2 x1) : Int32 × WI × WL) (fun p8 => (if ¬ p8.1 = (-1) then (0, p8.2.1, p8.2.2) else (1, p8.2.1, p8.2.2))))) := ⟨_, rfl⟩
            have J6 : ∀ p9 : Int32 × WI × WL, p9 = X6 → Wp l 261 (d + 179) 0 0 P 0 0 228 [(0, .ref 74), (1, .int x1), (2, .int x2), (4, .int x4), (5, .int (a5 + nI k)), (6, .int p4)] [.int p9.1, .int p3.1] SH (p9.2.1, F, p9.2.2, RT t) := by
              intro p9 hr
              have hr := hr.trans hX6
              have he := bx_eq hr he
              have hg := bx_un hr hg
              have k26 := hg
              refine bk_261_228 (cq_V_I (cc_265 (d := d + 178)  k26)) ?_
              rintro _ _ _ _ ⟨p10, hr, rfl, rfl, rfl, rfl⟩
              have he := bx_eq hr he
              refine bk_261_242 ?_
              exact ih ((p3.1 ||| (p9.1 <<< ((a5 + nI k) &&& 31))), p10, p9.2.2) he
            have he := hX6.symm
            have hg := hgX
            refine bk_261_208 (fun h23 => ?_) (fun h23 => ?_)
            · have he := ite_p h23 he
              refine bk_261_227 ?_
              exact J6 (0, p7, p3.2.2) he
            · have he := ite_n h23 he
              have hg := hg h23
              have k24 := hg
              refine bk_261_214 (cq_I_IL (cc_263 (d := d + 178) (by omega)  k24)) ?_
              rintro _ _ _ _ _ ⟨p8, hr, rfl, rfl, rfl, rfl, rfl⟩
              have he := bx_eq hr he
              refine bk_261_219 (fun h25 => ?_) (fun h25 => ?_)
              · have he := ite_p h25 he
                refine bk_261_227 ?_
                exact J6 (0, p8.2.1, p8.2.2) he
              · have he := ite_n h25 he
                refine bk_261_223 ?_
                exact J6 (1, p8.2.1, p8.2.2) he
          have he := hX5.symm
          refine bk_261_188 (fun h21 => ?_) (fun h21 => ?_)
          · have he := ite_p h21 he
            refine bk_261_203 ?_
            exact J5 (a5 + nI k) he
          · have he := ite_n h21 he
            refine bk_261_199 ?_
            exact J5 1 he
        have he := hX4.symm
        have hg := hgX
        refine bk_261_167 (fun h18 => ?_) (fun h18 => ?_)
        · have he := ite_p h18 he
          refine bk_261_183 ?_
          exact J4 1 he
        · have he := ite_n h18 he
          have hg := hg h18
          have k19 := hg
          refine bk_261_174 (cc_180 (d := d + 178)  k19) ?_
          refine bk_261_180 (fun h20 => ?_) (fun h20 => ?_)
          · have he := ite_p h20 he
            refine bk_261_187 ?_
            exact J4 0 he
          · have he := ite_n h20 he
            refine bk_261_183 ?_
            exact J4 1 he
      have he := hX3.symm
      have hg := hgX
      refine bk_261_120 (fun h14 => ?_) (fun h14 => ?_)
      · have he := ite_p h14 he
        have hg := hg h14
        refine bk_261_134 (fun h15 => ?_) (fun h15 => ?_)
        · have he := ite_p h15 he
          have hg := hg h15
          refine bk_261_146 (fun h16 => ?_) (fun h16 => ?_)
          · have he := ite_p h16 he
            have hg := hg h16
            have k17 := hg
            refine bk_261_160 k17 ?_
            exact J3 (p3.2.1 87 (a5 + nI k).toNatClampNeg) he
          · have he := ite_n h16 he
            refine bk_261_151 ?_
            exact J3 (p3.2.1 78 4) he
        · have he := ite_n h15 he
          refine bk_261_139 ?_
          exact J3 (p3.2.1 74 4) he
      · have he := ite_n h14 he
        refine bk_261_125 ?_
        exact J3 (p3.2.1 78 3) he
  have h0 := loop _ 0 (Nat.zero_add _) _ rfl
  rw [show a5 + nI 0 = a5 from by rw [nI_0, Int32.add_zero]] at h0
  exact h0
/-- VectorShelfModel.tells(II)I -/
noncomputable def v_261 (I : WI) (F : WF) (L : WL) (x1 : Int32) (x2 : Int32) : Int32 × WI × WL := (if (v_262 x1) = 0 then ((-2), I, L) else (if ¬ (v_170 (Int32.toInt64 x2) (0 : Int64) (4 : Int64)) = 0 then (if ¬ (I 111 x1.toNatClampNeg) = 0 then (if (I 113 x1.toNatClampNeg) ≤ 12 then (if ¬ x2 = 0 then (bx ((if ¬ x2 = 1 then (if ¬ x2 = 2 then (if ¬ x2 = 3 then ((I 74 18) - 1) else 9) else ((I 74 3) - 1)) else 5) : Int32) (fun p1 => (bx ((if ¬ x2 = 3 then 0 else 1) : Int32) (fun p2 => (bx ((lp_261_113s I F L x1 x2 p2 (0 : Int32) ((p1.toInt + 1 - p2.toInt).toNat)) : Int32 × WI × WL) (fun p11 => (p11.1, p11.2.1, p11.2.2))))))) else (bx ((v_263 I F L x1) : Int32 × WI × WL) (fun p12 => (p12.1, p12.2.1, p12.2.2)))) else ((-2), I, L)) else ((-11), I, L)) else ((-2), I, L)))
noncomputable def g_261 (I : WI) (F : WF) (L : WL) (x1 : Int32) (x2 : Int32) : Prop := (¬ ((v_262 x1) = 0) → ((¬ (v_170 (Int32.toInt64 x2) (0 : Int64) (4 : Int64)) = 0) → ((vp_in x1 4) ∧ ((¬ (I 111 x1.toNatClampNeg) = 0) → ((vp_in x1 4) ∧ (((I 113 x1.toNatClampNeg) ≤ 12) → (((¬ x2 = 0) → (bx ((if ¬ x2 = 1 then (if ¬ x2 = 2 then (if ¬ x2 = 3 then ((I 74 18) - 1) else 9) else ((I 74 3) - 1)) else 5) : Int32) (fun p1 => (bx ((if ¬ x2 = 3 then 0 else 1) : Int32) (fun p2 => (gl_261_113s I F L x1 x2 p1 p2 (0 : Int32) ((p1.toInt + 1 - p2.toInt).toNat))))))) ∧ (¬ (¬ x2 = 0) → (g_263 I F L x1)))))))))
theorem cc_261 {l : LX} {d : Nat} {I : WI} {F : WF} {L : WL} {t : Nat} {x1 : Int32} {x2 : Int32} (hd : 179 ≤ d) (hg : g_261 I F L x1 x2) : Con l 261 d 0 0 [.ref 74, .int x1, .int x2] SH (I, F, L, RT t) (po_I_IL F t (v_261 I F L x1 x2)) := by
  obtain ⟨d, rfl⟩ : ∃ e, d = e + 179 := ⟨d - 179, by omega⟩
  refine cn_261 ?_
  obtain ⟨T1, hT1⟩ : ∃ r : Int32 × WI × WL, r = (v_261 I F L x1 x2) := ⟨_, rfl⟩
  rw [← hT1]
  have he := (hT1.trans (v_261.eq_1 ..)).symm
  have hg := Eq.mp (g_261.eq_1 ..) hg
  refine bk_261_0 (cc_262 (d := d + 177) ) ?_
  refine bk_261_4 (fun h2 => ?_) (fun h2 => ?_)
  · have he := ite_p h2 he
    exact bk_261_19 (rl_I_IL he)
  · have he := ite_n h2 he
    have hg := hg h2
    refine bk_261_7 (cc_170 (d := d + 178) ) ?_
    refine bk_261_16 (fun h4 => ?_) (fun h4 => ?_)
    · have he := ite_p h4 he
      have hg := hg h4
      obtain ⟨k5, hg⟩ := hg
      refine bk_261_22 k5 (fun h6 => ?_) (fun h6 => ?_)
      · have he := ite_p h6 he
        have hg := hg h6
        obtain ⟨k7, hg⟩ := hg
        refine bk_261_34 k7 (fun h8 => ?_) (fun h8 => ?_)
        · have he := ite_p h8 he
          have hg := hg h8
          refine bk_261_48 (fun h9 => ?_) (fun h9 => ?_)
          · have he := ite_p h9 he
            have hg := hg.1 h9
            obtain ⟨X1, hX1⟩ : ∃ r : Int32, r = (if ¬ x2 = 1 then (if ¬ x2 = 2 then (if ¬ x2 = 3 then ((I 74 18) - 1) else 9) else ((I 74 3) - 1)) else 5) := ⟨_, rfl⟩
            have J1 : ∀ p1 : Int32, p1 = X1 → Wp l 261 (d + 179) 0 0 (po_I_IL F t T1) 0 0 99 [(0, .ref 74), (1, .int x1), (2, .int x2), (3, .int 0)] [.int p1] SH (I, F, L, RT t) := by
              intro p1 hr
              have hr := hr.trans hX1
              have he := bx_eq hr he
              have hg := bx_un hr hg
              obtain ⟨X2, hX2⟩ : ∃ r : Int32, r = (if ¬ x2 = 3 then 0 else 1) := ⟨_, rfl⟩
              have J2 : ∀ p2 : Int32, p2 = X2 → Wp l 261 (d + 179) 0 0 (po_I_IL F t T1) 0 0 111 [(0, .ref 74), (1, .int x1), (2, .int x2), (3, .int 0), (4, .int p1)] [.int p2] SH (I, F, L, RT t) := by
                intro p2 hr
                have hr := hr.trans hX2
                have he := bx_eq hr he
                have hg := bx_un hr hg
                refine bk_261_111 ?_
                have hgX := hg
                refine lw_261_113s (d := d)  hgX (fun p11 hr => ?_)
                have he := bx_eq hr he
                exact bk_261_248 (rl_I_IL he)
              have he := hX2.symm
              refine bk_261_99 (fun h13 => ?_) (fun h13 => ?_)
              · have he := ite_p h13 he
                refine bk_261_110 ?_
                exact J2 0 he
              · have he := ite_n h13 he
                refine bk_261_106 ?_
                exact J2 1 he
            have he := hX1.symm
            refine bk_261_58 (fun h10 => ?_) (fun h10 => ?_)
            · have he := ite_p h10 he
              refine bk_261_69 (fun h11 => ?_) (fun h11 => ?_)
              · have he := ite_p h11 he
                refine bk_261_83 (fun h12 => ?_) (fun h12 => ?_)
                · have he := ite_p h12 he
                  refine bk_261_93 ?_
                  exact J1 ((I 74 18) - 1) he
                · have he := ite_n h12 he
                  refine bk_261_88 ?_
                  exact J1 9 he
              · have he := ite_n h11 he
                refine bk_261_74 ?_
                exact J1 ((I 74 3) - 1) he
            · have he := ite_n h10 he
              refine bk_261_65 ?_
              exact J1 5 he
          · have he := ite_n h9 he
            have hg := hg.2 h9
            have k27 := hg
            refine bk_261_52 (cq_I_IL (cc_263 (d := d + 178) (by omega)  k27)) ?_
            rintro _ _ _ _ _ ⟨p12, hr, rfl, rfl, rfl, rfl, rfl⟩
            have he := bx_eq hr he
            exact bk_261_57 (rl_I_IL he)
        · have he := ite_n h8 he
          exact bk_261_45 (rl_I_IL he)
      · have he := ite_n h6 he
        exact bk_261_31 (rl_I_IL he)
    · have he := ite_n h4 he
      exact bk_261_19 (rl_I_IL he)
/-- VectorShelfModel.near(II)I -/
noncomputable def v_236 (I : WI) (L : WL) (x1 : Int32) (x2 : Int32) : Int32 × WI × WL := (if (v_170 (Int32.toInt64 x1) (1 : Int64) (5 : Int64)) = 0 then ((-2), I, L) else (if ¬ (v_170 (Int32.toInt64 x2) (0 : Int64) (9 : Int64)) = 0 then (if (v_170 (Int32.toInt64 x2) (5 : Int64) (7 : Int64)) = 0 then (bx ((v_238 I L) : WI × WL) (fun p1 => (if 5 ≤ x2 then (bx ((v_228 p1.1 p1.2) : Int32 × WI × WL) (fun p2 => (bx ((if x1 ≤ p2.1 then x1 else p2.1) : Int32) (fun p3 => (if ¬ x2 = 9 then (if ¬ p3 = 0 then ((p2.2.1 96 (v_241 p2.2.1 (p3 - 1) (0 : Int32)).toNatClampNeg), p2.2.1, p2.2.2) else ((-1), p2.2.1, p2.2.2)) else (p3, p2.2.1, p2.2.2)))))) else (if x1 ≤ x2 then ((-1), p1.1, p1.2) else ((v_241 p1.1 x2 (0 : Int32)), p1.1, p1.2))))) else (bx ((v_237 I L x1) : WI × WL) (fun p4 => (if ¬ x2 = 5 then (if ¬ x2 = 6 then ((p4.1 74 48), p4.1, p4.2) else ((p4.1 74 47), p4.1, p4.2)) else ((p4.1 74 46), p4.1, p4.2))))) else ((-2), I, L)))
noncomputable def g_236 (I : WI) (L : WL) (x1 : Int32) (x2 : Int32) : Prop := (¬ ((v_170 (Int32.toInt64 x1) (1 : Int64) (5 : Int64)) = 0) → ((¬ (v_170 (Int32.toInt64 x2) (0 : Int64) (9 : Int64)) = 0) → ((((v_170 (Int32.toInt64 x2) (5 : Int64) (7 : Int64)) = 0) → ((g_238 I L) ∧ (bx ((v_238 I L) : WI × WL) (fun p1 => (((5 ≤ x2) → ((g_228 p1.1 p1.2) ∧ (bx ((v_228 p1.1 p1.2) : Int32 × WI × WL) (fun p2 => (bx ((if x1 ≤ p2.1 then x1 else p2.1) : Int32) (fun p3 => ((¬ x2 = 9) → ((¬ p3 = 0) → ((g_241 p2.2.1 (p3 - 1) (0 : Int32)) ∧ (vp_in (v_241 p2.2.1 (p3 - 1) (0 : Int32)) 12)))))))))) ∧ (¬ (5 ≤ x2) → (¬ (x1 ≤ x2) → (g_241 p1.1 x2 (0 : Int32))))))))) ∧ (¬ ((v_170 (Int32.toInt64 x2) (5 : Int64) (7 : Int64)) = 0) → (g_237 I L x1)))))
theorem cc_236 {l : LX} {d : Nat} {I : WI} {F : WF} {L : WL} {t : Nat} {x1 : Int32} {x2 : Int32} (hd : 178 ≤ d) (hg : g_236 I L x1 x2) : Con l 236 d 0 0 [.ref 74, .int x1, .int x2] SH (I, F, L, RT t) (po_I_IL F t (v_236 I L x1 x2)) := by
  obtain ⟨d, rfl⟩ : ∃ e, d = e + 178 := ⟨d - 178, by omega⟩
  refine cn_236 ?_
  obtain ⟨T1, hT1⟩ : ∃ r : Int32 × WI × WL, r = (v_236 I L x1 x2) := ⟨_, rfl⟩
  rw [← hT1]
  have he := (hT1.trans (v_236.eq_1 ..)).symm
  have hg := Eq.mp (g_236.eq_1 ..) hg
  refine bk_236_0 (cc_170 (d := d + 177) ) ?_
  refine bk_236_9 (fun h2 => ?_) (fun h2 => ?_)
  · have he := ite_p h2 he
    exact bk_236_24 (rl_I_IL he)
  · have he := ite_n h2 he
    have hg := hg h2
    refine bk_236_12 (cc_170 (d := d + 177) ) ?_
    refine bk_236_21 (fun h4 => ?_) (fun h4 => ?_)
    · have he := ite_p h4 he
      have hg := hg h4
      refine bk_236_27 (cc_170 (d := d + 177) ) ?_
      refine bk_236_38 (fun h6 => ?_) (fun h6 => ?_)
      · have he := ite_p h6 he
        have hg := hg.1 h6
        obtain ⟨k7, hg⟩ := hg
        refine bk_236_76 (cq_V_IL (cc_238 (d := d + 177) (by omega)  k7)) ?_
        rintro _ _ _ _ ⟨p1, hr, rfl, rfl, rfl, rfl⟩
        have he := bx_eq hr he
        have hg := bx_un hr hg
        refine bk_236_80 (fun h8 => ?_) (fun h8 => ?_)
        · have he := ite_p h8 he
          have hg := hg.1 h8
          obtain ⟨k9, hg⟩ := hg
          refine bk_236_101 (cq_I_IL (cc_228 (d := d + 177) (by omega)  k9)) ?_
          rintro _ _ _ _ _ ⟨p2, hr, rfl, rfl, rfl, rfl, rfl⟩
          have he := bx_eq hr he
          have hg := bx_un hr hg
          obtain ⟨X1, hX1⟩ : ∃ r : Int32, r = (if x1 ≤ p2.1 then x1 else p2.1) := ⟨_, rfl⟩
          have J1 : ∀ p3 : Int32, p3 = X1 → Wp l 236 (d + 178) 0 0 (po_I_IL F t T1) 0 0 116 [(0, .ref 74), (2, .int x2)] [.int p3] SH (p2.2.1, F, p2.2.2, RT t) := by
            intro p3 hr
            have hr := hr.trans hX1
            have he := bx_eq hr he
            have hg := bx_un hr hg
            refine bk_236_116 (fun h11 => ?_) (fun h11 => ?_)
            · have he := ite_p h11 he
              have hg := hg h11
              refine bk_236_129 (fun h12 => ?_) (fun h12 => ?_)
              · have he := ite_p h12 he
                have hg := hg h12
                obtain ⟨k13, hg⟩ := hg
                refine bk_236_138 (cc_241 (d := d + 176)  k13) ?_
                have k14 := hg
                refine bk_236_151 k14 ?_
                exact bk_236_152 (rl_I_IL he)
              · have he := ite_n h12 he
                refine bk_236_134 ?_
                exact bk_236_152 (rl_I_IL he)
            · have he := ite_n h11 he
              refine bk_236_124 ?_
              exact bk_236_152 (rl_I_IL he)
          have he := hX1.symm
          refine bk_236_105 (fun h10 => ?_) (fun h10 => ?_)
          · have he := ite_p h10 he
            refine bk_236_115 ?_
            exact J1 x1 he
          · have he := ite_n h10 he
            refine bk_236_111 ?_
            exact J1 p2.1 he
        · have he := ite_n h8 he
          have hg := hg.2 h8
          refine bk_236_85 (fun h15 => ?_) (fun h15 => ?_)
          · have he := ite_p h15 he
            refine bk_236_99 ?_
            exact bk_236_100 (rl_I_IL he)
          · have he := ite_n h15 he
            have hg := hg h15
            have k16 := hg
            refine bk_236_90 (cc_241 (d := d + 176)  k16) ?_
            refine bk_236_96 ?_
            exact bk_236_100 (rl_I_IL he)
      · have he := ite_n h6 he
        have hg := hg.2 h6
        have k17 := hg
        refine bk_236_41 (cq_V_IL (cc_237 (d := d + 177) (by omega)  k17)) ?_
        rintro _ _ _ _ ⟨p4, hr, rfl, rfl, rfl, rfl⟩
        have he := bx_eq hr he
        refine bk_236_46 (fun h18 => ?_) (fun h18 => ?_)
        · have he := ite_p h18 he
          refine bk_236_58 (fun h19 => ?_) (fun h19 => ?_)
          · have he := ite_p h19 he
            refine bk_236_71 ?_
            exact bk_236_75 (rl_I_IL he)
          · have he := ite_n h19 he
            refine bk_236_64 ?_
            exact bk_236_75 (rl_I_IL he)
        · have he := ite_n h18 he
          refine bk_236_51 ?_
          exact bk_236_75 (rl_I_IL he)
    · have he := ite_n h4 he
      exact bk_236_24 (rl_I_IL he)
end
