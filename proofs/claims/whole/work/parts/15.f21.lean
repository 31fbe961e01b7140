section
/-- VectorShelfModel.firstNear()I -/
def v_255 (I : WI) (L : WL) : Int32 × WI × WL := (bx ((v_238 I L) : WI × WL) (fun p1 => ((v_241 p1.1 (0 : Int32) (0 : Int32)), p1.1, p1.2)))
def g_255 (I : WI) (L : WL) : Prop := ((g_238 I L) ∧ (bx ((v_238 I L) : WI × WL) (fun p1 => (g_241 p1.1 (0 : Int32) (0 : Int32)))))
theorem cc_255 {l : LX} {d : Nat} {I : WI} {F : WF} {L : WL} {t : Nat} (hg : g_255 I L) : Con l 255 (d + 177) 0 0 [.ref 74] SH (I, F, L, RT t) (po_I_IL F t (v_255 I L)) := by
  refine cn_255 ?_
  obtain ⟨T1, hT1⟩ : ∃ r : Int32 × WI × WL, r = (v_255 I L) := ⟨_, rfl⟩
  rw [← hT1]
  have he := (hT1.trans (v_255.eq_1 ..)).symm
  have hg := Eq.mp (g_255.eq_1 ..) hg
  obtain ⟨k1, hg⟩ := hg
  refine bk_255_0 (cq_V_IL (cc_238 (d := d + 0)  k1)) ?_
  rintro _ _ _ _ ⟨p1, hr, rfl, rfl, rfl, rfl⟩
  have he := bx_eq hr he
  have hg := bx_un hr hg
  have k2 := hg
  refine bk_255_4 (cc_241 (d := d + 175)  k2) ?_
  exact bk_255_10 (rl_I_IL he)
/-- the loop at 8 of VectorShelfModel.firstOther -/
def lp_263_8 (F : WF) (x1 : Int32) : Nat → Int32 → Int32 → WI → WL → Int32 × WI × WL
  | 0, x2, x3, I, L => (x2, I, L)
  | k + 1, x2, x3, I, L => (if (I 113 x1.toNatClampNeg) ≤ x3 then (x2, I, L) else (if ¬ x2 = (-1) then (x2, I, L) else (bx ((v_257 I x3) : WI) (fun p2 => (bx ((v_255 p2 L) : Int32 × WI × WL) (fun p3 => (bx ((if p3.1 = (v_264 p3.2.1 F x1 x3) then (-1) else x3) : Int32) (fun p4 => (lp_263_8 F x1 k p4 (x3 + 1) p3.2.1 p3.2.2)))))))))
def gl_263_8 (F : WF) (x1 : Int32) : Nat → Int32 → Int32 → WI → WL → Prop
  | 0, _, _, _, _ => False
  | k + 1, x2, x3, I, L => ((vp_in x1 4) ∧ (¬ ((I 113 x1.toNatClampNeg) ≤ x3) → (¬ (¬ x2 = (-1)) → ((g_257 I x3) ∧ (bx ((v_257 I x3) : WI) (fun p2 => ((g_255 p2 L) ∧ (bx ((v_255 p2 L) : Int32 × WI × WL) (fun p3 => ((g_264 p3.2.1 F x1 x3) ∧ (bx ((if p3.1 = (v_264 p3.2.1 F x1 x3) then (-1) else x3) : Int32) (fun p4 => (gl_263_8 F x1 k p4 (x3 + 1) p3.2.1 p3.2.2)))))))))))))
theorem lw_263_8 {l : LX} {d : Nat} {P : RP} {F : WF} {t : Nat} {x1 : Int32} : ∀ k : Nat, ∀ (x2 : Int32) (x3 : Int32) (I : WI) (L : WL), gl_263_8 F x1 k x2 x3 I L → (∀ r : Int32 × WI × WL, r = lp_263_8 F x1 k x2 x3 I L → Wp l 263 (d + 178) 0 0 P 0 0 53 [(0, .ref 74), (2, .int r.1)] [] SH (r.2.1, F, r.2.2, RT t)) → Wp l 263 (d + 178) 0 0 P 0 0 8 [(0, .ref 74), (1, .int x1), (2, .int x2), (3, .int x3)] [] SH (I, F, L, RT t) := by
  intro k
  induction k with
  | zero =>
    intro x2 x3 I L hg hx
    exact hg.elim
  | succ k ih =>
    intro x2 x3 I L hg hx
    have hg := Eq.mp (gl_263_8.eq_2 ..) hg
    obtain ⟨T1, hT1⟩ : ∃ r : Int32 × WI × WL, r = lp_263_8 F x1 (k + 1) x2 x3 I L := ⟨_, rfl⟩
    have hx : ∀ r : Int32 × WI × WL, r = T1 → Wp l 263 (d + 178) 0 0 P 0 0 53 [(0, .ref 74), (2, .int r.1)] [] SH (r.2.1, F, r.2.2, RT t) := fun r hr => hx r (hr.trans hT1)
    have he := (hT1.trans (lp_263_8.eq_2 ..)).symm
    obtain ⟨k2, hg⟩ := hg
    refine bk_263_8 k2 (fun h3 => ?_) (fun h3 => ?_)
    · have he := ite_p h3 he
      exact hx _ he
    · have he := ite_n h3 he
      have hg := hg h3
      refine bk_263_18 (fun h4 => ?_) (fun h4 => ?_)
      · have he := ite_p h4 he
        exact hx _ he
      · have he := ite_n h4 he
        have hg := hg h4
        obtain ⟨k5, hg⟩ := hg
        refine bk_263_23 (cq_V_I (cc_257 (d := d + 177)  k5)) ?_
        rintro _ _ _ _ ⟨p2, hr, rfl, rfl, rfl, rfl⟩
        have he := bx_eq hr he
        have hg := bx_un hr hg
        obtain ⟨k6, hg⟩ := hg
        refine bk_263_28 (cq_I_IL (cc_255 (d := d + 0)  k6)) ?_
        rintro _ _ _ _ _ ⟨p3, hr, rfl, rfl, rfl, rfl, rfl⟩
        have he := bx_eq hr he
        have hg := bx_un hr hg
        obtain ⟨k7, hg⟩ := hg
        refine bk_263_32 (cc_264 (d := d + 177)  k7) ?_
        obtain ⟨X1, hX1⟩ : ∃ r : Int32, r = (if p3.1 = (v_264 p3.2.1 F x1 x3) then (-1) else x3) := ⟨_, rfl⟩
        have J1 : ∀ p4 : Int32, p4 = X1 → Wp l 263 (d + 178) 0 0 P 0 0 46 [(0, .ref 74), (1, .int x1), (3, .int x3)] [.int p4] SH (p3.2.1, F, p3.2.2, RT t) := by
          intro p4 hr
          have hr := hr.trans hX1
          have he := bx_eq hr he
          have hg := bx_un hr hg
          refine bk_263_46 ?_
          exact ih _ _ _ _ hg (fun r hr => hx r (hr.trans he))
        have he := hX1.symm
        refine bk_263_38 (fun h8 => ?_) (fun h8 => ?_)
        · have he := ite_p h8 he
          refine bk_263_45 ?_
          exact J1 _ he
        · have he := ite_n h8 he
          refine bk_263_41 ?_
          exact J1 _ he
/-- VectorShelfModel.firstOther(I)I -/
def v_263 (I : WI) (F : WF) (L : WL) (x1 : Int32) : Int32 × WI × WL := (bx ((v_234 I) : WI) (fun p1 => (bx ((lp_263_8 F x1 400 ((-1) : Int32) (0 : Int32) p1 L) : Int32 × WI × WL) (fun p5 => (bx ((v_235 p5.2.1) : WI) (fun p6 => (p5.1, p6, p5.2.2)))))))
def g_263 (I : WI) (F : WF) (L : WL) (x1 : Int32) : Prop := ((g_234 I) ∧ (bx ((v_234 I) : WI) (fun p1 => ((gl_263_8 F x1 400 ((-1) : Int32) (0 : Int32) p1 L) ∧ (bx ((lp_263_8 F x1 400 ((-1) : Int32) (0 : Int32) p1 L) : Int32 × WI × WL) (fun p5 => (g_235 p5.2.1)))))))
theorem cc_263 {l : LX} {d : Nat} {I : WI} {F : WF} {L : WL} {t : Nat} {x1 : Int32} (hg : g_263 I F L x1) : Con l 263 (d + 178) 0 0 [.ref 74, .int x1] SH (I, F, L, RT t) (po_I_IL F t (v_263 I F L x1)) := by
  refine cn_263 ?_
  obtain ⟨T1, hT1⟩ : ∃ r : Int32 × WI × WL, r = (v_263 I F L x1) := ⟨_, rfl⟩
  rw [← hT1]
  have he := (hT1.trans (v_263.eq_1 ..)).symm
  have hg := Eq.mp (g_263.eq_1 ..) hg
  obtain ⟨k1, hg⟩ := hg
  refine bk_263_0 (cq_V_I (cc_234 (d := d + 177)  k1)) ?_
  rintro _ _ _ _ ⟨p1, hr, rfl, rfl, rfl, rfl⟩
  have he := bx_eq hr he
  have hg := bx_un hr hg
  refine bk_263_4 ?_
  obtain ⟨hgX, hg⟩ := hg
  refine lw_263_8 (d := d)  400 _ _ _ _ hgX (fun p5 hr => ?_)
  have he := bx_eq hr he
  have hg := bx_un hr hg
  have k9 := hg
  refine bk_263_53 (cq_V_I (cc_235 (d := d + 177)  k9)) ?_
  rintro _ _ _ _ ⟨p6, hr, rfl, rfl, rfl, rfl⟩
  have he := bx_eq hr he
  exact bk_263_57 (rl_I_IL he)
/-- the loop at 36 of VectorShelfModel.film -/
def lp_266_36 (I : WI) (L : WL) (x1 : Int32) : Nat → WI × WL
  | 0 => (I, L)
  | k + 1 => bx (lp_266_36 I L x1 k) (fun p3 => (bx ((v_257 p3.1 (nI k)) : WI) (fun p4 => (bx ((v_255 p4 p3.2) : Int32 × WI × WL) (fun p5 => ((up2 p5.2.1 114 ((40 * x1) + (nI k)).toNatClampNeg p5.1), p5.2.2))))))
def gl_266_36 (I : WI) (L : WL) (x1 : Int32) (N : Nat) : Prop := (∀ k, k < N → bx (lp_266_36 I L x1 k) (fun p3 => ((g_257 p3.1 (nI k)) ∧ (bx ((v_257 p3.1 (nI k)) : WI) (fun p4 => ((g_255 p4 p3.2) ∧ (bx ((v_255 p4 p3.2) : Int32 × WI × WL) (fun p5 => (vp_in ((40 * x1) + (nI k)) 160)))))))))
theorem lw_266_36 {l : LX} {d : Nat} {P : RP} {I : WI} {F : WF} {L : WL} {t : Nat} {x1 : Int32} {x2 : Int32} (hgl : gl_266_36 I L x1 x2.toNatClampNeg) (hx : ∀ p3 : WI × WL, p3 = lp_266_36 I L x1 x2.toNatClampNeg → Wp l 266 (d + 178) 0 0 P 0 0 67 [(0, .ref 74), (2, .int x2)] [] SH (p3.1, F, p3.2, RT t)) : Wp l 266 (d + 178) 0 0 P 0 0 36 [(0, .ref 74), (1, .int x1), (2, .int x2), (3, .int 0)] [] SH (I, F, L, RT t) := by
  have hin := hgl
  have loop : ∀ m k, k + m = x2.toNatClampNeg → ∀ p3 : WI × WL, p3 = lp_266_36 I L x1 k → Wp l 266 (d + 178) 0 0 P 0 0 36 [(0, .ref 74), (1, .int x1), (2, .int x2), (3, .int (nI k))] [] SH (p3.1, F, p3.2, RT t) := by
    intro m
    induction m with
    | zero =>
      intro k hk p3 hs
      obtain rfl : k = x2.toNatClampNeg := by omega
      exact bk_266_36  (fun _ => hx _ hs) (fun h => absurd ((le_cl (Nat.le_refl _)).mpr rfl) h)
    | succ m ih =>
      intro k hk p3 hs
      have hk2 : k < x2.toNatClampNeg := by omega
      have ih := ih (k + 1) (by omega)
      rw [nI_succ] at ih
      have he := bx_eq hs (lp_266_36.eq_2 ..).symm
      have hg := bx_un hs (hin k hk2)
      refine bk_266_36  (fun h => absurd ((le_cl (by omega)).mp h) (by omega)) (fun _ => ?_)
      obtain ⟨k7, hg⟩ := hg
      refine bk_266_41 (cq_V_I (cc_257 (d := d + 177)  k7)) ?_
      rintro _ _ _ _ ⟨p4, hr, rfl, rfl, rfl, rfl⟩
      have he := bx_eq hr he
      have hg := bx_un hr hg
      obtain ⟨k8, hg⟩ := hg
      refine bk_266_46 (cq_I_IL (cc_255 (d := d + 0)  k8)) ?_
      rintro _ _ _ _ _ ⟨p5, hr, rfl, rfl, rfl, rfl, rfl⟩
      have he := bx_eq hr he
      have hg := bx_un hr hg
      have k9 := hg
      refine bk_266_60 k9 ?_
      exact ih _ he
  exact loop _ 0 (by omega) _ rfl
/-- VectorShelfModel.film(II)I -/
def v_266 (I : WI) (F : WF) (L : WL) (x1 : Int32) (x2 : Int32) : Int32 × WI × WF × WL := (if (v_262 x1) = 0 then ((-2), I, F, L) else (if ¬ (v_170 (Int32.toInt64 x2) (0 : Int64) (12 : Int64)) = 0 then (bx ((v_267 I F x1 (2 : Int32) x2) : Int32 × WI × WF) (fun p1 => (bx ((v_234 p1.2.1) : WI) (fun p2 => (bx ((lp_266_36 p2 L x1 x2.toNatClampNeg) : WI × WL) (fun p6 => (bx ((v_235 p6.1) : WI) (fun p7 => (x2, p7, p1.2.2, p6.2))))))))) else ((-2), I, F, L)))
def g_266 (I : WI) (F : WF) (L : WL) (x1 : Int32) (x2 : Int32) : Prop := (¬ ((v_262 x1) = 0) → ((¬ (v_170 (Int32.toInt64 x2) (0 : Int64) (12 : Int64)) = 0) → ((g_267 I F x1 (2 : Int32) x2) ∧ (bx ((v_267 I F x1 (2 : Int32) x2) : Int32 × WI × WF) (fun p1 => ((g_234 p1.2.1) ∧ (bx ((v_234 p1.2.1) : WI) (fun p2 => ((gl_266_36 p2 L x1 x2.toNatClampNeg) ∧ (bx ((lp_266_36 p2 L x1 x2.toNatClampNeg) : WI × WL) (fun p6 => (g_235 p6.1))))))))))))
theorem cc_266 {l : LX} {d : Nat} {I : WI} {F : WF} {L : WL} {t : Nat} {x1 : Int32} {x2 : Int32} (hg : g_266 I F L x1 x2) : Con l 266 (d + 178) 0 0 [.ref 74, .int x1, .int x2] SH (I, F, L, RT t) (po_I_IFL t (v_266 I F L x1 x2)) := by
  refine cn_266 ?_
  obtain ⟨T1, hT1⟩ : ∃ r : Int32 × WI × WF × WL, r = (v_266 I F L x1 x2) := ⟨_, rfl⟩
  rw [← hT1]
  have he := (hT1.trans (v_266.eq_1 ..)).symm
  have hg := Eq.mp (g_266.eq_1 ..) hg
  refine bk_266_0 (cc_262 (d := d + 176) ) ?_
  refine bk_266_4 (fun h2 => ?_) (fun h2 => ?_)
  · have he := ite_p h2 he
    exact bk_266_19 (rl_I_IFL he)
  · have he := ite_n h2 he
    have hg := hg h2
    refine bk_266_7 (cc_170 (d := d + 177) ) ?_
    refine bk_266_16 (fun h4 => ?_) (fun h4 => ?_)
    · have he := ite_p h4 he
      have hg := hg h4
      obtain ⟨k5, hg⟩ := hg
      refine bk_266_22 (cq_I_IF (cc_267 (d := d + 175)  k5)) ?_
      rintro _ _ _ _ _ ⟨p1, hr, rfl, rfl, rfl, rfl, rfl⟩
      have he := bx_eq hr he
      have hg := bx_un hr hg
      obtain ⟨k6, hg⟩ := hg
      refine bk_266_29 (cq_V_I (cc_234 (d := d + 177)  k6)) ?_
      rintro _ _ _ _ ⟨p2, hr, rfl, rfl, rfl, rfl⟩
      have he := bx_eq hr he
      have hg := bx_un hr hg
      refine bk_266_34 ?_
      obtain ⟨hgX, hg⟩ := hg
      refine lw_266_36 (d := d)  hgX (fun p6 hr => ?_)
      have he := bx_eq hr he
      have hg := bx_un hr hg
      have k10 := hg
      refine bk_266_67 (cq_V_I (cc_235 (d := d + 177)  k10)) ?_
      rintro _ _ _ _ ⟨p7, hr, rfl, rfl, rfl, rfl⟩
      have he := bx_eq hr he
      exact bk_266_71 (rl_I_IFL he)
    · have he := ite_n h4 he
      exact bk_266_19 (rl_I_IFL he)
/-- the loop at 24 of VectorShelfModel.count -/
def lp_270_24 (I : WI) (a2 : Int32) : Nat → Int32
  | 0 => a2
  | k + 1 => bx (lp_270_24 I a2 k) (fun p2 => (bx ((if (v_180 I (nI k)) = 0 then 0 else 1) : Int32) (fun p3 => (p2 + p3))))
def gl_270_24 (I : WI) (a2 : Int32) (N : Nat) : Prop := (∀ k, k < N → bx (lp_270_24 I a2 k) (fun p2 => (g_180 I (nI k))))
theorem lw_270_24 {l : LX} {d : Nat} {P : RP} {I : WI} {F : WF} {L : WL} {t : Nat} {a2 : Int32} (hgl : gl_270_24 I a2 ((I 74 18).toNatClampNeg)) (hx : ∀ p2 : Int32, p2 = lp_270_24 I a2 ((I 74 18).toNatClampNeg) → Wp l 270 (d + 176) 0 0 P 0 0 54 [(2, .int p2)] [] SH (I, F, L, RT t)) : Wp l 270 (d + 176) 0 0 P 0 0 24 [(0, .ref 74), (2, .int a2), (3, .int 0)] [] SH (I, F, L, RT t) := by
  have hin := hgl
  have loop : ∀ m k, k + m = (I 74 18).toNatClampNeg → ∀ p2 : Int32, p2 = lp_270_24 I a2 k → Wp l 270 (d + 176) 0 0 P 0 0 24 [(0, .ref 74), (2, .int p2), (3, .int (nI k))] [] SH (I, F, L, RT t) := by
    intro m
    induction m with
    | zero =>
      intro k hk p2 hs
      obtain rfl : k = (I 74 18).toNatClampNeg := by omega
      exact bk_270_24  (fun _ => hx _ hs) (fun h => absurd ((le_cl (Nat.le_refl _)).mpr rfl) h)
    | succ m ih =>
      intro k hk p2 hs
      have hk2 : k < (I 74 18).toNatClampNeg := by omega
      have ih := ih (k + 1) (by omega)
      rw [nI_succ] at ih
      have he := bx_eq hs (lp_270_24.eq_2 ..).symm
      have hg := bx_un hs (hin k hk2)
      refine bk_270_24  (fun h => absurd ((le_cl (by omega)).mp h) (by omega)) (fun _ => ?_)
      have k11 := hg
      refine bk_270_32 (cc_180 (d := d + 175)  k11) ?_
      obtain ⟨X1, hX1⟩ : ∃ r : Int32, r = (if (v_180 I (nI k)) = 0 then 0 else 1) := ⟨_, rfl⟩
      have J1 : ∀ p3 : Int32, p3 = X1 → Wp l 270 (d + 176) 0 0 P 0 0 46 [(0, .ref 74), (3, .int (nI k))] [.int p3, .int p2] SH (I, F, L, RT t) := by
        intro p3 hr
        have hr := hr.trans hX1
        have he := bx_eq hr he
        refine bk_270_46 ?_
        exact ih _ he
      have he := hX1.symm
      refine bk_270_38 (fun h12 => ?_) (fun h12 => ?_)
      · have he := ite_p h12 he
        refine bk_270_45 ?_
        exact J1 _ he
      · have he := ite_n h12 he
        refine bk_270_41 ?_
        exact J1 _ he
  exact loop _ 0 (by omega) _ rfl
/-- VectorShelfModel.count(I)I -/
def v_270 (I : WI) (L : WL) (x1 : Int32) : Int32 × WI × WL := (if ¬ (v_170 (Int32.toInt64 x1) (0 : Int64) (7 : Int64)) = 0 then (if ¬ x1 = 2 then (if ¬ x1 = 0 then (if ¬ x1 = 1 then (if ¬ x1 = 3 then (if ¬ x1 = 4 then (if ¬ x1 = 5 then (if ¬ x1 = 6 then ((I 78 3), I, L) else (bx ((v_228 I L) : Int32 × WI × WL) (fun p1 => (p1.1, p1.2.1, p1.2.2)))) else ((I 74 4), I, L)) else ((I 74 6), I, L)) else ((I 74 3), I, L)) else ((I 74 13), I, L)) else ((I 74 18), I, L)) else (bx ((lp_270_24 I (0 : Int32) ((I 74 18).toNatClampNeg)) : Int32) (fun p4 => (p4, I, L)))) else ((-2), I, L))
def g_270 (I : WI) (L : WL) (x1 : Int32) : Prop := ((¬ (v_170 (Int32.toInt64 x1) (0 : Int64) (7 : Int64)) = 0) → (((¬ x1 = 2) → ((¬ x1 = 0) → ((¬ x1 = 1) → ((¬ x1 = 3) → ((¬ x1 = 4) → ((¬ x1 = 5) → (¬ (¬ x1 = 6) → (g_228 I L)))))))) ∧ (¬ (¬ x1 = 2) → (gl_270_24 I (0 : Int32) ((I 74 18).toNatClampNeg)))))
theorem cc_270 {l : LX} {d : Nat} {I : WI} {F : WF} {L : WL} {t : Nat} {x1 : Int32} (hg : g_270 I L x1) : Con l 270 (d + 176) 0 0 [.ref 74, .int x1] SH (I, F, L, RT t) (po_I_IL F t (v_270 I L x1)) := by
  refine cn_270 ?_
  obtain ⟨T1, hT1⟩ : ∃ r : Int32 × WI × WL, r = (v_270 I L x1) := ⟨_, rfl⟩
  rw [← hT1]
  have he := (hT1.trans (v_270.eq_1 ..)).symm
  have hg := Eq.mp (g_270.eq_1 ..) hg
  refine bk_270_0 (cc_170 (d := d + 175) ) ?_
  refine bk_270_9 (fun h2 => ?_) (fun h2 => ?_)
  · have he := ite_p h2 he
    have hg := hg h2
    refine bk_270_15 (fun h3 => ?_) (fun h3 => ?_)
    · have he := ite_p h3 he
      have hg := hg.1 h3
      refine bk_270_56 (fun h4 => ?_) (fun h4 => ?_)
      · have he := ite_p h4 he
        have hg := hg h4
        refine bk_270_67 (fun h5 => ?_) (fun h5 => ?_)
        · have he := ite_p h5 he
          have hg := hg h5
          refine bk_270_79 (fun h6 => ?_) (fun h6 => ?_)
          · have he := ite_p h6 he
            have hg := hg h6
            refine bk_270_91 (fun h7 => ?_) (fun h7 => ?_)
            · have he := ite_p h7 he
              have hg := hg h7
              refine bk_270_103 (fun h8 => ?_) (fun h8 => ?_)
              · have he := ite_p h8 he
                have hg := hg h8
                refine bk_270_115 (fun h9 => ?_) (fun h9 => ?_)
                · have he := ite_p h9 he
                  refine bk_270_128 ?_
                  exact bk_270_134 (rl_I_IL he)
                · have he := ite_n h9 he
                  have hg := hg h9
                  have k10 := hg
                  refine bk_270_121 (cq_I_IL (cc_228 (d := d + 0)  k10)) ?_
                  rintro _ _ _ _ _ ⟨p1, hr, rfl, rfl, rfl, rfl, rfl⟩
                  have he := bx_eq hr he
                  refine bk_270_125 ?_
                  exact bk_270_134 (rl_I_IL he)
              · have he := ite_n h8 he
                refine bk_270_108 ?_
                exact bk_270_134 (rl_I_IL he)
            · have he := ite_n h7 he
              refine bk_270_96 ?_
              exact bk_270_134 (rl_I_IL he)
          · have he := ite_n h6 he
            refine bk_270_84 ?_
            exact bk_270_134 (rl_I_IL he)
        · have he := ite_n h5 he
          refine bk_270_72 ?_
          exact bk_270_134 (rl_I_IL he)
      · have he := ite_n h4 he
        refine bk_270_60 ?_
        exact bk_270_134 (rl_I_IL he)
    · have he := ite_n h3 he
      have hg := hg.2 h3
      refine bk_270_20 ?_
      have hgX := hg
      refine lw_270_24 (d := d)  hgX (fun p4 hr => ?_)
      have he := bx_eq hr he
      exact bk_270_54 (rl_I_IL he)
  · have he := ite_n h2 he
    exact bk_270_12 (rl_I_IL he)
/-- the loop at 64 of VectorShelfModel.ask -/
def lp_278_64 (I : WI) (F : WF) (x1 : Int32) (x2 : Int32) : Nat → WI
  | 0 => I
  | k + 1 => bx (lp_278_64 I F x1 x2 k) (fun p1 => (bx ((if (p1 116 (((40 * x1) + x2) + (nI k)).toNatClampNeg) = 0 then (FP.f2i (FP.fmul 1082130432 (FP.frem (F 115 (((40 * x1) + x2) + (nI k)).toNatClampNeg) 1132068864))) else 0) : Int32) (fun p2 => (up2 p1 79 (nI k).toNatClampNeg p2))))
def gl_278_64 (I : WI) (F : WF) (x1 : Int32) (x2 : Int32) (N : Nat) : Prop := (∀ k, k < N → bx (lp_278_64 I F x1 x2 k) (fun p1 => ((vp_in (((40 * x1) + x2) + (nI k)) 160) ∧ ((vf_n32 (FP.frem (F 115 (((40 * x1) + x2) + (nI k)).toNatClampNeg) 1132068864)) ∧ ((vp_in (((40 * x1) + x2) + (nI k)) 160) ∧ ((((p1 116 (((40 * x1) + x2) + (nI k)).toNatClampNeg) = 0) → (vf_n32 (FP.fmul 1082130432 (FP.frem (F 115 (((40 * x1) + x2) + (nI k)).toNatClampNeg) 1132068864)))) ∧ (bx ((if (p1 116 (((40 * x1) + x2) + (nI k)).toNatClampNeg) = 0 then (FP.f2i (FP.fmul 1082130432 (FP.frem (F 115 (((40 * x1) + x2) + (nI k)).toNatClampNeg) 1132068864))) else 0) : Int32) (fun p2 => (vp_in (nI k) 3)))))))))
theorem lw_278_64 {l : LX} {d : Nat} {P : RP} {I : WI} {F : WF} {L : WL} {t : Nat} {x1 : Int32} {x2 : Int32} (hgl : gl_278_64 I F x1 x2 ((3 : Int32).toNatClampNeg)) (hx : ∀ p1 : WI, p1 = lp_278_64 I F x1 x2 ((3 : Int32).toNatClampNeg) → Wp l 278 (d + 176) 0 0 P 0 0 124 [(0, .ref 74)] [] SH (p1, F, L, RT t)) : Wp l 278 (d + 176) 0 0 P 0 0 64 [(0, .ref 74), (1, .int x1), (2, .int x2), (3, .int 0)] [] SH (I, F, L, RT t) := by
  have hin := hgl
  have loop : ∀ m k, k + m = (3 : Int32).toNatClampNeg → ∀ p1 : WI, p1 = lp_278_64 I F x1 x2 k → Wp l 278 (d + 176) 0 0 P 0 0 64 [(0, .ref 74), (1, .int x1), (2, .int x2), (3, .int (nI k))] [] SH (p1, F, L, RT t) := by
    intro m
    induction m with
    | zero =>
      intro k hk p1 hs
      obtain rfl : k = (3 : Int32).toNatClampNeg := by omega
      exact bk_278_64  (fun _ => hx _ hs) (fun h => absurd ((le_cl (Nat.le_refl _)).mpr rfl) h)
    | succ m ih =>
      intro k hk p1 hs
      have hk2 : k < (3 : Int32).toNatClampNeg := by omega
      have ih := ih (k + 1) (by omega)
      rw [nI_succ] at ih
      have he := bx_eq hs (lp_278_64.eq_2 ..).symm
      have hg := bx_un hs (hin k hk2)
      refine bk_278_64  (fun h => absurd ((le_cl (by omega)).mp h) (by omega)) (fun _ => ?_)
      obtain ⟨k10, hg⟩ := hg
      refine bk_278_69 k10 ?_
      obtain ⟨k11, k12, hg⟩ := hg
      obtain ⟨hgX, hg⟩ := hg
      obtain ⟨X1, hX1⟩ : ∃ r : Int32, r = (if (p1 116 (((40 * x1) + x2) + (nI k)).toNatClampNeg) = 0 then (FP.f2i (FP.fmul 1082130432 (FP.frem (F 115 (((40 * x1) + x2) + (nI k)).toNatClampNeg) 1132068864))) else 0) := ⟨_, rfl⟩
      have J1 : ∀ p2 : Int32, p2 = X1 → Wp l 278 (d + 176) 0 0 P 0 0 117 [(0, .ref 74), (1, .int x1), (2, .int x2), (3, .int (nI k))] [.int p2, .int (nI k), .ref 79] SH (p1, F, L, RT t) := by
        intro p2 hr
        have hr := hr.trans hX1
        have he := bx_eq hr he
        have hg := bx_un hr hg
        have k15 := hg
        refine bk_278_117 k15 ?_
        exact ih _ he
      have he := hX1.symm
      have hg := hgX
      refine bk_278_89 k11 k12 (fun h13 => ?_) (fun h13 => ?_)
      · have he := ite_p h13 he
        have hg := hg h13
        have k14 := hg
        refine bk_278_111 k14 ?_
        exact J1 _ he
      · have he := ite_n h13 he
        refine bk_278_107 ?_
        exact J1 _ he
  exact loop _ 0 (by omega) _ rfl
/-- VectorShelfModel.ask(II)I -/
def v_278 (I : WI) (F : WF) (L : WL) (x1 : Int32) (x2 : Int32) : Int32 × WI × WL := (if ¬ (v_262 x1) = 0 then (if (I 111 x1.toNatClampNeg) = 0 then (if ¬ (I 111 x1.toNatClampNeg) = 0 then (if x2 < 0 then ((-12), I, L) else (if x2 ≤ ((I 113 x1.toNatClampNeg) - 3) then (bx ((lp_278_64 I F x1 x2 ((3 : Int32).toNatClampNeg)) : WI) (fun p3 => (bx ((v_228 p3 L) : Int32 × WI × WL) (fun p4 => (p4.1, p4.2.1, p4.2.2))))) else ((-12), I, L))) else ((-11), I, L)) else (if (I 112 x1.toNatClampNeg) = 0 then (if ¬ (I 111 x1.toNatClampNeg) = 0 then (if x2 < 0 then ((-12), I, L) else (if x2 ≤ ((I 113 x1.toNatClampNeg) - 3) then (bx ((lp_278_64 I F x1 x2 ((3 : Int32).toNatClampNeg)) : WI) (fun p5 => (bx ((v_228 p5 L) : Int32 × WI × WL) (fun p6 => (p6.1, p6.2.1, p6.2.2))))) else ((-12), I, L))) else ((-11), I, L)) else ((-13), I, L))) else ((-2), I, L))
def g_278 (I : WI) (F : WF) (L : WL) (x1 : Int32) (x2 : Int32) : Prop := ((¬ (v_262 x1) = 0) → ((vp_in x1 4) ∧ ((((I 111 x1.toNatClampNeg) = 0) → ((vp_in x1 4) ∧ ((¬ (I 111 x1.toNatClampNeg) = 0) → (¬ (x2 < 0) → ((vp_in x1 4) ∧ ((x2 ≤ ((I 113 x1.toNatClampNeg) - 3)) → ((gl_278_64 I F x1 x2 ((3 : Int32).toNatClampNeg)) ∧ (bx ((lp_278_64 I F x1 x2 ((3 : Int32).toNatClampNeg)) : WI) (fun p3 => (g_228 p3 L)))))))))) ∧ (¬ ((I 111 x1.toNatClampNeg) = 0) → ((vp_in x1 4) ∧ (((I 112 x1.toNatClampNeg) = 0) → ((vp_in x1 4) ∧ ((¬ (I 111 x1.toNatClampNeg) = 0) → (¬ (x2 < 0) → ((vp_in x1 4) ∧ ((x2 ≤ ((I 113 x1.toNatClampNeg) - 3)) → ((gl_278_64 I F x1 x2 ((3 : Int32).toNatClampNeg)) ∧ (bx ((lp_278_64 I F x1 x2 ((3 : Int32).toNatClampNeg)) : WI) (fun p5 => (g_228 p5 L)))))))))))))))
theorem cc_278 {l : LX} {d : Nat} {I : WI} {F : WF} {L : WL} {t : Nat} {x1 : Int32} {x2 : Int32} (hg : g_278 I F L x1 x2) : Con l 278 (d + 176) 0 0 [.ref 74, .int x1, .int x2] SH (I, F, L, RT t) (po_I_IL F t (v_278 I F L x1 x2)) := by
  refine cn_278 ?_
  obtain ⟨T1, hT1⟩ : ∃ r : Int32 × WI × WL, r = (v_278 I F L x1 x2) := ⟨_, rfl⟩
  rw [← hT1]
  have he := (hT1.trans (v_278.eq_1 ..)).symm
  have hg := Eq.mp (g_278.eq_1 ..) hg
  refine bk_278_0 (cc_262 (d := d + 174) ) ?_
  refine bk_278_4 (fun h2 => ?_) (fun h2 => ?_)
  · have he := ite_p h2 he
    have hg := hg h2
    obtain ⟨k3, hg⟩ := hg
    refine bk_278_10 k3 (fun h4 => ?_) (fun h4 => ?_)
    · have he := ite_p h4 he
      have hg := hg.1 h4
      obtain ⟨k5, hg⟩ := hg
      refine bk_278_31 k5 (fun h6 => ?_) (fun h6 => ?_)
      · have he := ite_p h6 he
        have hg := hg h6
        refine bk_278_43 (fun h7 => ?_) (fun h7 => ?_)
        · have he := ite_p h7 he
          exact bk_278_59 (rl_I_IL he)
        · have he := ite_n h7 he
          have hg := hg h7
          obtain ⟨k8, hg⟩ := hg
          refine bk_278_47 k8 (fun h9 => ?_) (fun h9 => ?_)
          · have he := ite_p h9 he
            have hg := hg h9
            refine bk_278_62 ?_
            obtain ⟨hgX, hg⟩ := hg
            refine lw_278_64 (d := d)  hgX (fun p3 hr => ?_)
            have he := bx_eq hr he
            have hg := bx_un hr hg
            have k16 := hg
            refine bk_278_124 (cq_I_IL (cc_228 (d := d + 0)  k16)) ?_
            rintro _ _ _ _ _ ⟨p4, hr, rfl, rfl, rfl, rfl, rfl⟩
            have he := bx_eq hr he
            exact bk_278_128 (rl_I_IL he)
          · have he := ite_n h9 he
            exact bk_278_59 (rl_I_IL he)
      · have he := ite_n h6 he
        exact bk_278_40 (rl_I_IL he)
    · have he := ite_n h4 he
      have hg := hg.2 h4
      obtain ⟨k17, hg⟩ := hg
      refine bk_278_19 k17 (fun h18 => ?_) (fun h18 => ?_)
      · have he := ite_p h18 he
        have hg := hg h18
        obtain ⟨k19, hg⟩ := hg
        refine bk_278_31 k19 (fun h20 => ?_) (fun h20 => ?_)
        · have he := ite_p h20 he
          have hg := hg h20
          refine bk_278_43 (fun h21 => ?_) (fun h21 => ?_)
          · have he := ite_p h21 he
            exact bk_278_59 (rl_I_IL he)
          · have he := ite_n h21 he
            have hg := hg h21
            obtain ⟨k22, hg⟩ := hg
            refine bk_278_47 k22 (fun h23 => ?_) (fun h23 => ?_)
            · have he := ite_p h23 he
              have hg := hg h23
              refine bk_278_62 ?_
              obtain ⟨hgX, hg⟩ := hg
              refine lw_278_64 (d := d)  hgX (fun p5 hr => ?_)
              have he := bx_eq hr he
              have hg := bx_un hr hg
              have k24 := hg
              refine bk_278_124 (cq_I_IL (cc_228 (d := d + 0)  k24)) ?_
              rintro _ _ _ _ _ ⟨p6, hr, rfl, rfl, rfl, rfl, rfl⟩
              have he := bx_eq hr he
              exact bk_278_128 (rl_I_IL he)
            · have he := ite_n h23 he
              exact bk_278_59 (rl_I_IL he)
        · have he := ite_n h20 he
          exact bk_278_40 (rl_I_IL he)
      · have he := ite_n h18 he
        exact bk_278_28 (rl_I_IL he)
  · have he := ite_n h2 he
    exact bk_278_7 (rl_I_IL he)
/-- VectorShelfModel.told(II)I -/
def v_210 (I : WI) (L : WL) (x1 : Int32) (x2 : Int32) : Int32 × WI × WL := (if (v_179 I x1) = 0 then ((-99999), I, L) else (if ¬ (v_170 (Int32.toInt64 x2) (0 : Int64) (12 : Int64)) = 0 then (bx ((if x2 = 12 then 1 else (if (v_170 (Int32.toInt64 x2) (6 : Int64) (8 : Int64)) = 0 then 0 else 1)) : Int32) (fun p1 => (if p1 = 0 then (if 3 ≤ x2 then (if 6 ≤ x2 then (if 9 ≤ x2 then (if ¬ x2 = 9 then (if ¬ x2 = 10 then (if ¬ x2 = 11 then ((FP.f2i (v_218 I x1)), I, L) else (bx ((v_217 I L x1) : Int32 × WI × WL) (fun p2 => (p2.1, p2.2.1, p2.2.2)))) else (bx ((v_215 I L x1) : Int32 × WI × WL) (fun p3 => (p3.1, p3.2.1, p3.2.2)))) else (bx ((v_213 I L x1) : Int32 × WI × WL) (fun p4 => (if p4.1 = 0 then (0, p4.2.1, p4.2.2) else (1, p4.2.1, p4.2.2))))) else ((v_211 I x1 (x2 - 6)), I, L)) else (if ¬ x2 = 3 then (if ¬ x2 = 4 then ((I 86 x1.toNatClampNeg), I, L) else ((I 87 x1.toNatClampNeg), I, L)) else ((I 85 x1.toNatClampNeg), I, L))) else ((I 84 ((3 * x1) + x2).toNatClampNeg), I, L)) else (if ¬ (I 86 x1.toNatClampNeg) = (-1) then (if 3 ≤ x2 then (if 6 ≤ x2 then (if 9 ≤ x2 then (if ¬ x2 = 9 then (if ¬ x2 = 10 then (if ¬ x2 = 11 then ((FP.f2i (v_218 I x1)), I, L) else (bx ((v_217 I L x1) : Int32 × WI × WL) (fun p5 => (p5.1, p5.2.1, p5.2.2)))) else (bx ((v_215 I L x1) : Int32 × WI × WL) (fun p6 => (p6.1, p6.2.1, p6.2.2)))) else (bx ((v_213 I L x1) : Int32 × WI × WL) (fun p7 => (if p7.1 = 0 then (0, p7.2.1, p7.2.2) else (1, p7.2.1, p7.2.2))))) else ((v_211 I x1 (x2 - 6)), I, L)) else (if ¬ x2 = 3 then (if ¬ x2 = 4 then ((I 86 x1.toNatClampNeg), I, L) else ((I 87 x1.toNatClampNeg), I, L)) else ((I 85 x1.toNatClampNeg), I, L))) else ((I 84 ((3 * x1) + x2).toNatClampNeg), I, L)) else ((-99999), I, L))))) else ((-99999), I, L)))
def g_210 (I : WI) (L : WL) (x1 : Int32) (x2 : Int32) : Prop := (¬ ((v_179 I x1) = 0) → ((¬ (v_170 (Int32.toInt64 x2) (0 : Int64) (12 : Int64)) = 0) → (bx ((if x2 = 12 then 1 else (if (v_170 (Int32.toInt64 x2) (6 : Int64) (8 : Int64)) = 0 then 0 else 1)) : Int32) (fun p1 => (((p1 = 0) → (((3 ≤ x2) → (((6 ≤ x2) → (((9 ≤ x2) → (((¬ x2 = 9) → (((¬ x2 = 10) → (((¬ x2 = 11) → (g_218 I x1)) ∧ (¬ (¬ x2 = 11) → (g_217 I L x1)))) ∧ (¬ (¬ x2 = 10) → (g_215 I L x1)))) ∧ (¬ (¬ x2 = 9) → (g_213 I L x1)))) ∧ (¬ (9 ≤ x2) → (g_211 I x1 (x2 - 6))))) ∧ (¬ (6 ≤ x2) → (((¬ x2 = 3) → (((¬ x2 = 4) → (vp_in x1 12)) ∧ (¬ (¬ x2 = 4) → (vp_in x1 12)))) ∧ (¬ (¬ x2 = 3) → (vp_in x1 12)))))) ∧ (¬ (3 ≤ x2) → (vp_in ((3 * x1) + x2) 36)))) ∧ (¬ (p1 = 0) → ((vp_in x1 12) ∧ ((¬ (I 86 x1.toNatClampNeg) = (-1)) → (((3 ≤ x2) → (((6 ≤ x2) → (((9 ≤ x2) → (((¬ x2 = 9) → (((¬ x2 = 10) → (((¬ x2 = 11) → (g_218 I x1)) ∧ (¬ (¬ x2 = 11) → (g_217 I L x1)))) ∧ (¬ (¬ x2 = 10) → (g_215 I L x1)))) ∧ (¬ (¬ x2 = 9) → (g_213 I L x1)))) ∧ (¬ (9 ≤ x2) → (g_211 I x1 (x2 - 6))))) ∧ (¬ (6 ≤ x2) → (((¬ x2 = 3) → (((¬ x2 = 4) → (vp_in x1 12)) ∧ (¬ (¬ x2 = 4) → (vp_in x1 12)))) ∧ (¬ (¬ x2 = 3) → (vp_in x1 12)))))) ∧ (¬ (3 ≤ x2) → (vp_in ((3 * x1) + x2) 36)))))))))))
theorem cc_210 {l : LX} {d : Nat} {I : WI} {F : WF} {L : WL} {t : Nat} {x1 : Int32} {x2 : Int32} (hg : g_210 I L x1 x2) : Con l 210 (d + 176) 0 0 [.ref 74, .int x1, .int x2] SH (I, F, L, RT t) (po_I_IL F t (v_210 I L x1 x2)) := by
  refine cn_210 ?_
  obtain ⟨T1, hT1⟩ : ∃ r : Int32 × WI × WL, r = (v_210 I L x1 x2) := ⟨_, rfl⟩
  rw [← hT1]
  have he := (hT1.trans (v_210.eq_1 ..)).symm
  have hg := Eq.mp (g_210.eq_1 ..) hg
  refine bk_210_0 (cc_179 (d := d + 174) ) ?_
  refine bk_210_5 (fun h2 => ?_) (fun h2 => ?_)
  · have he := ite_p h2 he
    exact bk_210_20 (rl_I_IL he)
  · have he := ite_n h2 he
    have hg := hg h2
    refine bk_210_8 (cc_170 (d := d + 175) ) ?_
    refine bk_210_17 (fun h4 => ?_) (fun h4 => ?_)
    · have he := ite_p h4 he
      have hg := hg h4
      obtain ⟨X1, hX1⟩ : ∃ r : Int32, r = (if x2 = 12 then 1 else (if (v_170 (Int32.toInt64 x2) (6 : Int64) (8 : Int64)) = 0 then 0 else 1)) := ⟨_, rfl⟩
      have J1 : ∀ p1 : Int32, p1 = X1 → Wp l 210 (d + 176) 0 0 (po_I_IL F t T1) 0 0 49 [(0, .ref 74), (1, .int x1), (2, .int x2)] [.int p1] SH (I, F, L, RT t) := by
        intro p1 hr
        have hr := hr.trans hX1
        have he := bx_eq hr he
        have hg := bx_un hr hg
        refine bk_210_49 (fun h8 => ?_) (fun h8 => ?_)
        · have he := ite_p h8 he
          have hg := hg.1 h8
          refine bk_210_68 (fun h9 => ?_) (fun h9 => ?_)
          · have he := ite_p h9 he
            have hg := hg.1 h9
            refine bk_210_84 (fun h10 => ?_) (fun h10 => ?_)
            · have he := ite_p h10 he
              have hg := hg.1 h10
              refine bk_210_125 (fun h11 => ?_) (fun h11 => ?_)
              · have he := ite_p h11 he
                have hg := hg.1 h11
                refine bk_210_141 (fun h12 => ?_) (fun h12 => ?_)
                · have he := ite_p h12 he
                  have hg := hg.1 h12
                  refine bk_210_163 (fun h13 => ?_) (fun h13 => ?_)
                  · have he := ite_p h13 he
                    have hg := hg.1 h13
                    refine bk_210_177 (fun h14 => ?_) (fun h14 => ?_)
                    · have he := ite_p h14 he
                      have hg := hg.1 h14
                      have k15 := hg
                      refine bk_210_191 (cc_218 (d := d + 172)  k15) ?_
                      refine bk_210_196 ?_
                      exact bk_210_197 (rl_I_IL he)
                    · have he := ite_n h14 he
                      have hg := hg.2 h14
                      have k16 := hg
                      refine bk_210_183 (cq_I_IL (cc_217 (d := d + 0)  k16)) ?_
                      rintro _ _ _ _ _ ⟨p2, hr, rfl, rfl, rfl, rfl, rfl⟩
                      have he := bx_eq hr he
                      refine bk_210_188 ?_
                      exact bk_210_197 (rl_I_IL he)
                  · have he := ite_n h13 he
                    have hg := hg.2 h13
                    have k17 := hg
                    refine bk_210_169 (cq_I_IL (cc_215 (d := d + 1)  k17)) ?_
                    rintro _ _ _ _ _ ⟨p3, hr, rfl, rfl, rfl, rfl, rfl⟩
                    have he := bx_eq hr he
                    refine bk_210_174 ?_
                    exact bk_210_197 (rl_I_IL he)
                · have he := ite_n h12 he
                  have hg := hg.2 h12
                  have k18 := hg
                  refine bk_210_147 (cq_I_IL (cc_213 (d := d + 1)  k18)) ?_
                  rintro _ _ _ _ _ ⟨p4, hr, rfl, rfl, rfl, rfl, rfl⟩
                  have he := bx_eq hr he
                  refine bk_210_152 (fun h19 => ?_) (fun h19 => ?_)
                  · have he := ite_p h19 he
                    refine bk_210_159 ?_
                    exact bk_210_197 (rl_I_IL he)
                  · have he := ite_n h19 he
                    refine bk_210_155 ?_
                    exact bk_210_197 (rl_I_IL he)
              · have he := ite_n h11 he
                have hg := hg.2 h11
                have k20 := hg
                refine bk_210_131 (cc_211 (d := d + 174)  k20) ?_
                exact bk_210_140 (rl_I_IL he)
            · have he := ite_n h10 he
              have hg := hg.2 h10
              refine bk_210_90 (fun h21 => ?_) (fun h21 => ?_)
              · have he := ite_p h21 he
                have hg := hg.1 h21
                refine bk_210_104 (fun h22 => ?_) (fun h22 => ?_)
                · have he := ite_p h22 he
                  have hg := hg.1 h22
                  have k23 := hg
                  refine bk_210_118 k23 ?_
                  exact bk_210_124 (rl_I_IL he)
                · have he := ite_n h22 he
                  have hg := hg.2 h22
                  have k24 := hg
                  refine bk_210_109 k24 ?_
                  exact bk_210_124 (rl_I_IL he)
              · have he := ite_n h21 he
                have hg := hg.2 h21
                have k25 := hg
                refine bk_210_95 k25 ?_
                exact bk_210_124 (rl_I_IL he)
          · have he := ite_n h9 he
            have hg := hg.2 h9
            have k26 := hg
            exact bk_210_73 k26 (rl_I_IL he)
        · have he := ite_n h8 he
          have hg := hg.2 h8
          obtain ⟨k27, hg⟩ := hg
          refine bk_210_54 k27 (fun h28 => ?_) (fun h28 => ?_)
          · have he := ite_p h28 he
            have hg := hg h28
            refine bk_210_68 (fun h29 => ?_) (fun h29 => ?_)
            · have he := ite_p h29 he
              have hg := hg.1 h29
              refine bk_210_84 (fun h30 => ?_) (fun h30 => ?_)
              · have he := ite_p h30 he
                have hg := hg.1 h30
                refine bk_210_125 (fun h31 => ?_) (fun h31 => ?_)
                · have he := ite_p h31 he
                  have hg := hg.1 h31
                  refine bk_210_141 (fun h32 => ?_) (fun h32 => ?_)
                  · have he := ite_p h32 he
                    have hg := hg.1 h32
                    refine bk_210_163 (fun h33 => ?_) (fun h33 => ?_)
                    · have he := ite_p h33 he
                      have hg := hg.1 h33
                      refine bk_210_177 (fun h34 => ?_) (fun h34 => ?_)
                      · have he := ite_p h34 he
                        have hg := hg.1 h34
                        have k35 := hg
                        refine bk_210_191 (cc_218 (d := d + 172)  k35) ?_
                        refine bk_210_196 ?_
                        exact bk_210_197 (rl_I_IL he)
                      · have he := ite_n h34 he
                        have hg := hg.2 h34
                        have k36 := hg
                        refine bk_210_183 (cq_I_IL (cc_217 (d := d + 0)  k36)) ?_
                        rintro _ _ _ _ _ ⟨p5, hr, rfl, rfl, rfl, rfl, rfl⟩
                        have he := bx_eq hr he
                        refine bk_210_188 ?_
                        exact bk_210_197 (rl_I_IL he)
                    · have he := ite_n h33 he
                      have hg := hg.2 h33
                      have k37 := hg
                      refine bk_210_169 (cq_I_IL (cc_215 (d := d + 1)  k37)) ?_
                      rintro _ _ _ _ _ ⟨p6, hr, rfl, rfl, rfl, rfl, rfl⟩
                      have he := bx_eq hr he
                      refine bk_210_174 ?_
                      exact bk_210_197 (rl_I_IL he)
                  · have he := ite_n h32 he
                    have hg := hg.2 h32
                    have k38 := hg
                    refine bk_210_147 (cq_I_IL (cc_213 (d := d + 1)  k38)) ?_
                    rintro _ _ _ _ _ ⟨p7, hr, rfl, rfl, rfl, rfl, rfl⟩
                    have he := bx_eq hr he
                    refine bk_210_152 (fun h39 => ?_) (fun h39 => ?_)
                    · have he := ite_p h39 he
                      refine bk_210_159 ?_
                      exact bk_210_197 (rl_I_IL he)
                    · have he := ite_n h39 he
                      refine bk_210_155 ?_
                      exact bk_210_197 (rl_I_IL he)
                · have he := ite_n h31 he
                  have hg := hg.2 h31
                  have k40 := hg
                  refine bk_210_131 (cc_211 (d := d + 174)  k40) ?_
                  exact bk_210_140 (rl_I_IL he)
              · have he := ite_n h30 he
                have hg := hg.2 h30
                refine bk_210_90 (fun h41 => ?_) (fun h41 => ?_)
                · have he := ite_p h41 he
                  have hg := hg.1 h41
                  refine bk_210_104 (fun h42 => ?_) (fun h42 => ?_)
                  · have he := ite_p h42 he
                    have hg := hg.1 h42
                    have k43 := hg
                    refine bk_210_118 k43 ?_
                    exact bk_210_124 (rl_I_IL he)
                  · have he := ite_n h42 he
                    have hg := hg.2 h42
                    have k44 := hg
                    refine bk_210_109 k44 ?_
                    exact bk_210_124 (rl_I_IL he)
                · have he := ite_n h41 he
                  have hg := hg.2 h41
                  have k45 := hg
                  refine bk_210_95 k45 ?_
                  exact bk_210_124 (rl_I_IL he)
            · have he := ite_n h29 he
              have hg := hg.2 h29
              have k46 := hg
              exact bk_210_73 k46 (rl_I_IL he)
          · have he := ite_n h28 he
            exact bk_210_64 (rl_I_IL he)
      have he := hX1.symm
      refine bk_210_24 (fun h5 => ?_) (fun h5 => ?_)
      · have he := ite_p h5 he
        refine bk_210_44 ?_
        exact J1 _ he
      · have he := ite_n h5 he
        refine bk_210_30 (cc_170 (d := d + 175) ) ?_
        refine bk_210_41 (fun h7 => ?_) (fun h7 => ?_)
        · have he := ite_p h7 he
          refine bk_210_48 ?_
          exact J1 _ he
        · have he := ite_n h7 he
          refine bk_210_44 ?_
          exact J1 _ he
    · have he := ite_n h4 he
      exact bk_210_20 (rl_I_IL he)
/-- VectorShelfModel.query(III)I -/
def v_227 (I : WI) (L : WL) (x1 : Int32) (x2 : Int32) (x3 : Int32) : Int32 × WI × WL := (if ¬ (v_173 x1 x2 x3) = 0 then (bx ((v_228 (up2 (up2 (up2 I 79 0 x1) 79 1 x2) 79 2 x3) L) : Int32 × WI × WL) (fun p1 => (p1.1, p1.2.1, p1.2.2))) else ((-2), I, L))
def g_227 (I : WI) (L : WL) (x1 : Int32) (x2 : Int32) (x3 : Int32) : Prop := ((¬ (v_173 x1 x2 x3) = 0) → (g_228 (up2 (up2 (up2 I 79 0 x1) 79 1 x2) 79 2 x3) L))
theorem cc_227 {l : LX} {d : Nat} {I : WI} {F : WF} {L : WL} {t : Nat} {x1 : Int32} {x2 : Int32} {x3 : Int32} (hg : g_227 I L x1 x2 x3) : Con l 227 (d + 176) 0 0 [.ref 74, .int x1, .int x2, .int x3] SH (I, F, L, RT t) (po_I_IL F t (v_227 I L x1 x2 x3)) := by
  refine cn_227 ?_
  obtain ⟨T1, hT1⟩ : ∃ r : Int32 × WI × WL, r = (v_227 I L x1 x2 x3) := ⟨_, rfl⟩
  rw [← hT1]
  have he := (hT1.trans (v_227.eq_1 ..)).symm
  have hg := Eq.mp (g_227.eq_1 ..) hg
  refine bk_227_0 (cc_173 (d := d + 174) ) ?_
  refine bk_227_6 (fun h2 => ?_) (fun h2 => ?_)
  · have he := ite_p h2 he
    have hg := hg h2
    have k3 := hg
    refine bk_227_12 (cq_I_IL (cc_228 (d := d + 0)  k3)) ?_
    rintro _ _ _ _ _ ⟨p1, hr, rfl, rfl, rfl, rfl, rfl⟩
    have he := bx_eq hr he
    exact bk_227_37 (rl_I_IL he)
  · have he := ite_n h2 he
    exact bk_227_9 (rl_I_IL he)
/-- the loop at 21 of VectorShelfModel.reading -/
def lp_237_21 (I : WI) : Nat → WI
  | 0 => I
  | k + 1 => bx (lp_237_21 I k) (fun p2 => (up2 p2 99 (nI k).toNatClampNeg (vp_nar (bT 0) 0)))
def gl_237_21 (I : WI) (N : Nat) : Prop := (∀ k, k < N → bx (lp_237_21 I k) (fun p2 => (vp_in (nI k) 4)))
theorem lw_237_21 {l : LX} {d : Nat} {P : RP} {I : WI} {F : WF} {L : WL} {t : Nat} {x1 : Int32} (hgl : gl_237_21 I ((4 : Int32).toNatClampNeg)) (hx : ∀ p2 : WI, p2 = lp_237_21 I ((4 : Int32).toNatClampNeg) → Wp l 237 (d + 177) 0 0 P 0 0 39 [(0, .ref 74), (1, .int x1)] [] SH (p2, F, L, RT t)) : Wp l 237 (d + 177) 0 0 P 0 0 21 [(0, .ref 74), (1, .int x1), (2, .int 0)] [] SH (I, F, L, RT t) := by
  have hin := hgl
  have loop : ∀ m k, k + m = (4 : Int32).toNatClampNeg → ∀ p2 : WI, p2 = lp_237_21 I k → Wp l 237 (d + 177) 0 0 P 0 0 21 [(0, .ref 74), (1, .int x1), (2, .int (nI k))] [] SH (p2, F, L, RT t) := by
    intro m
    induction m with
    | zero =>
      intro k hk p2 hs
      obtain rfl : k = (4 : Int32).toNatClampNeg := by omega
      exact bk_237_21  (fun _ => hx _ hs) (fun h => absurd ((le_cl (Nat.le_refl _)).mpr rfl) h)
    | succ m ih =>
      intro k hk p2 hs
      have hk2 : k < (4 : Int32).toNatClampNeg := by omega
      have ih := ih (k + 1) (by omega)
      rw [nI_succ] at ih
      have he := bx_eq hs (lp_237_21.eq_2 ..).symm
      have hg := bx_un hs (hin k hk2)
      refine bk_237_21  (fun h => absurd ((le_cl (by omega)).mp h) (by omega)) (fun _ => ?_)
      have k2 := hg
      refine bk_237_26 k2 ?_
      exact ih _ he
  exact loop _ 0 (by omega) _ rfl
/-- the loop at 81 of VectorShelfModel.reading -/
def lp_237_81 (I : WI) (x1 : Int32) (x2 : Int32) : Nat → WI
  | 0 => I
  | k + 1 => bx (lp_237_81 I x1 x2 k) (fun p4 => (bx ((if ¬ (p4 86 (nI k).toNatClampNeg) = x2 then p4 else (if (v_180 p4 (nI k)) = 0 then p4 else (bx ((if ¬ (v_240 p4 (v_218 p4 (nI k)) x1) = 0 then 0 else 1) : Int32) (fun p5 => (bx ((if ((up2 p4 98 (nI k).toNatClampNeg (vp_nar (bT 0) p5)) 98 (nI k).toNatClampNeg) = 0 then 0 else 1) : Int32) (fun p6 => (bx ((if ((up2 p4 98 (nI k).toNatClampNeg (vp_nar (bT 0) p5)) 98 (nI k).toNatClampNeg) = 0 then 1 else 0) : Int32) (fun p7 => (up2 (up2 (up2 p4 98 (nI k).toNatClampNeg (vp_nar (bT 0) p5)) 74 46 ((p4 74 46) + p6)) 74 47 (((up2 p4 98 (nI k).toNatClampNeg (vp_nar (bT 0) p5)) 74 47) + p7)))))))))) : WI) (fun p8 => p8)))
def gl_237_81 (I : WI) (x1 : Int32) (x2 : Int32) (N : Nat) : Prop := ((∀ k, k < N → bx (lp_237_81 I x1 x2 k) (fun p4 => (((p4 74 18) = (I 74 18)) ∧ ((vp_in (nI k) 12) ∧ (¬ (¬ (p4 86 (nI k).toNatClampNeg) = x2) → ((g_180 p4 (nI k)) ∧ (¬ ((v_180 p4 (nI k)) = 0) → ((g_218 p4 (nI k)) ∧ ((g_240 p4 x1) ∧ (bx ((if ¬ (v_240 p4 (v_218 p4 (nI k)) x1) = 0 then 0 else 1) : Int32) (fun p5 => ((vp_in (nI k) 12) ∧ ((vp_in (nI k) 12) ∧ (bx ((if ((up2 p4 98 (nI k).toNatClampNeg (vp_nar (bT 0) p5)) 98 (nI k).toNatClampNeg) = 0 then 0 else 1) : Int32) (fun p6 => (vp_in (nI k) 12)))))))))))))))) ∧ (bx (lp_237_81 I x1 x2 N) (fun p4 => (p4 74 18) = (I 74 18))))
theorem lw_237_81 {l : LX} {d : Nat} {P : RP} {I : WI} {F : WF} {L : WL} {t : Nat} {x1 : Int32} {x2 : Int32} (hgl : gl_237_81 I x1 x2 ((I 74 18).toNatClampNeg)) (hx : ∀ p4 : WI, p4 = lp_237_81 I x1 x2 ((I 74 18).toNatClampNeg) → Wp l 237 (d + 177) 0 0 P 0 0 183 [(0, .ref 74), (1, .int x1)] [] SH (p4, F, L, RT t)) : Wp l 237 (d + 177) 0 0 P 0 0 81 [(0, .ref 74), (1, .int x1), (2, .int x2), (3, .int 0)] [] SH (I, F, L, RT t) := by
  obtain ⟨hin, hend⟩ := hgl
  have loop : ∀ m k, k + m = (I 74 18).toNatClampNeg → ∀ p4 : WI, p4 = lp_237_81 I x1 x2 k → Wp l 237 (d + 177) 0 0 P 0 0 81 [(0, .ref 74), (1, .int x1), (2, .int x2), (3, .int (nI k))] [] SH (p4, F, L, RT t) := by
    intro m
    induction m with
    | zero =>
      intro k hk p4 hs
      obtain rfl : k = (I 74 18).toNatClampNeg := by omega
      have hE := bx_un hs hend
      exact bk_237_81  (fun _ => hx _ hs) (fun h => absurd ((show (p4 74 18) ≤ (nI ((I 74 18).toNatClampNeg)) from by rw [show (p4 74 18) = (I 74 18) from hE]; exact (le_cl (Nat.le_refl _)).mpr rfl)) h)
    | succ m ih =>
      intro k hk p4 hs
      have hk2 : k < (I 74 18).toNatClampNeg := by omega
      have ih := ih (k + 1) (by omega)
      rw [nI_succ] at ih
      have he := bx_eq hs (lp_237_81.eq_2 ..).symm
      have hg := bx_un hs (hin k hk2)
      have hE : (p4 74 18) = (I 74 18) := hg.1
      have hg := hg.2
      refine bk_237_81  (fun h => absurd ((le_cl (by omega)).mp (by rw [show (p4 74 18) = (I 74 18) from hE] at h; exact h)) (by omega)) (fun _ => ?_)
      obtain ⟨k9, hg⟩ := hg
      have hgX := hg
      obtain ⟨X1, hX1⟩ : ∃ r : WI, r = (if ¬ (p4 86 (nI k).toNatClampNeg) = x2 then p4 else (if (v_180 p4 (nI k)) = 0 then p4 else (bx ((if ¬ (v_240 p4 (v_218 p4 (nI k)) x1) = 0 then 0 else 1) : Int32) (fun p5 => (bx ((if ((up2 p4 98 (nI k).toNatClampNeg (vp_nar (bT 0) p5)) 98 (nI k).toNatClampNeg) = 0 then 0 else 1) : Int32) (fun p6 => (bx ((if ((up2 p4 98 (nI k).toNatClampNeg (vp_nar (bT 0) p5)) 98 (nI k).toNatClampNeg) = 0 then 1 else 0) : Int32) (fun p7 => (up2 (up2 (up2 p4 98 (nI k).toNatClampNeg (vp_nar (bT 0) p5)) 74 46 ((p4 74 46) + p6)) 74 47 (((up2 p4 98 (nI k).toNatClampNeg (vp_nar (bT 0) p5)) 74 47) + p7)))))))))) := ⟨_, rfl⟩
      have J1 : ∀ p8 : WI, p8 = X1 → Wp l 237 (d + 177) 0 0 P 0 0 177 [(0, .ref 74), (1, .int x1), (2, .int x2), (3, .int (nI k))] [] SH (p8, F, L, RT t) := by
        intro p8 hr
        have hr := hr.trans hX1
        have he := bx_eq hr he
        refine bk_237_177 ?_
        exact ih _ he
      have he := hX1.symm
      have hg := hgX
      refine bk_237_89 k9 (fun h10 => ?_) (fun h10 => ?_)
      · have he := ite_p h10 he
        exact J1 _ he
      · have he := ite_n h10 he
        have hg := hg h10
        obtain ⟨k11, hg⟩ := hg
        refine bk_237_99 (cc_180 (d := d + 176)  k11) ?_
        refine bk_237_104 (fun h12 => ?_) (fun h12 => ?_)
        · have he := ite_p h12 he
          exact J1 _ he
        · have he := ite_n h12 he
          have hg := hg h12
          obtain ⟨k13, hg⟩ := hg
          refine bk_237_107 (cc_218 (d := d + 173)  k13) ?_
          obtain ⟨k14, hg⟩ := hg
          refine bk_237_118 (cc_240 (d := d + 174)  k14) ?_
          obtain ⟨X2, hX2⟩ : ∃ r : Int32, r = (if ¬ (v_240 p4 (v_218 p4 (nI k)) x1) = 0 then 0 else 1) := ⟨_, rfl⟩
          have J2 : ∀ p5 : Int32, p5 = X2 → Wp l 237 (d + 177) 0 0 P 0 0 130 [(0, .ref 74), (1, .int x1), (2, .int x2), (3, .int (nI k))] [.int p5, .int (nI k), .ref 98] SH (p4, F, L, RT t) := by
            intro p5 hr
            have hr := hr.trans hX2
            have he := bx_eq hr he
            have hg := bx_un hr hg
            obtain ⟨k16, k17, hg⟩ := hg
            obtain ⟨X3, hX3⟩ : ∃ r : Int32, r = (if ((up2 p4 98 (nI k).toNatClampNeg (vp_nar (bT 0) p5)) 98 (nI k).toNatClampNeg) = 0 then 0 else 1) := ⟨_, rfl⟩
            have J3 : ∀ p6 : Int32, p6 = X3 → Wp l 237 (d + 177) 0 0 P 0 0 150 [(0, .ref 74), (1, .int x1), (2, .int x2), (3, .int (nI k))] [.int p6, .int (p4 74 46), .ref 74] SH ((up2 p4 98 (nI k).toNatClampNeg (vp_nar (bT 0) p5)), F, L, RT t) := by
              intro p6 hr
              have hr := hr.trans hX3
              have he := bx_eq hr he
              have hg := bx_un hr hg
              have k19 := hg
              obtain ⟨X4, hX4⟩ : ∃ r : Int32, r = (if ((up2 p4 98 (nI k).toNatClampNeg (vp_nar (bT 0) p5)) 98 (nI k).toNatClampNeg) = 0 then 1 else 0) := ⟨_, rfl⟩
              have J4 : ∀ p7 : Int32, p7 = X4 → Wp l 237 (d + 177) 0 0 P 0 0 173 [(0, .ref 74), (1, .int x1), (2, .int x2), (3, .int (nI k))] [.int p7, .int ((up2 p4 98 (nI k).toNatClampNeg (vp_nar (bT 0) p5)) 74 47), .ref 74] SH ((up2 (up2 p4 98 (nI k).toNatClampNeg (vp_nar (bT 0) p5)) 74 46 ((p4 74 46) + p6)), F, L, RT t) := by
                intro p7 hr
                have hr := hr.trans hX4
                have he := bx_eq hr he
                refine bk_237_173 ?_
                exact J1 _ he
              have he := hX4.symm
              refine bk_237_150 k19 (fun h20 => ?_) (fun h20 => ?_)
              · have he := ite_p h20 he
                refine bk_237_172 ?_
                exact J4 _ he
              · have he := ite_n h20 he
                refine bk_237_168 ?_
                exact J4 _ he
            have he := hX3.symm
            refine bk_237_130 k16 k17 (fun h18 => ?_) (fun h18 => ?_)
            · have he := ite_p h18 he
              refine bk_237_149 ?_
              exact J3 _ he
            · have he := ite_n h18 he
              refine bk_237_145 ?_
              exact J3 _ he
          have he := hX2.symm
          refine bk_237_122 (fun h15 => ?_) (fun h15 => ?_)
          · have he := ite_p h15 he
            refine bk_237_129 ?_
            exact J2 _ he
          · have he := ite_n h15 he
            refine bk_237_125 ?_
            exact J2 _ he
  exact loop _ 0 (by omega) _ rfl
/-- the loop at 44 of VectorShelfModel.reading -/
def lp_237_44 (x1 : Int32) : Nat → Int32 → WI → WI
  | 0, x2, I => I
  | k + 1, x2, I => (if x2 = (-1) then I else (if ¬ (v_240 I (v_225 I x2) x1) = 0 then I else (bx ((lp_237_81 (up2 (up2 I 99 x2.toNatClampNeg (vp_nar (bT 0) 1)) 74 48 ((I 74 48) + 1)) x1 x2 (((up2 (up2 I 99 x2.toNatClampNeg (vp_nar (bT 0) 1)) 74 48 ((I 74 48) + 1)) 74 18).toNatClampNeg)) : WI) (fun p9 => (lp_237_44 x1 k (v_239 p9) p9)))))
def gl_237_44 (x1 : Int32) : Nat → Int32 → WI → Prop
  | 0, _, _ => False
  | k + 1, x2, I => (¬ (x2 = (-1)) → ((g_225 I x2) ∧ ((g_240 I x1) ∧ (¬ (¬ (v_240 I (v_225 I x2) x1) = 0) → ((vp_in x2 4) ∧ ((gl_237_81 (up2 (up2 I 99 x2.toNatClampNeg (vp_nar (bT 0) 1)) 74 48 ((I 74 48) + 1)) x1 x2 (((up2 (up2 I 99 x2.toNatClampNeg (vp_nar (bT 0) 1)) 74 48 ((I 74 48) + 1)) 74 18).toNatClampNeg)) ∧ (bx ((lp_237_81 (up2 (up2 I 99 x2.toNatClampNeg (vp_nar (bT 0) 1)) 74 48 ((I 74 48) + 1)) x1 x2 (((up2 (up2 I 99 x2.toNatClampNeg (vp_nar (bT 0) 1)) 74 48 ((I 74 48) + 1)) 74 18).toNatClampNeg)) : WI) (fun p9 => ((g_239 p9) ∧ (gl_237_44 x1 k (v_239 p9) p9))))))))))
theorem lw_237_44 {l : LX} {d : Nat} {P : RP} {F : WF} {L : WL} {t : Nat} {x1 : Int32} : ∀ k : Nat, ∀ (x2 : Int32) (I : WI), gl_237_44 x1 k x2 I → (∀ r : WI, r = lp_237_44 x1 k x2 I → Wp l 237 (d + 177) 0 0 P 0 0 191 [] [] SH (r, F, L, RT t)) → Wp l 237 (d + 177) 0 0 P 0 0 44 [(0, .ref 74), (1, .int x1), (2, .int x2)] [] SH (I, F, L, RT t) := by
  intro k
  induction k with
  | zero =>
    intro x2 I hg hx
    exact hg.elim
  | succ k ih =>
    intro x2 I hg hx
    have hg := Eq.mp (gl_237_44.eq_2 ..) hg
    obtain ⟨T1, hT1⟩ : ∃ r : WI, r = lp_237_44 x1 (k + 1) x2 I := ⟨_, rfl⟩
    have hx : ∀ r : WI, r = T1 → Wp l 237 (d + 177) 0 0 P 0 0 191 [] [] SH (r, F, L, RT t) := fun r hr => hx r (hr.trans hT1)
    have he := (hT1.trans (lp_237_44.eq_2 ..)).symm
    refine bk_237_44 (fun h4 => ?_) (fun h4 => ?_)
    · have he := ite_p h4 he
      exact hx _ he
    · have he := ite_n h4 he
      have hg := hg h4
      obtain ⟨k5, hg⟩ := hg
      refine bk_237_49 (cc_225 (d := d + 173)  k5) ?_
      obtain ⟨k6, hg⟩ := hg
      refine bk_237_55 (cc_240 (d := d + 174)  k6) ?_
      refine bk_237_59 (fun h7 => ?_) (fun h7 => ?_)
      · have he := ite_p h7 he
        exact hx _ he
      · have he := ite_n h7 he
        have hg := hg h7
        obtain ⟨k8, hg⟩ := hg
        refine bk_237_62 k8 ?_
        obtain ⟨hgX, hg⟩ := hg
        refine lw_237_81 (d := d)  hgX (fun p9 hr => ?_)
        have he := bx_eq hr he
        have hg := bx_un hr hg
        obtain ⟨k21, hg⟩ := hg
        refine bk_237_183 (cc_239 (d := d + 172)  k21) ?_
        refine bk_237_187 ?_
        exact ih _ _ hg (fun r hr => hx r (hr.trans he))
/-- VectorShelfModel.reading(I)V -/
def v_237 (I : WI) (L : WL) (x1 : Int32) : WI × WL := (bx ((v_238 I L) : WI × WL) (fun p1 => (bx ((lp_237_21 (up2 (up2 (up2 p1.1 74 46 0) 74 47 0) 74 48 0) ((4 : Int32).toNatClampNeg)) : WI) (fun p3 => (bx ((lp_237_44 x1 400 (v_239 p3) p3) : WI) (fun p10 => (p10, p1.2)))))))
def g_237 (I : WI) (L : WL) (x1 : Int32) : Prop := ((g_238 I L) ∧ (bx ((v_238 I L) : WI × WL) (fun p1 => ((gl_237_21 (up2 (up2 (up2 p1.1 74 46 0) 74 47 0) 74 48 0) ((4 : Int32).toNatClampNeg)) ∧ (bx ((lp_237_21 (up2 (up2 (up2 p1.1 74 46 0) 74 47 0) 74 48 0) ((4 : Int32).toNatClampNeg)) : WI) (fun p3 => ((g_239 p3) ∧ (gl_237_44 x1 400 (v_239 p3) p3))))))))
theorem cc_237 {l : LX} {d : Nat} {I : WI} {F : WF} {L : WL} {t : Nat} {x1 : Int32} (hg : g_237 I L x1) : Con l 237 (d + 177) 0 0 [.ref 74, .int x1] SH (I, F, L, RT t) (po_V_IL F t (v_237 I L x1)) := by
  refine cn_237 ?_
  obtain ⟨T1, hT1⟩ : ∃ r : WI × WL, r = (v_237 I L x1) := ⟨_, rfl⟩
  rw [← hT1]
  have he := (hT1.trans (v_237.eq_1 ..)).symm
  have hg := Eq.mp (g_237.eq_1 ..) hg
  obtain ⟨k1, hg⟩ := hg
  refine bk_237_0 (cq_V_IL (cc_238 (d := d + 0)  k1)) ?_
  rintro _ _ _ _ ⟨p1, hr, rfl, rfl, rfl, rfl⟩
  have he := bx_eq hr he
  have hg := bx_un hr hg
  refine bk_237_4 ?_
  obtain ⟨hgX, hg⟩ := hg
  refine lw_237_21 (d := d)  hgX (fun p3 hr => ?_)
  have he := bx_eq hr he
  have hg := bx_un hr hg
  obtain ⟨k3, hg⟩ := hg
  refine bk_237_39 (cc_239 (d := d + 172)  k3) ?_
  refine bk_237_43 ?_
  have hgX := hg
  refine lw_237_44 (d := d)  400 _ _ hgX (fun p10 hr => ?_)
  have he := bx_eq hr he
  exact bk_237_191 (rl_V_IL he)
end
