section
/-- the loop at 4 of VectorShelfModel.fitting -/
theorem st_ap {α β : Type} {f : α → β} {s a : α} {T : β} (hs : s = a) (h : T = f a) : f s = T := by subst hs; exact h.symm
noncomputable def st_228_4 (I : WI) (L : WL) (a1 : Int32) (k : Nat) (p1 : Int32 × WI × WL) : Int32 × WI × WL := (bx ((v_213 p1.2.1 p1.2.2 (nI k)) : Int32 × WI × WL) (fun p2 => (bx ((if p2.1 = 0 then 0 else 1) : Int32) (fun p3 => ((p1.1 + p3), p2.2.1, p2.2.2)))))
noncomputable def lp_228_4 (I : WI) (L : WL) (a1 : Int32) (n : Nat) : Int32 × WI × WL := Nat.rec (motive := fun _ => Int32 × WI × WL) (a1, I, L) (fun k r => st_228_4 I L a1 k r) n
theorem le_228_4 (I : WI) (L : WL) (a1 : Int32) (k : Nat) : lp_228_4 I L a1 (k + 1) = st_228_4 I L a1 k (lp_228_4 I L a1 k) := rfl
noncomputable def gl_228_4 (I : WI) (L : WL) (a1 : Int32) (N : Nat) : Prop := ((∀ k, k < N → bx (lp_228_4 I L a1 k) (fun p1 => (((p1.2.1 74 18) = (I 74 18)) ∧ (g_213 p1.2.1 p1.2.2 (nI k))))) ∧ (bx (lp_228_4 I L a1 N) (fun p1 => (p1.2.1 74 18) = (I 74 18))))
theorem lw_228_4 {l : LX} {d : Nat} {P : RP} {I : WI} {F : WF} {L : WL} {t : Nat} {a1 : Int32} (hgl : gl_228_4 I L a1 ((I 74 18).toNatClampNeg)) (hx : ∀ p1 : Int32 × WI × WL, p1 = lp_228_4 I L a1 ((I 74 18).toNatClampNeg) → Wp l 228 (d + 175) 0 0 P 0 0 34 [(1, .int p1.1)] [] SH (p1.2.1, F, p1.2.2, RT t)) : Wp l 228 (d + 175) 0 0 P 0 0 4 [(0, .ref 74), (1, .int a1), (2, .int 0)] [] SH (I, F, L, RT t) := by
  obtain ⟨hin, hend⟩ := hgl
  have loop : ∀ m k, k + m = (I 74 18).toNatClampNeg → ∀ p1 : Int32 × WI × WL, p1 = lp_228_4 I L a1 k → Wp l 228 (d + 175) 0 0 P 0 0 4 [(0, .ref 74), (1, .int p1.1), (2, .int (nI k))] [] SH (p1.2.1, F, p1.2.2, RT t) := by
    intro m
    induction m with
    | zero =>
      intro k hk p1 hs
      obtain rfl : k = (I 74 18).toNatClampNeg := by omega
      have hE := bx_un hs hend
      exact bk_228_4  (fun _ => hx _ hs) (fun h => absurd ((show (p1.2.1 74 18) ≤ (nI ((I 74 18).toNatClampNeg)) from by rw [show (p1.2.1 74 18) = (I 74 18) from hE]; exact (le_cl (Nat.le_refl _)).mpr rfl)) h)
    | succ m ih =>
      intro k hk p1 hs
      have hk2 : k < (I 74 18).toNatClampNeg := by omega
      have ih := ih (k + 1) (by omega)
      rw [nI_succ] at ih
      have he := (st_228_4.eq_1 ..).symm.trans (st_ap hs (le_228_4 ..))
      have hg := bx_un hs (hin k hk2)
      have hE : (p1.2.1 74 18) = (I 74 18) := hg.1
      have hg := hg.2
      refine bk_228_4  (fun h => absurd ((le_cl (E := (I 74 18)) (i := k) (by omega)).mp (by rw [show (p1.2.1 74 18) = (I 74 18) from hE] at h; exact h)) (by omega)) (fun _ => ?_)
      have k1 := hg
      refine bk_228_12 (cq_I_IL (cc_213 (d := d + 174) (by omega)  k1)) ?_
      rintro _ _ _ _ _ ⟨p2, hr, rfl, rfl, rfl, rfl, rfl⟩
      have he := bx_eq hr he
      obtain ⟨X1, hX1⟩ : ∃ r : Int32, r = (if p2.1 = 0 then 0 else 1) := ⟨_, rfl⟩
      have J1 : ∀ p3 : Int32, p3 = X1 → Wp l 228 (d + 175) 0 0 P 0 0 26 [(0, .ref 74), (2, .int (nI k))] [.int p3, .int p1.1] SH (p2.2.1, F, p2.2.2, RT t) := by
        intro p3 hr
        have hr := hr.trans hX1
        have he := bx_eq hr he
        refine bk_228_26 ?_
        exact ih ((p1.1 + p3), p2.2.1, p2.2.2) he
      have he := hX1.symm
      refine bk_228_18 (fun h2 => ?_) (fun h2 => ?_)
      · have he := ite_p h2 he
        refine bk_228_25 ?_
        exact J1 0 he
      · have he := ite_n h2 he
        refine bk_228_21 ?_
        exact J1 1 he
  exact loop _ 0 (Nat.zero_add _) _ rfl
/-- VectorShelfModel.fitting()I -/
noncomputable def v_228 (I : WI) (L : WL) : Int32 × WI × WL := (bx ((lp_228_4 I L (0 : Int32) ((I 74 18).toNatClampNeg)) : Int32 × WI × WL) (fun p4 => (p4.1, p4.2.1, p4.2.2)))
noncomputable def g_228 (I : WI) (L : WL) : Prop := (gl_228_4 I L (0 : Int32) ((I 74 18).toNatClampNeg))
theorem cc_228 {l : LX} {d : Nat} {I : WI} {F : WF} {L : WL} {t : Nat} (hd : 175 ≤ d) (hg : g_228 I L) : Con l 228 d 0 0 [.ref 74] SH (I, F, L, RT t) (po_I_IL F t (v_228 I L)) := by
  obtain ⟨d, rfl⟩ : ∃ e, d = e + 175 := ⟨d - 175, by omega⟩
  refine cn_228 ?_
  obtain ⟨T1, hT1⟩ : ∃ r : Int32 × WI × WL, r = (v_228 I L) := ⟨_, rfl⟩
  rw [← hT1]
  have he := (hT1.trans (v_228.eq_1 ..)).symm
  have hg := Eq.mp (g_228.eq_1 ..) hg
  refine bk_228_0 ?_
  have hgX := hg
  refine lw_228_4 (d := d)  hgX (fun p4 hr => ?_)
  have he := bx_eq hr he
  exact bk_228_34 (rl_I_IL he)
/-- the loop at 2 of VectorShelfModel.looks -/
noncomputable def st_238_2 (I : WI) (L : WL) (k : Nat) (p1 : WI × WL) : WI × WL := (bx ((v_213 p1.1 p1.2 (nI k)) : Int32 × WI × WL) (fun p2 => (bx ((v_217 (up2 p2.2.1 97 (nI k).toNatClampNeg (vp_nar (bT 0) p2.1)) p2.2.2 (nI k)) : Int32 × WI × WL) (fun p3 => ((up2 (up2 p3.2.1 96 (nI k).toNatClampNeg p3.1) 98 (nI k).toNatClampNeg (vp_nar (bT 0) 0)), p3.2.2)))))
noncomputable def lp_238_2 (I : WI) (L : WL) (n : Nat) : WI × WL := Nat.rec (motive := fun _ => WI × WL) (I, L) (fun k r => st_238_2 I L k r) n
theorem le_238_2 (I : WI) (L : WL) (k : Nat) : lp_238_2 I L (k + 1) = st_238_2 I L k (lp_238_2 I L k) := rfl
noncomputable def gl_238_2 (I : WI) (L : WL) (N : Nat) : Prop := ((∀ k, k < N → bx (lp_238_2 I L k) (fun p1 => (((p1.1 74 18) = (I 74 18)) ∧ ((g_213 p1.1 p1.2 (nI k)) ∧ (bx ((v_213 p1.1 p1.2 (nI k)) : Int32 × WI × WL) (fun p2 => ((vp_in (nI k) 12) ∧ ((g_217 (up2 p2.2.1 97 (nI k).toNatClampNeg (vp_nar (bT 0) p2.1)) p2.2.2 (nI k)) ∧ (bx ((v_217 (up2 p2.2.1 97 (nI k).toNatClampNeg (vp_nar (bT 0) p2.1)) p2.2.2 (nI k)) : Int32 × WI × WL) (fun p3 => ((vp_in (nI k) 12) ∧ (vp_in (nI k) 12)))))))))))) ∧ (bx (lp_238_2 I L N) (fun p1 => (p1.1 74 18) = (I 74 18))))
theorem lw_238_2 {l : LX} {d : Nat} {P : RP} {I : WI} {F : WF} {L : WL} {t : Nat} (hgl : gl_238_2 I L ((I 74 18).toNatClampNeg)) (hx : ∀ p1 : WI × WL, p1 = lp_238_2 I L ((I 74 18).toNatClampNeg) → Wp l 238 (d + 176) 0 0 P 0 0 45 [] [] SH (p1.1, F, p1.2, RT t)) : Wp l 238 (d + 176) 0 0 P 0 0 2 [(0, .ref 74), (1, .int 0)] [] SH (I, F, L, RT t) := by
  obtain ⟨hin, hend⟩ := hgl
  have loop : ∀ m k, k + m = (I 74 18).toNatClampNeg → ∀ p1 : WI × WL, p1 = lp_238_2 I L k → Wp l 238 (d + 176) 0 0 P 0 0 2 [(0, .ref 74), (1, .int (nI k))] [] SH (p1.1, F, p1.2, RT t) := by
    intro m
    induction m with
    | zero =>
      intro k hk p1 hs
      obtain rfl : k = (I 74 18).toNatClampNeg := by omega
      have hE := bx_un hs hend
      exact bk_238_2  (fun _ => hx _ hs) (fun h => absurd ((show (p1.1 74 18) ≤ (nI ((I 74 18).toNatClampNeg)) from by rw [show (p1.1 74 18) = (I 74 18) from hE]; exact (le_cl (Nat.le_refl _)).mpr rfl)) h)
    | succ m ih =>
      intro k hk p1 hs
      have hk2 : k < (I 74 18).toNatClampNeg := by omega
      have ih := ih (k + 1) (by omega)
      rw [nI_succ] at ih
      have he := (st_238_2.eq_1 ..).symm.trans (st_ap hs (le_238_2 ..))
      have hg := bx_un hs (hin k hk2)
      have hE : (p1.1 74 18) = (I 74 18) := hg.1
      have hg := hg.2
      refine bk_238_2  (fun h => absurd ((le_cl (E := (I 74 18)) (i := k) (by omega)).mp (by rw [show (p1.1 74 18) = (I 74 18) from hE] at h; exact h)) (by omega)) (fun _ => ?_)
      obtain ⟨k1, hg⟩ := hg
      refine bk_238_10 (cq_I_IL (cc_213 (d := d + 175) (by omega)  k1)) ?_
      rintro _ _ _ _ _ ⟨p2, hr, rfl, rfl, rfl, rfl, rfl⟩
      have he := bx_eq hr he
      have hg := bx_un hr hg
      obtain ⟨k2, k3, hg⟩ := hg
      refine bk_238_20 k2 (cq_I_IL (cc_217 (d := d + 175) (by omega)  k3)) ?_
      rintro _ _ _ _ _ ⟨p3, hr, rfl, rfl, rfl, rfl, rfl⟩
      have he := bx_eq hr he
      have hg := bx_un hr hg
      obtain ⟨k4, k5⟩ := hg
      refine bk_238_31 k4 k5 ?_
      exact ih ((up2 (up2 p3.2.1 96 (nI k).toNatClampNeg p3.1) 98 (nI k).toNatClampNeg (vp_nar (bT 0) 0)), p3.2.2) he
  exact loop _ 0 (Nat.zero_add _) _ rfl
/-- VectorShelfModel.looks()V -/
noncomputable def v_238 (I : WI) (L : WL) : WI × WL := (bx ((lp_238_2 I L ((I 74 18).toNatClampNeg)) : WI × WL) (fun p4 => (p4.1, p4.2)))
noncomputable def g_238 (I : WI) (L : WL) : Prop := (gl_238_2 I L ((I 74 18).toNatClampNeg))
theorem cc_238 {l : LX} {d : Nat} {I : WI} {F : WF} {L : WL} {t : Nat} (hd : 176 ≤ d) (hg : g_238 I L) : Con l 238 d 0 0 [.ref 74] SH (I, F, L, RT t) (po_V_IL F t (v_238 I L)) := by
  obtain ⟨d, rfl⟩ : ∃ e, d = e + 176 := ⟨d - 176, by omega⟩
  refine cn_238 ?_
  obtain ⟨T1, hT1⟩ : ∃ r : WI × WL, r = (v_238 I L) := ⟨_, rfl⟩
  rw [← hT1]
  have he := (hT1.trans (v_238.eq_1 ..)).symm
  have hg := Eq.mp (g_238.eq_1 ..) hg
  refine bk_238_0 ?_
  have hgX := hg
  refine lw_238_2 (d := d)  hgX (fun p4 hr => ?_)
  have he := bx_eq hr he
  exact bk_238_45 (rl_V_IL he)
/-- the loop at 33 of VectorShelfModel.within -/
noncomputable def st_243_33 (I : WI) (L : WL) (x1 : Int32) (a3 : Int32) (a4 : Int32) (k : Nat) (p1 : Int32 × Int32 × WI × WL) : Int32 × Int32 × WI × WL := (bx ((v_213 p1.2.2.1 p1.2.2.2 (nI k)) : Int32 × WI × WL) (fun p2 => (bx ((if p2.1 = 0 then (0, p2.2.1, p2.2.2) else (bx ((v_217 p2.2.1 p2.2.2 (nI k)) : Int32 × WI × WL) (fun p3 => (if x1 < p3.1 then (0, p3.2.1, p3.2.2) else (1, p3.2.1, p3.2.2))))) : Int32 × WI × WL) (fun p4 => (bx ((if p4.1 = 0 then 0 else 1) : Int32) (fun p5 => (bx ((if p4.1 = 0 then 0 else 1) : Int32) (fun p6 => ((p1.1 + p5), (p1.2.1 ||| (p6 <<< ((nI k) &&& 31))), p4.2.1, p4.2.2)))))))))
noncomputable def lp_243_33 (I : WI) (L : WL) (x1 : Int32) (a3 : Int32) (a4 : Int32) (n : Nat) : Int32 × Int32 × WI × WL := Nat.rec (motive := fun _ => Int32 × Int32 × WI × WL) (a3, a4, I, L) (fun k r => st_243_33 I L x1 a3 a4 k r) n
theorem le_243_33 (I : WI) (L : WL) (x1 : Int32) (a3 : Int32) (a4 : Int32) (k : Nat) : lp_243_33 I L x1 a3 a4 (k + 1) = st_243_33 I L x1 a3 a4 k (lp_243_33 I L x1 a3 a4 k) := rfl
noncomputable def gl_243_33 (I : WI) (L : WL) (x1 : Int32) (a3 : Int32) (a4 : Int32) (N : Nat) : Prop := ((∀ k, k < N → bx (lp_243_33 I L x1 a3 a4 k) (fun p1 => (((p1.2.2.1 74 18) = (I 74 18)) ∧ ((g_213 p1.2.2.1 p1.2.2.2 (nI k)) ∧ (bx ((v_213 p1.2.2.1 p1.2.2.2 (nI k)) : Int32 × WI × WL) (fun p2 => (¬ (p2.1 = 0) → (g_217 p2.2.1 p2.2.2 (nI k))))))))) ∧ (bx (lp_243_33 I L x1 a3 a4 N) (fun p1 => (p1.2.2.1 74 18) = (I 74 18))))
theorem lw_243_33 {l : LX} {d : Nat} {P : RP} {I : WI} {F : WF} {L : WL} {t : Nat} {x1 : Int32} {x2 : Int32} {a3 : Int32} {a4 : Int32} (hgl : gl_243_33 I L x1 a3 a4 ((I 74 18).toNatClampNeg)) (hx : ∀ p1 : Int32 × Int32 × WI × WL, p1 = lp_243_33 I L x1 a3 a4 ((I 74 18).toNatClampNeg) → Wp l 243 (d + 176) 0 0 P 0 0 105 [(2, .int x2), (3, .int p1.1), (4, .int p1.2.1)] [] SH (p1.2.2.1, F, p1.2.2.2, RT t)) : Wp l 243 (d + 176) 0 0 P 0 0 33 [(0, .ref 74), (1, .int x1), (2, .int x2), (3, .int a3), (4, .int a4), (5, .int 0)] [] SH (I, F, L, RT t) := by
  obtain ⟨hin, hend⟩ := hgl
  have loop : ∀ m k, k + m = (I 74 18).toNatClampNeg → ∀ p1 : Int32 × Int32 × WI × WL, p1 = lp_243_33 I L x1 a3 a4 k → Wp l 243 (d + 176) 0 0 P 0 0 33 [(0, .ref 74), (1, .int x1), (2, .int x2), (3, .int p1.1), (4, .int p1.2.1), (5, .int (nI k))] [] SH (p1.2.2.1, F, p1.2.2.2, RT t) := by
    intro m
    induction m with
    | zero =>
      intro k hk p1 hs
      obtain rfl : k = (I 74 18).toNatClampNeg := by omega
      have hE := bx_un hs hend
      exact bk_243_33  (fun _ => hx _ hs) (fun h => absurd ((show (p1.2.2.1 74 18) ≤ (nI ((I 74 18).toNatClampNeg)) from by rw [show (p1.2.2.1 74 18) = (I 74 18) from hE]; exact (le_cl (Nat.le_refl _)).mpr rfl)) h)
    | succ m ih =>
      intro k hk p1 hs
      have hk2 : k < (I 74 18).toNatClampNeg := by omega
      have ih := ih (k + 1) (by omega)
      rw [nI_succ] at ih
      have he := (st_243_33.eq_1 ..).symm.trans (st_ap hs (le_243_33 ..))
      have hg := bx_un hs (hin k hk2)
      have hE : (p1.2.2.1 74 18) = (I 74 18) := hg.1
      have hg := hg.2
      refine bk_243_33  (fun h => absurd ((le_cl (E := (I 74 18)) (i := k) (by omega)).mp (by rw [show (p1.2.2.1 74 18) = (I 74 18) from hE] at h; exact h)) (by omega)) (fun _ => ?_)
      obtain ⟨k5, hg⟩ := hg
      refine bk_243_42 (cq_I_IL (cc_213 (d := d + 175) (by omega)  k5)) ?_
      rintro _ _ _ _ _ ⟨p2, hr, rfl, rfl, rfl, rfl, rfl⟩
      have he := bx_eq hr he
      have hg := bx_un hr hg
      have hgX := hg
      obtain ⟨X1, hX1⟩ : ∃ r : Int32 × WI × WL, r = (if p2.1 = 0 then (0, p2.2.1, p2.2.2) else (bx ((v_217 p2.2.1 p2.2.2 (nI k)) : Int32 × WI × WL) (fun p3 => (if x1 < p3.1 then (0, p3.2.1, p3.2.2) else (1, p3.2.1, p3.2.2))))) := ⟨_, rfl⟩
      have J1 : ∀ p4 : Int32 × WI × WL, p4 = X1 → Wp l 243 (d + 176) 0 0 P 0 0 66 [(0, .ref 74), (1, .int x1), (2, .int x2), (3, .int p1.1), (4, .int p1.2.1), (5, .int (nI k))] [.int p4.1] SH (p4.2.1, F, p4.2.2, RT t) := by
        intro p4 hr
        have hr := hr.trans hX1
        have he := bx_eq hr he
        obtain ⟨X2, hX2⟩ : ∃ r : Int32, r = (if p4.1 = 0 then 0 else 1) := ⟨_, rfl⟩
        have J2 : ∀ p5 : Int32, p5 = X2 → Wp l 243 (d + 176) 0 0 P 0 0 79 [(0, .ref 74), (1, .int x1), (2, .int x2), (4, .int p1.2.1), (5, .int (nI k)), (6, .int p4.1)] [.int p5, .int p1.1] SH (p4.2.1, F, p4.2.2, RT t) := by
          intro p5 hr
          have hr := hr.trans hX2
          have he := bx_eq hr he
          obtain ⟨X3, hX3⟩ : ∃ r : Int32, r = (if p4.1 = 0 then 0 else 1) := ⟨_, rfl⟩
          have J3 : ∀ p6 : Int32, p6 = X3 → Wp l 243 (d + 176) 0 0 P 0 0 93 [(0, .ref 74), (1, .int x1), (2, .int x2), (3, .int (p1.1 + p5)), (5, .int (nI k))] [.int p6, .int p1.2.1] SH (p4.2.1, F, p4.2.2, RT t) := by
            intro p6 hr
            have hr := hr.trans hX3
            have he := bx_eq hr he
            refine bk_243_93 ?_
            exact ih ((p1.1 + p5), (p1.2.1 ||| (p6 <<< ((nI k) &&& 31))), p4.2.1, p4.2.2) he
          have he := hX3.symm
          refine bk_243_79 (fun h10 => ?_) (fun h10 => ?_)
          · have he := ite_p h10 he
            refine bk_243_92 ?_
            exact J3 0 he
          · have he := ite_n h10 he
            refine bk_243_88 ?_
            exact J3 1 he
        have he := hX2.symm
        refine bk_243_66 (fun h9 => ?_) (fun h9 => ?_)
        · have he := ite_p h9 he
          refine bk_243_78 ?_
          exact J2 0 he
        · have he := ite_n h9 he
          refine bk_243_74 ?_
          exact J2 1 he
      have he := hX1.symm
      have hg := hgX
      refine bk_243_48 (fun h6 => ?_) (fun h6 => ?_)
      · have he := ite_p h6 he
        refine bk_243_65 ?_
        exact J1 (0, p2.2.1, p2.2.2) he
      · have he := ite_n h6 he
        have hg := hg h6
        have k7 := hg
        refine bk_243_51 (cq_I_IL (cc_217 (d := d + 175) (by omega)  k7)) ?_
        rintro _ _ _ _ _ ⟨p3, hr, rfl, rfl, rfl, rfl, rfl⟩
        have he := bx_eq hr he
        refine bk_243_57 (fun h8 => ?_) (fun h8 => ?_)
        · have he := ite_p h8 he
          refine bk_243_65 ?_
          exact J1 (0, p3.2.1, p3.2.2) he
        · have he := ite_n h8 he
          refine bk_243_61 ?_
          exact J1 (1, p3.2.1, p3.2.2) he
  exact loop _ 0 (Nat.zero_add _) _ rfl
/-- VectorShelfModel.within(II)I -/
noncomputable def v_243 (I : WI) (L : WL) (x1 : Int32) (x2 : Int32) : Int32 × WI × WL := (if (v_170 (Int32.toInt64 x1) (0 : Int64) (999999999 : Int64)) = 0 then ((-2), I, L) else (if ¬ (v_170 (Int32.toInt64 x2) (0 : Int64) (1 : Int64)) = 0 then (bx ((lp_243_33 I L x1 (0 : Int32) (0 : Int32) ((I 74 18).toNatClampNeg)) : Int32 × Int32 × WI × WL) (fun p7 => (if ¬ x2 = 0 then (p7.2.1, p7.2.2.1, p7.2.2.2) else (p7.1, p7.2.2.1, p7.2.2.2)))) else ((-2), I, L)))
noncomputable def g_243 (I : WI) (L : WL) (x1 : Int32) (x2 : Int32) : Prop := (¬ ((v_170 (Int32.toInt64 x1) (0 : Int64) (999999999 : Int64)) = 0) → ((¬ (v_170 (Int32.toInt64 x2) (0 : Int64) (1 : Int64)) = 0) → (gl_243_33 I L x1 (0 : Int32) (0 : Int32) ((I 74 18).toNatClampNeg))))
theorem cc_243 {l : LX} {d : Nat} {I : WI} {F : WF} {L : WL} {t : Nat} {x1 : Int32} {x2 : Int32} (hd : 176 ≤ d) (hg : g_243 I L x1 x2) : Con l 243 d 0 0 [.ref 74, .int x1, .int x2] SH (I, F, L, RT t) (po_I_IL F t (v_243 I L x1 x2)) := by
  obtain ⟨d, rfl⟩ : ∃ e, d = e + 176 := ⟨d - 176, by omega⟩
  refine cn_243 ?_
  obtain ⟨T1, hT1⟩ : ∃ r : Int32 × WI × WL, r = (v_243 I L x1 x2) := ⟨_, rfl⟩
  rw [← hT1]
  have he := (hT1.trans (v_243.eq_1 ..)).symm
  have hg := Eq.mp (g_243.eq_1 ..) hg
  refine bk_243_0 (cc_170 (d := d + 175) ) ?_
  refine bk_243_9 (fun h2 => ?_) (fun h2 => ?_)
  · have he := ite_p h2 he
    exact bk_243_22 (rl_I_IL he)
  · have he := ite_n h2 he
    have hg := hg h2
    refine bk_243_12 (cc_170 (d := d + 175) ) ?_
    refine bk_243_19 (fun h4 => ?_) (fun h4 => ?_)
    · have he := ite_p h4 he
      have hg := hg h4
      refine bk_243_25 ?_
      have hgX := hg
      refine lw_243_33 (d := d)  hgX (fun p7 hr => ?_)
      have he := bx_eq hr he
      refine bk_243_105 (fun h11 => ?_) (fun h11 => ?_)
      · have he := ite_p h11 he
        refine bk_243_113 ?_
        exact bk_243_115 (rl_I_IL he)
      · have he := ite_n h11 he
        refine bk_243_109 ?_
        exact bk_243_115 (rl_I_IL he)
    · have he := ite_n h4 he
      exact bk_243_22 (rl_I_IL he)
/-- the loop at 19 of VectorShelfModel.rank -/
def lp_244_19 (I : WI) (x1 : Int32) (a2 : Int32) : Nat → Int32
  | 0 => a2
  | k + 1 => bx (lp_244_19 I x1 a2 k) (fun p2 => (bx ((if (I 97 (nI k).toNatClampNeg) = 0 then 0 else (if (v_242 I (nI k) x1) = 0 then 0 else 1)) : Int32) (fun p3 => (p2 + p3))))
def gl_244_19 (I : WI) (x1 : Int32) (a2 : Int32) (N : Nat) : Prop := (∀ k, k < N → bx (lp_244_19 I x1 a2 k) (fun p2 => ((vp_in (nI k) 12) ∧ (¬ ((I 97 (nI k).toNatClampNeg) = 0) → (g_242 I (nI k) x1)))))
theorem lw_244_19 {l : LX} {d : Nat} {P : RP} {I : WI} {F : WF} {L : WL} {t : Nat} {x1 : Int32} {a2 : Int32} (hgl : gl_244_19 I x1 a2 ((I 74 18).toNatClampNeg)) (hx : ∀ p2 : Int32, p2 = lp_244_19 I x1 a2 ((I 74 18).toNatClampNeg) → Wp l 244 (d + 177) 0 0 P 0 0 59 [(0, .ref 74), (1, .int x1), (2, .int p2)] [] SH (I, F, L, RT t)) : Wp l 244 (d + 177) 0 0 P 0 0 19 [(0, .ref 74), (1, .int x1), (2, .int a2), (3, .int 0)] [] SH (I, F, L, RT t) := by
  have hin := hgl
  have loop : ∀ m k, k + m = (I 74 18).toNatClampNeg → ∀ p2 : Int32, p2 = lp_244_19 I x1 a2 k → Wp l 244 (d + 177) 0 0 P 0 0 19 [(0, .ref 74), (1, .int x1), (2, .int p2), (3, .int (nI k))] [] SH (I, F, L, RT t) := by
    intro m
    induction m with
    | zero =>
      intro k hk p2 hs
      obtain rfl : k = (I 74 18).toNatClampNeg := by omega
      exact bk_244_19  (fun _ => hx _ hs) (fun h => absurd ((le_cl (Nat.le_refl _)).mpr rfl) h)
    | succ m ih =>
      intro k hk p2 hs
      have hk2 : k < (I 74 18).toNatClampNeg := by omega
      have ih := ih (k + 1) (by omega)
      rw [nI_succ] at ih
      have he := bx_eq hs (lp_244_19.eq_2 ..).symm
      have hg := bx_un hs (hin k hk2)
      refine bk_244_19  (fun h => absurd ((le_cl (E := (I 74 18)) (i := k) (by omega)).mp h) (by omega)) (fun _ => ?_)
      obtain ⟨k4, hg⟩ := hg
      have hgX := hg
      obtain ⟨X1, hX1⟩ : ∃ r : Int32, r = (if (I 97 (nI k).toNatClampNeg) = 0 then 0 else (if (v_242 I (nI k) x1) = 0 then 0 else 1)) := ⟨_, rfl⟩
      have J1 : ∀ p3 : Int32, p3 = X1 → Wp l 244 (d + 177) 0 0 P 0 0 51 [(0, .ref 74), (1, .int x1), (3, .int (nI k))] [.int p3, .int p2] SH (I, F, L, RT t) := by
        intro p3 hr
        have hr := hr.trans hX1
        have he := bx_eq hr he
        refine bk_244_51 ?_
        exact ih (p2 + p3) he
      have he := hX1.symm
      have hg := hgX
      refine bk_244_27 k4 (fun h5 => ?_) (fun h5 => ?_)
      · have he := ite_p h5 he
        refine bk_244_50 ?_
        exact J1 0 he
      · have he := ite_n h5 he
        have hg := hg h5
        have k6 := hg
        refine bk_244_37 (cc_242 (d := d + 176)  k6) ?_
        refine bk_244_43 (fun h7 => ?_) (fun h7 => ?_)
        · have he := ite_p h7 he
          refine bk_244_50 ?_
          exact J1 0 he
        · have he := ite_n h7 he
          refine bk_244_46 ?_
          exact J1 1 he
  exact loop _ 0 (Nat.zero_add _) _ rfl
/-- VectorShelfModel.rank(I)I -/
noncomputable def v_244 (I : WI) (L : WL) (x1 : Int32) : Int32 × WI × WL := (if ¬ (v_179 I x1) = 0 then (bx ((v_238 I L) : WI × WL) (fun p1 => (bx ((lp_244_19 p1.1 x1 (0 : Int32) ((p1.1 74 18).toNatClampNeg)) : Int32) (fun p4 => (if (p1.1 97 x1.toNatClampNeg) = 0 then ((-1), p1.1, p1.2) else (p4, p1.1, p1.2)))))) else ((-2), I, L))
noncomputable def g_244 (I : WI) (L : WL) (x1 : Int32) : Prop := ((¬ (v_179 I x1) = 0) → ((g_238 I L) ∧ (bx ((v_238 I L) : WI × WL) (fun p1 => ((gl_244_19 p1.1 x1 (0 : Int32) ((p1.1 74 18).toNatClampNeg)) ∧ (bx ((lp_244_19 p1.1 x1 (0 : Int32) ((p1.1 74 18).toNatClampNeg)) : Int32) (fun p4 => (vp_in x1 12))))))))
theorem cc_244 {l : LX} {d : Nat} {I : WI} {F : WF} {L : WL} {t : Nat} {x1 : Int32} (hd : 177 ≤ d) (hg : g_244 I L x1) : Con l 244 d 0 0 [.ref 74, .int x1] SH (I, F, L, RT t) (po_I_IL F t (v_244 I L x1)) := by
  obtain ⟨d, rfl⟩ : ∃ e, d = e + 177 := ⟨d - 177, by omega⟩
  refine cn_244 ?_
  obtain ⟨T1, hT1⟩ : ∃ r : Int32 × WI × WL, r = (v_244 I L x1) := ⟨_, rfl⟩
  rw [← hT1]
  have he := (hT1.trans (v_244.eq_1 ..)).symm
  have hg := Eq.mp (g_244.eq_1 ..) hg
  refine bk_244_0 (cc_179 (d := d + 175) ) ?_
  refine bk_244_5 (fun h2 => ?_) (fun h2 => ?_)
  · have he := ite_p h2 he
    have hg := hg h2
    obtain ⟨k3, hg⟩ := hg
    refine bk_244_11 (cq_V_IL (cc_238 (d := d + 176) (by omega)  k3)) ?_
    rintro _ _ _ _ ⟨p1, hr, rfl, rfl, rfl, rfl⟩
    have he := bx_eq hr he
    have hg := bx_un hr hg
    refine bk_244_15 ?_
    obtain ⟨hgX, hg⟩ := hg
    refine lw_244_19 (d := d)  hgX (fun p4 hr => ?_)
    have he := bx_eq hr he
    have hg := bx_un hr hg
    have k8 := hg
    refine bk_244_59 k8 (fun h9 => ?_) (fun h9 => ?_)
    · have he := ite_p h9 he
      refine bk_244_72 ?_
      exact bk_244_73 (rl_I_IL he)
    · have he := ite_n h9 he
      refine bk_244_68 ?_
      exact bk_244_73 (rl_I_IL he)
  · have he := ite_n h2 he
    exact bk_244_8 (rl_I_IL he)
/-- VectorShelfModel.firstNear()I -/
noncomputable def v_255 (I : WI) (L : WL) : Int32 × WI × WL := (bx ((v_238 I L) : WI × WL) (fun p1 => ((v_241 p1.1 (0 : Int32) (0 : Int32)), p1.1, p1.2)))
noncomputable def g_255 (I : WI) (L : WL) : Prop := ((g_238 I L) ∧ (bx ((v_238 I L) : WI × WL) (fun p1 => (g_241 p1.1 (0 : Int32) (0 : Int32)))))
theorem cc_255 {l : LX} {d : Nat} {I : WI} {F : WF} {L : WL} {t : Nat} (hd : 177 ≤ d) (hg : g_255 I L) : Con l 255 d 0 0 [.ref 74] SH (I, F, L, RT t) (po_I_IL F t (v_255 I L)) := by
  obtain ⟨d, rfl⟩ : ∃ e, d = e + 177 := ⟨d - 177, by omega⟩
  refine cn_255 ?_
  obtain ⟨T1, hT1⟩ : ∃ r : Int32 × WI × WL, r = (v_255 I L) := ⟨_, rfl⟩
  rw [← hT1]
  have he := (hT1.trans (v_255.eq_1 ..)).symm
  have hg := Eq.mp (g_255.eq_1 ..) hg
  obtain ⟨k1, hg⟩ := hg
  refine bk_255_0 (cq_V_IL (cc_238 (d := d + 176) (by omega)  k1)) ?_
  rintro _ _ _ _ ⟨p1, hr, rfl, rfl, rfl, rfl⟩
  have he := bx_eq hr he
  have hg := bx_un hr hg
  have k2 := hg
  refine bk_255_4 (cc_241 (d := d + 175)  k2) ?_
  exact bk_255_10 (rl_I_IL he)
/-- the loop at 8 of VectorShelfModel.firstOther -/
noncomputable def st_263_8 (F : WF) (x1 : Int32) (ih : Int32 → Int32 → WI → WL → Int32 × WI × WL) (x2 : Int32) (x3 : Int32) (I : WI) (L : WL) : Int32 × WI × WL := (if (I 113 x1.toNatClampNeg) ≤ x3 then (x2, I, L) else (if ¬ x2 = (-1) then (x2, I, L) else (bx ((v_257 I x3) : WI) (fun p2 => (bx ((v_255 p2 L) : Int32 × WI × WL) (fun p3 => (bx ((if p3.1 = (v_264 p3.2.1 F x1 x3) then (-1) else x3) : Int32) (fun p4 => (ih p4 (x3 + 1) p3.2.1 p3.2.2)))))))))
noncomputable def lp_263_8 (F : WF) (x1 : Int32) (n : Nat) : Int32 → Int32 → WI → WL → Int32 × WI × WL := Nat.rec (motive := fun _ => Int32 → Int32 → WI → WL → Int32 × WI × WL) (fun x2 x3 I L => (x2, I, L)) (fun k ih x2 x3 I L => st_263_8 F x1 ih x2 x3 I L) n
theorem le_263_8 (F : WF) (x1 : Int32) (k : Nat) (x2 : Int32) (x3 : Int32) (I : WI) (L : WL) : lp_263_8 F x1 (k + 1) x2 x3 I L = st_263_8 F x1 (lp_263_8 F x1 k) x2 x3 I L := rfl
noncomputable def stg_263_8 (F : WF) (x1 : Int32) (ih : Int32 → Int32 → WI → WL → Prop) (x2 : Int32) (x3 : Int32) (I : WI) (L : WL) : Prop := ((vp_in x1 4) ∧ (¬ ((I 113 x1.toNatClampNeg) ≤ x3) → (¬ (¬ x2 = (-1)) → ((g_257 I x3) ∧ (bx ((v_257 I x3) : WI) (fun p2 => ((g_255 p2 L) ∧ (bx ((v_255 p2 L) : Int32 × WI × WL) (fun p3 => ((g_264 p3.2.1 F x1 x3) ∧ (bx ((if p3.1 = (v_264 p3.2.1 F x1 x3) then (-1) else x3) : Int32) (fun p4 => (ih p4 (x3 + 1) p3.2.1 p3.2.2)))))))))))))
noncomputable def gl_263_8 (F : WF) (x1 : Int32) (n : Nat) : Int32 → Int32 → WI → WL → Prop := Nat.rec (motive := fun _ => Int32 → Int32 → WI → WL → Prop) (fun _ _ _ _ => False) (fun k ih x2 x3 I L => stg_263_8 F x1 ih x2 x3 I L) n
theorem leg_263_8 (F : WF) (x1 : Int32) (k : Nat) (x2 : Int32) (x3 : Int32) (I : WI) (L : WL) : gl_263_8 F x1 (k + 1) x2 x3 I L = stg_263_8 F x1 (gl_263_8 F x1 k) x2 x3 I L := rfl
theorem lw_263_8 {l : LX} {d : Nat} {P : RP} {F : WF} {t : Nat} {x1 : Int32} : ∀ k : Nat, ∀ (x2 : Int32) (x3 : Int32) (I : WI) (L : WL), gl_263_8 F x1 k x2 x3 I L → (∀ r : Int32 × WI × WL, r = lp_263_8 F x1 k x2 x3 I L → Wp l 263 (d + 178) 0 0 P 0 0 53 [(0, .ref 74), (2, .int r.1)] [] SH (r.2.1, F, r.2.2, RT t)) → Wp l 263 (d + 178) 0 0 P 0 0 8 [(0, .ref 74), (1, .int x1), (2, .int x2), (3, .int x3)] [] SH (I, F, L, RT t) := by
  intro k
  induction k with
  | zero =>
    intro x2 x3 I L hg hx
    exact hg.elim
  | succ k ih =>
    intro x2 x3 I L hg hx
    have hg := Eq.mp ((leg_263_8 ..).trans (stg_263_8.eq_1 ..)) hg
    obtain ⟨T1, hT1⟩ : ∃ r : Int32 × WI × WL, r = lp_263_8 F x1 (k + 1) x2 x3 I L := ⟨_, rfl⟩
    have hx : ∀ r : Int32 × WI × WL, r = T1 → Wp l 263 (d + 178) 0 0 P 0 0 53 [(0, .ref 74), (2, .int r.1)] [] SH (r.2.1, F, r.2.2, RT t) := fun r hr => hx r (hr.trans hT1)
    have he := (hT1.trans ((le_263_8 ..).trans (st_263_8.eq_1 ..))).symm
    obtain ⟨k2, hg⟩ := hg
    refine bk_263_8 k2 (fun h3 => ?_) (fun h3 => ?_)
    · have he := ite_p h3 he
      exact hx (x2, I, L) he
    · have he := ite_n h3 he
      have hg := hg h3
      refine bk_263_18 (fun h4 => ?_) (fun h4 => ?_)
      · have he := ite_p h4 he
        exact hx (x2, I, L) he
      · have he := ite_n h4 he
        have hg := hg h4
        obtain ⟨k5, hg⟩ := hg
        refine bk_263_23 (cq_V_I (cc_257 (d := d + 177)  k5)) ?_
        rintro _ _ _ _ ⟨p2, hr, rfl, rfl, rfl, rfl⟩
        have he := bx_eq hr he
        have hg := bx_un hr hg
        obtain ⟨k6, hg⟩ := hg
        refine bk_263_28 (cq_I_IL (cc_255 (d := d + 177) (by omega)  k6)) ?_
        rintro _ _ _ _ _ ⟨p3, hr, rfl, rfl, rfl, rfl, rfl⟩
        have he := bx_eq hr he
        have hg := bx_un hr hg
        obtain ⟨k7, hg⟩ := hg
        refine bk_263_32 (cc_264 (d := d + 177)  k7) ?_
        obtain ⟨X1, hX1⟩ : ∃ r : Int32, r = (if p3.1 = (v_264 p3.2.1 F x1 x3) then (-1) else x3) := ⟨_, rfl⟩
        have J1 : ∀ p4 : Int32, p4 = X1 → Wp l 263 (d + 178) 0 0 P 0 0 46 [(0, .ref 74), (1, .int x1), (3, .int x3)] [.int p4] SH (p3.2.1, F, p3.2.2, RT t) := by
          intro p4 hr
          have hr := hr.trans hX1
          have he := bx_eq hr he
          have hg := bx_un hr hg
          refine bk_263_46 ?_
          exact ih p4 (x3 + 1) p3.2.1 p3.2.2 hg (fun r hr => hx r (hr.trans he))
        have he := hX1.symm
        refine bk_263_38 (fun h8 => ?_) (fun h8 => ?_)
        · have he := ite_p h8 he
          refine bk_263_45 ?_
          exact J1 (-1) he
        · have he := ite_n h8 he
          refine bk_263_41 ?_
          exact J1 x3 he
/-- VectorShelfModel.firstOther(I)I -/
noncomputable def v_263 (I : WI) (F : WF) (L : WL) (x1 : Int32) : Int32 × WI × WL := (bx ((v_234 I) : WI) (fun p1 => (bx ((lp_263_8 F x1 400 ((-1) : Int32) (0 : Int32) p1 L) : Int32 × WI × WL) (fun p5 => (bx ((v_235 p5.2.1) : WI) (fun p6 => (p5.1, p6, p5.2.2)))))))
noncomputable def g_263 (I : WI) (F : WF) (L : WL) (x1 : Int32) : Prop := ((g_234 I) ∧ (bx ((v_234 I) : WI) (fun p1 => ((gl_263_8 F x1 400 ((-1) : Int32) (0 : Int32) p1 L) ∧ (bx ((lp_263_8 F x1 400 ((-1) : Int32) (0 : Int32) p1 L) : Int32 × WI × WL) (fun p5 => (g_235 p5.2.1)))))))
theorem cc_263 {l : LX} {d : Nat} {I : WI} {F : WF} {L : WL} {t : Nat} {x1 : Int32} (hd : 178 ≤ d) (hg : g_263 I F L x1) : Con l 263 d 0 0 [.ref 74, .int x1] SH (I, F, L, RT t) (po_I_IL F t (v_263 I F L x1)) := by
  obtain ⟨d, rfl⟩ : ∃ e, d = e + 178 := ⟨d - 178, by omega⟩
  refine cn_263 ?_
  obtain ⟨T1, hT1⟩ : ∃ r : Int32 × WI × WL, r = (v_263 I F L x1) := ⟨_, rfl⟩
  rw [← hT1]
  have he := (hT1.trans (v_263.eq_1 ..)).symm
  have hg := Eq.mp (g_263.eq_1 ..) hg
  obtain ⟨k1, hg⟩ := hg
  refine bk_263_0 (cq_V_I (cc_234 (d := d + 177)  k1)) ?_
  rintro _ _ _ _ ⟨p1, hr, rfl, rfl, rfl, rfl⟩
  have he := bx_eq hr he
  have hg := bx_un hr hg
  refine bk_263_4 ?_
  obtain ⟨hgX, hg⟩ := hg
  refine lw_263_8 (d := d)  400 ((-1) : Int32) (0 : Int32) p1 L hgX (fun p5 hr => ?_)
  have he := bx_eq hr he
  have hg := bx_un hr hg
  have k9 := hg
  refine bk_263_53 (cq_V_I (cc_235 (d := d + 177)  k9)) ?_
  rintro _ _ _ _ ⟨p6, hr, rfl, rfl, rfl, rfl⟩
  have he := bx_eq hr he
  exact bk_263_57 (rl_I_IL he)
/-- the loop at 36 of VectorShelfModel.film -/
noncomputable def st_266_36 (I : WI) (L : WL) (x1 : Int32) (k : Nat) (p3 : WI × WL) : WI × WL := (bx ((v_257 p3.1 (nI k)) : WI) (fun p4 => (bx ((v_255 p4 p3.2) : Int32 × WI × WL) (fun p5 => ((up2 p5.2.1 114 ((40 * x1) + (nI k)).toNatClampNeg p5.1), p5.2.2)))))
noncomputable def lp_266_36 (I : WI) (L : WL) (x1 : Int32) (n : Nat) : WI × WL := Nat.rec (motive := fun _ => WI × WL) (I, L) (fun k r => st_266_36 I L x1 k r) n
theorem le_266_36 (I : WI) (L : WL) (x1 : Int32) (k : Nat) : lp_266_36 I L x1 (k + 1) = st_266_36 I L x1 k (lp_266_36 I L x1 k) := rfl
noncomputable def gl_266_36 (I : WI) (L : WL) (x1 : Int32) (N : Nat) : Prop := (∀ k, k < N → bx (lp_266_36 I L x1 k) (fun p3 => ((g_257 p3.1 (nI k)) ∧ (bx ((v_257 p3.1 (nI k)) : WI) (fun p4 => ((g_255 p4 p3.2) ∧ (bx ((v_255 p4 p3.2) : Int32 × WI × WL) (fun p5 => (vp_in ((40 * x1) + (nI k)) 160)))))))))
theorem lw_266_36 {l : LX} {d : Nat} {P : RP} {I : WI} {F : WF} {L : WL} {t : Nat} {x1 : Int32} {x2 : Int32} (hgl : gl_266_36 I L x1 x2.toNatClampNeg) (hx : ∀ p3 : WI × WL, p3 = lp_266_36 I L x1 x2.toNatClampNeg → Wp l 266 (d + 178) 0 0 P 0 0 67 [(0, .ref 74), (2, .int x2)] [] SH (p3.1, F, p3.2, RT t)) : Wp l 266 (d + 178) 0 0 P 0 0 36 [(0, .ref 74), (1, .int x1), (2, .int x2), (3, .int 0)] [] SH (I, F, L, RT t) := by
  have hin := hgl
  have loop : ∀ m k, k + m = x2.toNatClampNeg → ∀ p3 : WI × WL, p3 = lp_266_36 I L x1 k → Wp l 266 (d + 178) 0 0 P 0 0 36 [(0, .ref 74), (1, .int x1), (2, .int x2), (3, .int (nI k))] [] SH (p3.1, F, p3.2, RT t) := by
    intro m
    induction m with
    | zero =>
      intro k hk p3 hs
      obtain rfl : k = x2.toNatClampNeg := by omega
      exact bk_266_36  (fun _ => hx _ hs) (fun h => absurd ((le_cl (Nat.le_refl _)).mpr rfl) h)
    | succ m ih =>
      intro k hk p3 hs
      have hk2 : k < x2.toNatClampNeg := by omega
      have ih := ih (k + 1) (by omega)
      rw [nI_succ] at ih
      have he := (st_266_36.eq_1 ..).symm.trans (st_ap hs (le_266_36 ..))
      have hg := bx_un hs (hin k hk2)
      refine bk_266_36  (fun h => absurd ((le_cl (E := x2) (i := k) (by omega)).mp h) (by omega)) (fun _ => ?_)
      obtain ⟨k7, hg⟩ := hg
      refine bk_266_41 (cq_V_I (cc_257 (d := d + 177)  k7)) ?_
      rintro _ _ _ _ ⟨p4, hr, rfl, rfl, rfl, rfl⟩
      have he := bx_eq hr he
      have hg := bx_un hr hg
      obtain ⟨k8, hg⟩ := hg
      refine bk_266_46 (cq_I_IL (cc_255 (d := d + 177) (by omega)  k8)) ?_
      rintro _ _ _ _ _ ⟨p5, hr, rfl, rfl, rfl, rfl, rfl⟩
      have he := bx_eq hr he
      have hg := bx_un hr hg
      have k9 := hg
      refine bk_266_60 k9 ?_
      exact ih ((up2 p5.2.1 114 ((40 * x1) + (nI k)).toNatClampNeg p5.1), p5.2.2) he
  exact loop _ 0 (Nat.zero_add _) _ rfl
/-- VectorShelfModel.film(II)I -/
noncomputable def v_266 (I : WI) (F : WF) (L : WL) (x1 : Int32) (x2 : Int32) : Int32 × WI × WF × WL := (if (v_262 x1) = 0 then ((-2), I, F, L) else (if ¬ (v_170 (Int32.toInt64 x2) (0 : Int64) (12 : Int64)) = 0 then (bx ((v_267 I F x1 (2 : Int32) x2) : Int32 × WI × WF) (fun p1 => (bx ((v_234 p1.2.1) : WI) (fun p2 => (bx ((lp_266_36 p2 L x1 x2.toNatClampNeg) : WI × WL) (fun p6 => (bx ((v_235 p6.1) : WI) (fun p7 => (x2, p7, p1.2.2, p6.2))))))))) else ((-2), I, F, L)))
noncomputable def g_266 (I : WI) (F : WF) (L : WL) (x1 : Int32) (x2 : Int32) : Prop := (¬ ((v_262 x1) = 0) → ((¬ (v_170 (Int32.toInt64 x2) (0 : Int64) (12 : Int64)) = 0) → ((g_267 I F x1 (2 : Int32) x2) ∧ (bx ((v_267 I F x1 (2 : Int32) x2) : Int32 × WI × WF) (fun p1 => ((g_234 p1.2.1) ∧ (bx ((v_234 p1.2.1) : WI) (fun p2 => ((gl_266_36 p2 L x1 x2.toNatClampNeg) ∧ (bx ((lp_266_36 p2 L x1 x2.toNatClampNeg) : WI × WL) (fun p6 => (g_235 p6.1))))))))))))
theorem cc_266 {l : LX} {d : Nat} {I : WI} {F : WF} {L : WL} {t : Nat} {x1 : Int32} {x2 : Int32} (hd : 178 ≤ d) (hg : g_266 I F L x1 x2) : Con l 266 d 0 0 [.ref 74, .int x1, .int x2] SH (I, F, L, RT t) (po_I_IFL t (v_266 I F L x1 x2)) := by
  obtain ⟨d, rfl⟩ : ∃ e, d = e + 178 := ⟨d - 178, by omega⟩
  refine cn_266 ?_
  obtain ⟨T1, hT1⟩ : ∃ r : Int32 × WI × WF × WL, r = (v_266 I F L x1 x2) := ⟨_, rfl⟩
  rw [← hT1]
  have he := (hT1.trans (v_266.eq_1 ..)).symm
  have hg := Eq.mp (g_266.eq_1 ..) hg
  refine bk_266_0 (cc_262 (d := d + 176) ) ?_
  refine bk_266_4 (fun h2 => ?_) (fun h2 => ?_)
  · have he := ite_p h2 he
    exact bk_266_19 (rl_I_IFL he)
  · have he := ite_n h2 he
    have hg := hg h2
    refine bk_266_7 (cc_170 (d := d + 177) ) ?_
    refine bk_266_16 (fun h4 => ?_) (fun h4 => ?_)
    · have he := ite_p h4 he
      have hg := hg h4
      obtain ⟨k5, hg⟩ := hg
      refine bk_266_22 (cq_I_IF (cc_267 (d := d + 175)  k5)) ?_
      rintro _ _ _ _ _ ⟨p1, hr, rfl, rfl, rfl, rfl, rfl⟩
      have he := bx_eq hr he
      have hg := bx_un hr hg
      obtain ⟨k6, hg⟩ := hg
      refine bk_266_29 (cq_V_I (cc_234 (d := d + 177)  k6)) ?_
      rintro _ _ _ _ ⟨p2, hr, rfl, rfl, rfl, rfl⟩
      have he := bx_eq hr he
      have hg := bx_un hr hg
      refine bk_266_34 ?_
      obtain ⟨hgX, hg⟩ := hg
      refine lw_266_36 (d := d)  hgX (fun p6 hr => ?_)
      have he := bx_eq hr he
      have hg := bx_un hr hg
      have k10 := hg
      refine bk_266_67 (cq_V_I (cc_235 (d := d + 177)  k10)) ?_
      rintro _ _ _ _ ⟨p7, hr, rfl, rfl, rfl, rfl⟩
      have he := bx_eq hr he
      exact bk_266_71 (rl_I_IFL he)
    · have he := ite_n h4 he
      exact bk_266_19 (rl_I_IFL he)
/-- the loop at 24 of VectorShelfModel.count -/
def lp_270_24 (I : WI) (a2 : Int32) : Nat → Int32
  | 0 => a2
  | k + 1 => bx (lp_270_24 I a2 k) (fun p2 => (bx ((if (v_180 I (nI k)) = 0 then 0 else 1) : Int32) (fun p3 => (p2 + p3))))
def gl_270_24 (I : WI) (a2 : Int32) (N : Nat) : Prop := (∀ k, k < N → bx (lp_270_24 I a2 k) (fun p2 => (g_180 I (nI k))))
theorem lw_270_24 {l : LX} {d : Nat} {P : RP} {I : WI} {F : WF} {L : WL} {t : Nat} {a2 : Int32} (hgl : gl_270_24 I a2 ((I 74 18).toNatClampNeg)) (hx : ∀ p2 : Int32, p2 = lp_270_24 I a2 ((I 74 18).toNatClampNeg) → Wp l 270 (d + 176) 0 0 P 0 0 54 [(2, .int p2)] [] SH (I, F, L, RT t)) : Wp l 270 (d + 176) 0 0 P 0 0 24 [(0, .ref 74), (2, .int a2), (3, .int 0)] [] SH (I, F, L, RT t) := by
  have hin := hgl
  have loop : ∀ m k, k + m = (I 74 18).toNatClampNeg → ∀ p2 : Int32, p2 = lp_270_24 I a2 k → Wp l 270 (d + 176) 0 0 P 0 0 24 [(0, .ref 74), (2, .int p2), (3, .int (nI k))] [] SH (I, F, L, RT t) := by
    intro m
    induction m with
    | zero =>
      intro k hk p2 hs
      obtain rfl : k = (I 74 18).toNatClampNeg := by omega
      exact bk_270_24  (fun _ => hx _ hs) (fun h => absurd ((le_cl (Nat.le_refl _)).mpr rfl) h)
    | succ m ih =>
      intro k hk p2 hs
      have hk2 : k < (I 74 18).toNatClampNeg := by omega
      have ih := ih (k + 1) (by omega)
      rw [nI_succ] at ih
      have he := bx_eq hs (lp_270_24.eq_2 ..).symm
      have hg := bx_un hs (hin k hk2)
      refine bk_270_24  (fun h => absurd ((le_cl (E := (I 74 18)) (i := k) (by omega)).mp h) (by omega)) (fun _ => ?_)
      have k11 := hg
      refine bk_270_32 (cc_180 (d := d + 175)  k11) ?_
      obtain ⟨X1, hX1⟩ : ∃ r : Int32, r = (if (v_180 I (nI k)) = 0 then 0 else 1) := ⟨_, rfl⟩
      have J1 : ∀ p3 : Int32, p3 = X1 → Wp l 270 (d + 176) 0 0 P 0 0 46 [(0, .ref 74), (3, .int (nI k))] [.int p3, .int p2] SH (I, F, L, RT t) := by
        intro p3 hr
        have hr := hr.trans hX1
        have he := bx_eq hr he
        refine bk_270_46 ?_
        exact ih (p2 + p3) he
      have he := hX1.symm
      refine bk_270_38 (fun h12 => ?_) (fun h12 => ?_)
      · have he := ite_p h12 he
        refine bk_270_45 ?_
        exact J1 0 he
      · have he := ite_n h12 he
        refine bk_270_41 ?_
        exact J1 1 he
  exact loop _ 0 (Nat.zero_add _) _ rfl
/-- VectorShelfModel.count(I)I -/
noncomputable def v_270 (I : WI) (L : WL) (x1 : Int32) : Int32 × WI × WL := (if ¬ (v_170 (Int32.toInt64 x1) (0 : Int64) (7 : Int64)) = 0 then (if ¬ x1 = 2 then (if ¬ x1 = 0 then (if ¬ x1 = 1 then (if ¬ x1 = 3 then (if ¬ x1 = 4 then (if ¬ x1 = 5 then (if ¬ x1 = 6 then ((I 78 3), I, L) else (bx ((v_228 I L) : Int32 × WI × WL) (fun p1 => (p1.1, p1.2.1, p1.2.2)))) else ((I 74 4), I, L)) else ((I 74 6), I, L)) else ((I 74 3), I, L)) else ((I 74 13), I, L)) else ((I 74 18), I, L)) else (bx ((lp_270_24 I (0 : Int32) ((I 74 18).toNatClampNeg)) : Int32) (fun p4 => (p4, I, L)))) else ((-2), I, L))
noncomputable def g_270 (I : WI) (L : WL) (x1 : Int32) : Prop := ((¬ (v_170 (Int32.toInt64 x1) (0 : Int64) (7 : Int64)) = 0) → (((¬ x1 = 2) → ((¬ x1 = 0) → ((¬ x1 = 1) → ((¬ x1 = 3) → ((¬ x1 = 4) → ((¬ x1 = 5) → (¬ (¬ x1 = 6) → (g_228 I L)))))))) ∧ (¬ (¬ x1 = 2) → (gl_270_24 I (0 : Int32) ((I 74 18).toNatClampNeg)))))
theorem cc_270 {l : LX} {d : Nat} {I : WI} {F : WF} {L : WL} {t : Nat} {x1 : Int32} (hd : 176 ≤ d) (hg : g_270 I L x1) : Con l 270 d 0 0 [.ref 74, .int x1] SH (I, F, L, RT t) (po_I_IL F t (v_270 I L x1)) := by
  obtain ⟨d, rfl⟩ : ∃ e, d = e + 176 := ⟨d - 176, by omega⟩
  refine cn_270 ?_
  obtain ⟨T1, hT1⟩ : ∃ r : Int32 × WI × WL, r = (v_270 I L x1) := ⟨_, rfl⟩
  rw [← hT1]
  have he := (hT1.trans (v_270.eq_1 ..)).symm
  have hg := Eq.mp (g_270.eq_1 ..) hg
  refine bk_270_0 (cc_170 (d := d + 175) ) ?_
  refine bk_270_9 (fun h2 => ?_) (fun h2 => ?_)
  · have he := ite_p h2 he
    have hg := hg h2
    refine bk_270_15 (fun h3 => ?_) (fun h3 => ?_)
    · have he := ite_p h3 he
      have hg := hg.1 h3
      refine bk_270_56 (fun h4 => ?_) (fun h4 => ?_)
      · have he := ite_p h4 he
        have hg := hg h4
        refine bk_270_67 (fun h5 => ?_) (fun h5 => ?_)
        · have he := ite_p h5 he
          have hg := hg h5
          refine bk_270_79 (fun h6 => ?_) (fun h6 => ?_)
          · have he := ite_p h6 he
            have hg := hg h6
            refine bk_270_91 (fun h7 => ?_) (fun h7 => ?_)
            · have he := ite_p h7 he
              have hg := hg h7
              refine bk_270_103 (fun h8 => ?_) (fun h8 => ?_)
              · have he := ite_p h8 he
                have hg := hg h8
                refine bk_270_115 (fun h9 => ?_) (fun h9 => ?_)
                · have he := ite_p h9 he
                  refine bk_270_128 ?_
                  exact bk_270_134 (rl_I_IL he)
                · have he := ite_n h9 he
                  have hg := hg h9
                  have k10 := hg
                  refine bk_270_121 (cq_I_IL (cc_228 (d := d + 175) (by omega)  k10)) ?_
                  rintro _ _ _ _ _ ⟨p1, hr, rfl, rfl, rfl, rfl, rfl⟩
                  have he := bx_eq hr he
                  refine bk_270_125 ?_
                  exact bk_270_134 (rl_I_IL he)
              · have he := ite_n h8 he
                refine bk_270_108 ?_
                exact bk_270_134 (rl_I_IL he)
            · have he := ite_n h7 he
              refine bk_270_96 ?_
              exact bk_270_134 (rl_I_IL he)
          · have he := ite_n h6 he
            refine bk_270_84 ?_
            exact bk_270_134 (rl_I_IL he)
        · have he := ite_n h5 he
          refine bk_270_72 ?_
          exact bk_270_134 (rl_I_IL he)
      · have he := ite_n h4 he
        refine bk_270_60 ?_
        exact bk_270_134 (rl_I_IL he)
    · have he := ite_n h3 he
      have hg := hg.2 h3
      refine bk_270_20 ?_
      have hgX := hg
      refine lw_270_24 (d := d)  hgX (fun p4 hr => ?_)
      have he := bx_eq hr he
      exact bk_270_54 (rl_I_IL he)
  · have he := ite_n h2 he
    exact bk_270_12 (rl_I_IL he)
end
