section
/-- the loop at 10 of VectorShelf$Reading.hold -/
def lp_40_10 (x1 : Int32) (x2 : Int32) : Nat → Int32 → WI → Int32 × WI
  | 0, x4, I => (x4, I)
  | k + 1, x4, I => (if x4 ≤ 0 then (x4, I) else (if (v_129 x2 x1 (I 41 (x4 - 1).toNatClampNeg) (I 40 (x4 - 1).toNatClampNeg)) = 0 then (x4, I) else (lp_40_10 x1 x2 k (x4 + (-1)) (up2 (up2 I 40 x4.toNatClampNeg (I 40 (x4 - 1).toNatClampNeg)) 41 x4.toNatClampNeg (I 41 (x4 - 1).toNatClampNeg)))))
def gl_40_10 (x1 : Int32) (x2 : Int32) : Nat → Int32 → WI → Prop
  | 0, _, _ => False
  | k + 1, x4, I => (¬ (x4 ≤ 0) → ((vp_in (x4 - 1) 6) ∧ (¬ ((v_129 x2 x1 (I 41 (x4 - 1).toNatClampNeg) (I 40 (x4 - 1).toNatClampNeg)) = 0) → ((vp_in (x4 - 1) 6) ∧ ((vp_in x4 6) ∧ (gl_40_10 x1 x2 k (x4 + (-1)) (up2 (up2 I 40 x4.toNatClampNeg (I 40 (x4 - 1).toNatClampNeg)) 41 x4.toNatClampNeg (I 41 (x4 - 1).toNatClampNeg))))))))
theorem lw_40_10 {l : LX} {d : Nat} {P : RP} {F : WF} {L : WL} {t : Nat} {x1 : Int32} {x2 : Int32} {x3 : Int32} : ∀ k : Nat, ∀ (x4 : Int32) (I : WI), gl_40_10 x1 x2 k x4 I → (∀ r : Int32 × WI, r = lp_40_10 x1 x2 k x4 I → Wp l 40 (d + 1) 0 0 P 0 0 79 [(0, .ref 38), (1, .int x1), (2, .int x2), (3, .int x3), (4, .int r.1)] [] SH (r.2, F, L, RT t)) → Wp l 40 (d + 1) 0 0 P 0 0 10 [(0, .ref 38), (1, .int x1), (2, .int x2), (3, .int x3), (4, .int x4)] [] SH (I, F, L, RT t) := by
  intro k
  induction k with
  | zero =>
    intro x4 I hg hx
    exact hg.elim
  | succ k ih =>
    intro x4 I hg hx
    have hg := Eq.mp (gl_40_10.eq_2 ..) hg
    obtain ⟨T1, hT1⟩ : ∃ r : Int32 × WI, r = lp_40_10 x1 x2 (k + 1) x4 I := ⟨_, rfl⟩
    have hx : ∀ r : Int32 × WI, r = T1 → Wp l 40 (d + 1) 0 0 P 0 0 79 [(0, .ref 38), (1, .int x1), (2, .int x2), (3, .int x3), (4, .int r.1)] [] SH (r.2, F, L, RT t) := fun r hr => hx r (hr.trans hT1)
    have he := (hT1.trans (lp_40_10.eq_2 ..)).symm
    refine bk_40_10 (fun h2 => ?_) (fun h2 => ?_)
    · have he := ite_p h2 he
      exact hx (x4, I) he
    · have he := ite_n h2 he
      have hg := hg h2
      obtain ⟨k3, hg⟩ := hg
      refine bk_40_15 k3 (cc_129 (d := d + 0) ) ?_
      refine bk_40_38 (fun h5 => ?_) (fun h5 => ?_)
      · have he := ite_p h5 he
        exact hx (x4, I) he
      · have he := ite_n h5 he
        have hg := hg h5
        obtain ⟨k6, k7, hg⟩ := hg
        refine bk_40_41 k6 k7 ?_
        exact ih (x4 + (-1)) (up2 (up2 I 40 x4.toNatClampNeg (I 40 (x4 - 1).toNatClampNeg)) 41 x4.toNatClampNeg (I 41 (x4 - 1).toNatClampNeg)) hg (fun r hr => hx r (hr.trans he))
/-- VectorShelf$Reading.hold(III)V -/
def v_40 (I : WI) (x1 : Int32) (x2 : Int32) (x3 : Int32) : WI := (bx ((lp_40_10 x1 x2 400 (v_282 (I 38 3) (5 : Int32)) I) : Int32 × WI) (fun p1 => (up2 (up2 (up2 p1.2 40 p1.1.toNatClampNeg x1) 41 p1.1.toNatClampNeg x2) 38 3 (v_282 ((p1.2 38 3) + 1) x3))))
def g_40 (I : WI) (x1 : Int32) (x2 : Int32) : Prop := ((gl_40_10 x1 x2 400 (v_282 (I 38 3) (5 : Int32)) I) ∧ (bx ((lp_40_10 x1 x2 400 (v_282 (I 38 3) (5 : Int32)) I) : Int32 × WI) (fun p1 => (vp_in p1.1 6))))
theorem cc_40 {l : LX} {d : Nat} {I : WI} {F : WF} {L : WL} {t : Nat} {x1 : Int32} {x2 : Int32} {x3 : Int32} (hg : g_40 I x1 x2) : Con l 40 (d + 1) 0 0 [.ref 38, .int x1, .int x2, .int x3] SH (I, F, L, RT t) (po_V_I F L t (v_40 I x1 x2 x3)) := by
  refine cn_40 ?_
  obtain ⟨T1, hT1⟩ : ∃ r : WI, r = (v_40 I x1 x2 x3) := ⟨_, rfl⟩
  rw [← hT1]
  have he := (hT1.trans (v_40.eq_1 ..)).symm
  have hg := Eq.mp (g_40.eq_1 ..) hg
  refine bk_40_0 (cc_282 (d := d + 0) ) ?_
  refine bk_40_8 ?_
  obtain ⟨hgX, hg⟩ := hg
  refine lw_40_10 (d := d)  400 (v_282 (I 38 3) (5 : Int32)) I hgX (fun p1 hr => ?_)
  have he := bx_eq hr he
  have hg := bx_un hr hg
  have k8 := hg
  refine bk_40_79 k8 (cc_282 (d := d + 0) ) ?_
  exact bk_40_106 (rl_V_I he)
/-- VectorShelf$Reading.heldAt(I)I -/
def v_42 (I : WI) (x1 : Int32) : Int32 := (if (v_107 x1 (0 : Int32) ((I 38 3) - 1)) = 0 then (-1) else (I 40 x1.toNatClampNeg))
def g_42 (I : WI) (x1 : Int32) : Prop := (¬ ((v_107 x1 (0 : Int32) ((I 38 3) - 1)) = 0) → (vp_in x1 6))
theorem cc_42 {l : LX} {d : Nat} {I : WI} {F : WF} {L : WL} {t : Nat} {x1 : Int32} (hg : g_42 I x1) : Con l 42 (d + 1) 0 0 [.ref 38, .int x1] SH (I, F, L, RT t) (rI (v_42 I x1) (I, F, L, RT t)) := by
  refine cn_42 ?_
  obtain ⟨T1, hT1⟩ : ∃ r : Int32, r = (v_42 I x1) := ⟨_, rfl⟩
  rw [← hT1]
  have he := (hT1.trans (v_42.eq_1 ..)).symm
  have hg := Eq.mp (g_42.eq_1 ..) hg
  refine bk_42_0 (cc_107 (d := d + 0) ) ?_
  refine bk_42_11 (fun h2 => ?_) (fun h2 => ?_)
  · have he := ite_p h2 he
    refine bk_42_23 ?_
    exact bk_42_24 (rl_p_I he)
  · have he := ite_n h2 he
    have hg := hg h2
    have k3 := hg
    refine bk_42_14 k3 ?_
    exact bk_42_24 (rl_p_I he)
/-- the loop at 30 of VectorShelf$Sheet.become -/
def lp_46_30 (I : WI) (F : WF) (b : Nat) : Nat → WI × WF
  | 0 => (I, F)
  | k + 1 => bx (lp_46_30 I F b k) (fun p2 => (bx ((v_47 p2.1 p2.2 b (nI k) (0 : Int32)) : WI × WF) (fun p3 => (p3.1, p3.2))))
def gl_46_30 (I : WI) (F : WF) (b : Nat) (N : Nat) : Prop := ((∀ k, k < N → bx (lp_46_30 I F b k) (fun p2 => (((p2.1 b 1) = (I b 1)) ∧ (g_47 p2.1 b (nI k) (0 : Int32))))) ∧ (bx (lp_46_30 I F b N) (fun p2 => (p2.1 b 1) = (I b 1))))
theorem lw_46_30 {l : LX} {d : Nat} {P : RP} {I : WI} {F : WF} {L : WL} {t : Nat} {b : Nat} (hb : isH b) (hgl : gl_46_30 I F b ((I b 1).toNatClampNeg)) (hx : ∀ p2 : WI × WF, p2 = lp_46_30 I F b ((I b 1).toNatClampNeg) → Wp l 46 (d + 1) 0 0 P 0 0 50 [] [] SH (p2.1, p2.2, L, RT t)) : Wp l 46 (d + 1) 0 0 P 0 0 30 [(0, .ref b), (3, .int 0)] [] SH (I, F, L, RT t) := by
  obtain ⟨hin, hend⟩ := hgl
  have loop : ∀ m k, k + m = (I b 1).toNatClampNeg → ∀ p2 : WI × WF, p2 = lp_46_30 I F b k → Wp l 46 (d + 1) 0 0 P 0 0 30 [(0, .ref b), (3, .int (nI k))] [] SH (p2.1, p2.2, L, RT t) := by
    intro m
    induction m with
    | zero =>
      intro k hk p2 hs
      obtain rfl : k = (I b 1).toNatClampNeg := by omega
      have hE := bx_un hs hend
      exact bk_46_30 hb (fun _ => hx _ hs) (fun h => absurd ((show (p2.1 b 1) ≤ (nI ((I b 1).toNatClampNeg)) from by rw [show (p2.1 b 1) = (I b 1) from hE]; exact (le_cl (Nat.le_refl _)).mpr rfl)) h)
    | succ m ih =>
      intro k hk p2 hs
      have hk2 : k < (I b 1).toNatClampNeg := by omega
      have ih := ih (k + 1) (by omega)
      rw [nI_succ] at ih
      have he := bx_eq hs (lp_46_30.eq_2 ..).symm
      have hg := bx_un hs (hin k hk2)
      have hE : (p2.1 b 1) = (I b 1) := hg.1
      have hg := hg.2
      refine bk_46_30 hb (fun h => absurd ((le_cl (E := (I b 1)) (i := k) (by omega)).mp (by rw [show (p2.1 b 1) = (I b 1) from hE] at h; exact h)) (by omega)) (fun _ => ?_)
      have k4 := hg
      refine bk_46_38 hb (cq_V_IF (cc_47 (d := d + 0) hb k4)) ?_
      rintro _ _ _ _ ⟨p3, hr, rfl, rfl, rfl, rfl⟩
      have he := bx_eq hr he
      refine bk_46_44 ?_
      exact ih (p3.1, p3.2) he
  exact loop _ 0 (Nat.zero_add _) _ rfl
/-- VectorShelf$Sheet.become(II)V -/
def v_46 (I : WI) (F : WF) (b : Nat) (x1 : Int32) (x2 : Int32) : WI × WF := (bx ((if ¬ x1 = (-1) then (v_283 (0 : Int32) (v_282 x2 (40 : Int32))) else 0) : Int32) (fun p1 => (bx ((lp_46_30 (up2 (up2 I b 0 x1) b 1 p1) F b (((up2 (up2 I b 0 x1) b 1 p1) b 1).toNatClampNeg)) : WI × WF) (fun p4 => (p4.1, p4.2)))))
def g_46 (I : WI) (F : WF) (b : Nat) (x1 : Int32) (x2 : Int32) : Prop := (bx ((if ¬ x1 = (-1) then (v_283 (0 : Int32) (v_282 x2 (40 : Int32))) else 0) : Int32) (fun p1 => (gl_46_30 (up2 (up2 I b 0 x1) b 1 p1) F b (((up2 (up2 I b 0 x1) b 1 p1) b 1).toNatClampNeg))))
theorem cc_46 {l : LX} {d : Nat} {I : WI} {F : WF} {L : WL} {t : Nat} {b : Nat} {x1 : Int32} {x2 : Int32} (hb : isH b) (hg : g_46 I F b x1 x2) : Con l 46 (d + 1) 0 0 [.ref b, .int x1, .int x2] SH (I, F, L, RT t) (po_V_IF L t (v_46 I F b x1 x2)) := by
  refine cn_46 ?_
  obtain ⟨T1, hT1⟩ : ∃ r : WI × WF, r = (v_46 I F b x1 x2) := ⟨_, rfl⟩
  rw [← hT1]
  have he := (hT1.trans (v_46.eq_1 ..)).symm
  have hg := Eq.mp (g_46.eq_1 ..) hg
  obtain ⟨X1, hX1⟩ : ∃ r : Int32, r = (if ¬ x1 = (-1) then (v_283 (0 : Int32) (v_282 x2 (40 : Int32))) else 0) := ⟨_, rfl⟩
  have J1 : ∀ p1 : Int32, p1 = X1 → Wp l 46 (d + 1) 0 0 (po_V_IF L t T1) 0 0 25 [(0, .ref b)] [.int p1, .ref b] SH ((up2 I b 0 x1), F, L, RT t) := by
    intro p1 hr
    have hr := hr.trans hX1
    have he := bx_eq hr he
    have hg := bx_un hr hg
    refine bk_46_25 hb ?_
    have hgX := hg
    refine lw_46_30 (d := d) hb hgX (fun p4 hr => ?_)
    have he := bx_eq hr he
    exact bk_46_50 (rl_V_IF he)
  have he := hX1.symm
  refine bk_46_0 hb (fun h1 => ?_) (fun h1 => ?_)
  · have he := ite_p h1 he
    refine bk_46_15 (cc_282 (d := d + 0) ) ?_
    refine bk_46_22 (cc_283 (d := d + 0) ) ?_
    exact J1 (v_283 (0 : Int32) (v_282 x2 (40 : Int32))) he
  · have he := ite_n h1 he
    refine bk_46_11 ?_
    exact J1 0 he
/-- VectorShelf$Shelf.addCell(III)I -/
def v_53 (I : WI) (b : Nat) (x1 : Int32) (x2 : Int32) (x3 : Int32) : Int32 × WI := (if (I b 4) < 4 then (bx ((v_54 (up2 (up2 (up2 I (b + 4) (3 * (I b 4)).toNatClampNeg x1) (b + 4) ((3 * (I b 4)) + 1).toNatClampNeg x2) (b + 4) ((3 * (I b 4)) + 2).toNatClampNeg x3) b (I b 4)) : WI) (fun p1 => ((I b 4), (up2 p1 b 4 ((p1 b 4) + 1))))) else ((-4), I))
def g_53 (I : WI) (b : Nat) (x1 : Int32) (x2 : Int32) (x3 : Int32) : Prop := (((I b 4) < 4) → ((vp_in (3 * (I b 4)) 12) ∧ ((vp_in ((3 * (I b 4)) + 1) 12) ∧ ((vp_in ((3 * (I b 4)) + 2) 12) ∧ (g_54 (up2 (up2 (up2 I (b + 4) (3 * (I b 4)).toNatClampNeg x1) (b + 4) ((3 * (I b 4)) + 1).toNatClampNeg x2) (b + 4) ((3 * (I b 4)) + 2).toNatClampNeg x3) b (I b 4))))))
theorem cc_53 {l : LX} {d : Nat} {I : WI} {F : WF} {L : WL} {t : Nat} {b : Nat} {x1 : Int32} {x2 : Int32} {x3 : Int32} (hb : isS b) (hg : g_53 I b x1 x2 x3) : Con l 53 (d + 1) 0 0 [.ref b, .int x1, .int x2, .int x3] SH (I, F, L, RT t) (po_I_I F L t (v_53 I b x1 x2 x3)) := by
  refine cn_53 ?_
  obtain ⟨T1, hT1⟩ : ∃ r : Int32 × WI, r = (v_53 I b x1 x2 x3) := ⟨_, rfl⟩
  rw [← hT1]
  have he := (hT1.trans (v_53.eq_1 ..)).symm
  have hg := Eq.mp (g_53.eq_1 ..) hg
  refine bk_53_0 hb (fun h1 => ?_) (fun h1 => ?_)
  · have he := ite_p h1 he
    have hg := hg h1
    obtain ⟨k2, k3, k4, k5⟩ := hg
    refine bk_53_11 hb k2 k3 k4 (cq_V_I (cc_54 (d := d + 0) hb k5)) ?_
    rintro _ _ _ _ ⟨p1, hr, rfl, rfl, rfl, rfl⟩
    have he := bx_eq hr he
    exact bk_53_57 hb (rl_I_I he)
  · have he := ite_n h1 he
    exact bk_53_8 (rl_I_I he)
/-- the loop at 7 of VectorShelf$Shelf.nearestCell -/
def lp_58_7 (I : WI) (b : Nat) (x1 : Int32) (a2 : Int32) (a3 : Int32) : Nat → Int32 × Int32
  | 0 => (a2, a3)
  | k + 1 => bx (lp_58_7 I b x1 a2 a3 k) (fun p1 => (bx ((if p1.1 = (-1) then ((nI k), (v_59 I b x1 (nI k))) else (if p1.2 ≤ (v_59 I b x1 (nI k)) then (p1.1, p1.2) else ((nI k), (v_59 I b x1 (nI k))))) : Int32 × Int32) (fun p2 => (p2.1, p2.2))))
def gl_58_7 (I : WI) (b : Nat) (x1 : Int32) (a2 : Int32) (a3 : Int32) (N : Nat) : Prop := (∀ k, k < N → bx (lp_58_7 I b x1 a2 a3 k) (fun p1 => (g_59 I b x1 (nI k))))
theorem lw_58_7 {l : LX} {d : Nat} {P : RP} {I : WI} {F : WF} {L : WL} {t : Nat} {b : Nat} {x1 : Int32} {a2 : Int32} {a3 : Int32} (hb : isS b) (hgl : gl_58_7 I b x1 a2 a3 ((I b 4).toNatClampNeg)) (hx : ∀ p1 : Int32 × Int32, p1 = lp_58_7 I b x1 a2 a3 ((I b 4).toNatClampNeg) → Wp l 58 (d + 1) 0 0 P 0 0 48 [(2, .int p1.1)] [] SH (I, F, L, RT t)) : Wp l 58 (d + 1) 0 0 P 0 0 7 [(0, .ref b), (1, .int x1), (2, .int a2), (3, .int a3), (4, .int 0)] [] SH (I, F, L, RT t) := by
  have hin := hgl
  have loop : ∀ m k, k + m = (I b 4).toNatClampNeg → ∀ p1 : Int32 × Int32, p1 = lp_58_7 I b x1 a2 a3 k → Wp l 58 (d + 1) 0 0 P 0 0 7 [(0, .ref b), (1, .int x1), (2, .int p1.1), (3, .int p1.2), (4, .int (nI k))] [] SH (I, F, L, RT t) := by
    intro m
    induction m with
    | zero =>
      intro k hk p1 hs
      obtain rfl : k = (I b 4).toNatClampNeg := by omega
      exact bk_58_7 hb (fun _ => hx _ hs) (fun h => absurd ((le_cl (Nat.le_refl _)).mpr rfl) h)
    | succ m ih =>
      intro k hk p1 hs
      have hk2 : k < (I b 4).toNatClampNeg := by omega
      have ih := ih (k + 1) (by omega)
      rw [nI_succ] at ih
      have he := bx_eq hs (lp_58_7.eq_2 ..).symm
      have hg := bx_un hs (hin k hk2)
      refine bk_58_7 hb (fun h => absurd ((le_cl (E := (I b 4)) (i := k) (by omega)).mp h) (by omega)) (fun _ => ?_)
      have k1 := hg
      refine bk_58_16 hb (cc_59 (d := d + 0) hb k1) ?_
      obtain ⟨X1, hX1⟩ : ∃ r : Int32 × Int32, r = (if p1.1 = (-1) then ((nI k), (v_59 I b x1 (nI k))) else (if p1.2 ≤ (v_59 I b x1 (nI k)) then (p1.1, p1.2) else ((nI k), (v_59 I b x1 (nI k))))) := ⟨_, rfl⟩
      have J1 : ∀ p2 : Int32 × Int32, p2 = X1 → Wp l 58 (d + 1) 0 0 P 0 0 42 [(0, .ref b), (1, .int x1), (2, .int p2.1), (3, .int p2.2), (4, .int (nI k))] [] SH (I, F, L, RT t) := by
        intro p2 hr
        have hr := hr.trans hX1
        have he := bx_eq hr he
        refine bk_58_42 ?_
        exact ih (p2.1, p2.2) he
      have he := hX1.symm
      refine bk_58_23 (fun h2 => ?_) (fun h2 => ?_)
      · have he := ite_p h2 he
        refine bk_58_36 ?_
        exact J1 ((nI k), (v_59 I b x1 (nI k))) he
      · have he := ite_n h2 he
        refine bk_58_30 (fun h3 => ?_) (fun h3 => ?_)
        · have he := ite_p h3 he
          exact J1 (p1.1, p1.2) he
        · have he := ite_n h3 he
          refine bk_58_36 ?_
          exact J1 ((nI k), (v_59 I b x1 (nI k))) he
  exact loop _ 0 (Nat.zero_add _) _ rfl
/-- VectorShelf$Shelf.nearestCell(I)I -/
def v_58 (I : WI) (b : Nat) (x1 : Int32) : Int32 := (bx ((lp_58_7 I b x1 ((-1) : Int32) (0 : Int32) ((I b 4).toNatClampNeg)) : Int32 × Int32) (fun p3 => p3.1))
def g_58 (I : WI) (b : Nat) (x1 : Int32) : Prop := (gl_58_7 I b x1 ((-1) : Int32) (0 : Int32) ((I b 4).toNatClampNeg))
theorem cc_58 {l : LX} {d : Nat} {I : WI} {F : WF} {L : WL} {t : Nat} {b : Nat} {x1 : Int32} (hb : isS b) (hg : g_58 I b x1) : Con l 58 (d + 1) 0 0 [.ref b, .int x1] SH (I, F, L, RT t) (rI (v_58 I b x1) (I, F, L, RT t)) := by
  refine cn_58 ?_
  obtain ⟨T1, hT1⟩ : ∃ r : Int32, r = (v_58 I b x1) := ⟨_, rfl⟩
  rw [← hT1]
  have he := (hT1.trans (v_58.eq_1 ..)).symm
  have hg := Eq.mp (g_58.eq_1 ..) hg
  refine bk_58_0 ?_
  have hgX := hg
  refine lw_58_7 (d := d) hb hgX (fun p3 hr => ?_)
  have he := bx_eq hr he
  exact bk_58_48 (rl_p_I he)
/-- the loop at 15 of VectorShelf$Shelf.comeInto -/
def lp_60_15 (I : WI) (b : Nat) (x1 : Int32) (x2 : Int32) : Nat → WI
  | 0 => I
  | k + 1 => bx (lp_60_15 I b x1 x2 k) (fun p1 => (bx ((v_283 ((up2 p1 (b + 5) ((3 * x2) + (nI k)).toNatClampNeg (v_282 (p1 (b + 5) ((3 * x2) + (nI k)).toNatClampNeg) (p1 (b + 7) ((3 * x1) + (nI k)).toNatClampNeg))) (b + 6) ((3 * x2) + (nI k)).toNatClampNeg) ((up2 p1 (b + 5) ((3 * x2) + (nI k)).toNatClampNeg (v_282 (p1 (b + 5) ((3 * x2) + (nI k)).toNatClampNeg) (p1 (b + 7) ((3 * x1) + (nI k)).toNatClampNeg))) (b + 7) ((3 * x1) + (nI k)).toNatClampNeg)) : Int32) (fun p2 => (up2 (up2 p1 (b + 5) ((3 * x2) + (nI k)).toNatClampNeg (v_282 (p1 (b + 5) ((3 * x2) + (nI k)).toNatClampNeg) (p1 (b + 7) ((3 * x1) + (nI k)).toNatClampNeg))) (b + 6) ((3 * x2) + (nI k)).toNatClampNeg p2))))
def gl_60_15 (I : WI) (b : Nat) (x1 : Int32) (x2 : Int32) (N : Nat) : Prop := (∀ k, k < N → bx (lp_60_15 I b x1 x2 k) (fun p1 => ((vp_in ((3 * x2) + (nI k)) 12) ∧ ((vp_in ((3 * x1) + (nI k)) 36) ∧ ((vp_in ((3 * x2) + (nI k)) 12) ∧ ((vp_in ((3 * x2) + (nI k)) 12) ∧ ((vp_in ((3 * x1) + (nI k)) 36) ∧ (bx ((v_283 ((up2 p1 (b + 5) ((3 * x2) + (nI k)).toNatClampNeg (v_282 (p1 (b + 5) ((3 * x2) + (nI k)).toNatClampNeg) (p1 (b + 7) ((3 * x1) + (nI k)).toNatClampNeg))) (b + 6) ((3 * x2) + (nI k)).toNatClampNeg) ((up2 p1 (b + 5) ((3 * x2) + (nI k)).toNatClampNeg (v_282 (p1 (b + 5) ((3 * x2) + (nI k)).toNatClampNeg) (p1 (b + 7) ((3 * x1) + (nI k)).toNatClampNeg))) (b + 7) ((3 * x1) + (nI k)).toNatClampNeg)) : Int32) (fun p2 => (vp_in ((3 * x2) + (nI k)) 12))))))))))
theorem lw_60_15 {l : LX} {d : Nat} {P : RP} {I : WI} {F : WF} {L : WL} {t : Nat} {b : Nat} {x1 : Int32} {x2 : Int32} (hb : isS b) (hgl : gl_60_15 I b x1 x2 ((3 : Int32).toNatClampNeg)) (hx : ∀ p1 : WI, p1 = lp_60_15 I b x1 x2 ((3 : Int32).toNatClampNeg) → Wp l 60 (d + 1) 0 0 P 0 0 87 [] [] SH (p1, F, L, RT t)) : Wp l 60 (d + 1) 0 0 P 0 0 15 [(0, .ref b), (1, .int x1), (2, .int x2), (3, .int 0)] [] SH (I, F, L, RT t) := by
  have hin := hgl
  have loop : ∀ m k, k + m = (3 : Int32).toNatClampNeg → ∀ p1 : WI, p1 = lp_60_15 I b x1 x2 k → Wp l 60 (d + 1) 0 0 P 0 0 15 [(0, .ref b), (1, .int x1), (2, .int x2), (3, .int (nI k))] [] SH (p1, F, L, RT t) := by
    intro m
    induction m with
    | zero =>
      intro k hk p1 hs
      obtain rfl : k = (3 : Int32).toNatClampNeg := by omega
      exact bk_60_15  (fun _ => hx _ hs) (fun h => absurd ((le_cl (Nat.le_refl _)).mpr rfl) h)
    | succ m ih =>
      intro k hk p1 hs
      have hk2 : k < (3 : Int32).toNatClampNeg := by omega
      have ih := ih (k + 1) (by omega)
      rw [nI_succ] at ih
      have he := bx_eq hs (lp_60_15.eq_2 ..).symm
      have hg := bx_un hs (hin k hk2)
      refine bk_60_15  (fun h => absurd ((le_cl (E := 3) (i := k) (by omega)).mp h) (by omega)) (fun _ => ?_)
      obtain ⟨k3, k4, hg⟩ := hg
      refine bk_60_20 hb k3 k4 (cc_282 (d := d + 0) ) ?_
      obtain ⟨k6, k7, k8, hg⟩ := hg
      obtain ⟨p2, hr⟩ : ∃ q : Int32, q = (v_283 ((up2 p1 (b + 5) ((3 * x2) + (nI k)).toNatClampNeg (v_282 (p1 (b + 5) ((3 * x2) + (nI k)).toNatClampNeg) (p1 (b + 7) ((3 * x1) + (nI k)).toNatClampNeg))) (b + 6) ((3 * x2) + (nI k)).toNatClampNeg) ((up2 p1 (b + 5) ((3 * x2) + (nI k)).toNatClampNeg (v_282 (p1 (b + 5) ((3 * x2) + (nI k)).toNatClampNeg) (p1 (b + 7) ((3 * x1) + (nI k)).toNatClampNeg))) (b + 7) ((3 * x1) + (nI k)).toNatClampNeg)) := ⟨_, rfl⟩
      have he := bx_eq hr he
      have hg := bx_un hr hg
      refine bk_60_53 hb k6 k7 k8 (show Con l 283 _ 0 0 _ SH _ (rI p2 _) from by rw [hr]; exact (cc_283 (d := d + 0) )) ?_
      have k10 := hg
      refine bk_60_80 hb k10 ?_
      exact ih (up2 (up2 p1 (b + 5) ((3 * x2) + (nI k)).toNatClampNeg (v_282 (p1 (b + 5) ((3 * x2) + (nI k)).toNatClampNeg) (p1 (b + 7) ((3 * x1) + (nI k)).toNatClampNeg))) (b + 6) ((3 * x2) + (nI k)).toNatClampNeg p2) he
  exact loop _ 0 (Nat.zero_add _) _ rfl
/-- VectorShelf$Shelf.comeInto(II)V -/
def v_60 (I : WI) (b : Nat) (x1 : Int32) (x2 : Int32) : WI := (if ¬ x2 = (-1) then (bx ((lp_60_15 (up2 I (b + 9) x1.toNatClampNeg x2) b x1 x2 ((3 : Int32).toNatClampNeg)) : WI) (fun p3 => p3)) else (up2 I (b + 9) x1.toNatClampNeg x2))
def g_60 (I : WI) (b : Nat) (x1 : Int32) (x2 : Int32) : Prop := ((vp_in x1 12) ∧ ((¬ x2 = (-1)) → (gl_60_15 (up2 I (b + 9) x1.toNatClampNeg x2) b x1 x2 ((3 : Int32).toNatClampNeg))))
theorem cc_60 {l : LX} {d : Nat} {I : WI} {F : WF} {L : WL} {t : Nat} {b : Nat} {x1 : Int32} {x2 : Int32} (hb : isS b) (hg : g_60 I b x1 x2) : Con l 60 (d + 1) 0 0 [.ref b, .int x1, .int x2] SH (I, F, L, RT t) (po_V_I F L t (v_60 I b x1 x2)) := by
  refine cn_60 ?_
  obtain ⟨T1, hT1⟩ : ∃ r : WI, r = (v_60 I b x1 x2) := ⟨_, rfl⟩
  rw [← hT1]
  have he := (hT1.trans (v_60.eq_1 ..)).symm
  have hg := Eq.mp (g_60.eq_1 ..) hg
  obtain ⟨k1, hg⟩ := hg
  refine bk_60_0 hb k1 (fun h2 => ?_) (fun h2 => ?_)
  · have he := ite_p h2 he
    have hg := hg h2
    refine bk_60_13 ?_
    have hgX := hg
    refine lw_60_15 (d := d) hb hgX (fun p3 hr => ?_)
    have he := bx_eq hr he
    exact bk_60_87 (rl_V_I he)
  · have he := ite_n h2 he
    exact bk_60_12 (rl_V_I he)
/-- VectorShelf$Shelf.isThere(I)Z -/
def v_61 (I : WI) (b : Nat) (x1 : Int32) : Int32 := (v_111 (I b 12) x1)
theorem cc_61 {l : LX} {d : Nat} {I : WI} {F : WF} {L : WL} {t : Nat} {b : Nat} {x1 : Int32} (hb : isS b) : Con l 61 (d + 1) 0 0 [.ref b, .int x1] SH (I, F, L, RT t) (rI (v_61 I b x1) (I, F, L, RT t)) := by
  refine cn_61 ?_
  obtain ⟨T1, hT1⟩ : ∃ r : Int32, r = (v_61 I b x1) := ⟨_, rfl⟩
  rw [← hT1]
  have he := (hT1.trans (v_61.eq_1 ..)).symm
  refine bk_61_0 hb (cc_111 (d := d + 0) ) ?_
  exact bk_61_8 (sb_111 ..) (rl_p_I he)
theorem sb_61 (I : WI) (b : Nat) (x1 : Int32) : (v_61 I b x1) &&& 1 = (v_61 I b x1) := by
  unfold v_61
  repeat' split
  all_goals first | rfl | exact sb_111 ..
/-- VectorShelf$Shelf.codeOf(II)I -/
def v_62 (I : WI) (b : Nat) (x1 : Int32) (x2 : Int32) : Int32 := (if (I (b + 9) x1.toNatClampNeg) = (-1) then 0 else (if ¬ (I b 1) = 0 then (bx ((v_282 (127 : Int32) (v_284 ((I (b + 7) ((3 * x1) + x2).toNatClampNeg) - (I (b + 4) ((3 * (I (b + 9) x1.toNatClampNeg)) + x2).toNatClampNeg)) (I b 1))) : Int32) (fun p1 => (v_283 ((-128) : Int32) p1))) else 0))
def g_62 (I : WI) (b : Nat) (x1 : Int32) (x2 : Int32) : Prop := ((vp_in x1 12) ∧ (¬ ((I (b + 9) x1.toNatClampNeg) = (-1)) → ((¬ (I b 1) = 0) → ((vp_in ((3 * x1) + x2) 36) ∧ ((vp_in ((3 * (I (b + 9) x1.toNatClampNeg)) + x2) 12) ∧ (g_284 (I b 1)))))))
theorem cc_62 {l : LX} {d : Nat} {I : WI} {F : WF} {L : WL} {t : Nat} {b : Nat} {x1 : Int32} {x2 : Int32} (hb : isS b) (hg : g_62 I b x1 x2) : Con l 62 (d + 1) 0 0 [.ref b, .int x1, .int x2] SH (I, F, L, RT t) (rI (v_62 I b x1 x2) (I, F, L, RT t)) := by
  refine cn_62 ?_
  obtain ⟨T1, hT1⟩ : ∃ r : Int32, r = (v_62 I b x1 x2) := ⟨_, rfl⟩
  rw [← hT1]
  have he := (hT1.trans (v_62.eq_1 ..)).symm
  have hg := Eq.mp (g_62.eq_1 ..) hg
  obtain ⟨k1, hg⟩ := hg
  refine bk_62_0 hb k1 (fun h2 => ?_) (fun h2 => ?_)
  · have he := ite_p h2 he
    exact bk_62_19 (rl_p_I he)
  · have he := ite_n h2 he
    have hg := hg h2
    refine bk_62_12 hb (fun h3 => ?_) (fun h3 => ?_)
    · have he := ite_p h3 he
      have hg := hg h3
      obtain ⟨k4, k5, k6⟩ := hg
      refine bk_62_21 hb k4 k5 (cc_284 (d := d + 0)  k6) ?_
      obtain ⟨p1, hr⟩ : ∃ q : Int32, q = (v_282 (127 : Int32) (v_284 ((I (b + 7) ((3 * x1) + x2).toNatClampNeg) - (I (b + 4) ((3 * (I (b + 9) x1.toNatClampNeg)) + x2).toNatClampNeg)) (I b 1))) := ⟨_, rfl⟩
      have he := bx_eq hr he
      refine bk_62_49 (show Con l 282 _ 0 0 _ SH _ (rI p1 _) from by rw [hr]; exact (cc_282 (d := d + 0) )) ?_
      refine bk_62_60 (cc_283 (d := d + 0) ) ?_
      exact bk_62_63 (rl_p_I he)
    · have he := ite_n h3 he
      exact bk_62_19 (rl_p_I he)
/-- VectorShelf$Shelf.outsideOfSpan(II)I -/
def v_64 (I : WI) (b : Nat) (x1 : Int32) (x2 : Int32) : Int32 := (if ¬ (I (b + 9) x1.toNatClampNeg) = (-1) then (bx ((if ¬ (v_62 I b x1 x2) = (-128) then ((I (b + 4) ((3 * (I (b + 9) x1.toNatClampNeg)) + x2).toNatClampNeg) + ((v_62 I b x1 x2) * (I b 1))) else (-999)) : Int32) (fun p1 => (bx ((if ¬ (v_62 I b x1 x2) = 127 then ((((I (b + 4) ((3 * (I (b + 9) x1.toNatClampNeg)) + x2).toNatClampNeg) + ((v_62 I b x1 x2) * (I b 1))) + (I b 1)) - 1) else 999) : Int32) (fun p2 => (v_65 (I (b + 3) x2.toNatClampNeg) p1 p2))))) else 0)
def g_64 (I : WI) (b : Nat) (x1 : Int32) (x2 : Int32) : Prop := ((vp_in x1 12) ∧ ((¬ (I (b + 9) x1.toNatClampNeg) = (-1)) → ((g_62 I b x1 x2) ∧ ((vp_in ((3 * (I (b + 9) x1.toNatClampNeg)) + x2) 12) ∧ (vp_in x2 3)))))
theorem cc_64 {l : LX} {d : Nat} {I : WI} {F : WF} {L : WL} {t : Nat} {b : Nat} {x1 : Int32} {x2 : Int32} (hb : isS b) (hg : g_64 I b x1 x2) : Con l 64 (d + 2) 0 0 [.ref b, .int x1, .int x2] SH (I, F, L, RT t) (rI (v_64 I b x1 x2) (I, F, L, RT t)) := by
  refine cn_64 ?_
  obtain ⟨T1, hT1⟩ : ∃ r : Int32, r = (v_64 I b x1 x2) := ⟨_, rfl⟩
  rw [← hT1]
  have he := (hT1.trans (v_64.eq_1 ..)).symm
  have hg := Eq.mp (g_64.eq_1 ..) hg
  obtain ⟨k1, hg⟩ := hg
  refine bk_64_0 hb k1 (fun h2 => ?_) (fun h2 => ?_)
  · have he := ite_p h2 he
    have hg := hg h2
    obtain ⟨k3, hg⟩ := hg
    refine bk_64_14 hb (cc_62 (d := d + 0) hb k3) ?_
    obtain ⟨k4, k5⟩ := hg
    obtain ⟨X1, hX1⟩ : ∃ r : Int32, r = (if ¬ (v_62 I b x1 x2) = (-128) then ((I (b + 4) ((3 * (I (b + 9) x1.toNatClampNeg)) + x2).toNatClampNeg) + ((v_62 I b x1 x2) * (I b 1))) else (-999)) := ⟨_, rfl⟩
    have J1 : ∀ p1 : Int32, p1 = X1 → Wp l 64 (d + 2) 0 0 (rI T1 (I, F, L, RT t)) 0 0 74 [(4, .int (v_62 I b x1 x2)), (6, .int ((((I (b + 4) ((3 * (I (b + 9) x1.toNatClampNeg)) + x2).toNatClampNeg) + ((v_62 I b x1 x2) * (I b 1))) + (I b 1)) - 1))] [.int p1, .int (I (b + 3) x2.toNatClampNeg)] SH (I, F, L, RT t) := by
      intro p1 hr
      have hr := hr.trans hX1
      have he := bx_eq hr he
      obtain ⟨X2, hX2⟩ : ∃ r : Int32, r = (if ¬ (v_62 I b x1 x2) = 127 then ((((I (b + 4) ((3 * (I (b + 9) x1.toNatClampNeg)) + x2).toNatClampNeg) + ((v_62 I b x1 x2) * (I b 1))) + (I b 1)) - 1) else 999) := ⟨_, rfl⟩
      have J2 : ∀ p2 : Int32, p2 = X2 → Wp l 64 (d + 2) 0 0 (rI T1 (I, F, L, RT t)) 0 0 89 [] [.int p2, .int p1, .int (I (b + 3) x2.toNatClampNeg)] SH (I, F, L, RT t) := by
        intro p2 hr
        have hr := hr.trans hX2
        have he := bx_eq hr he
        refine bk_64_89 (cc_65 (d := d + 1) ) ?_
        exact bk_64_92 (rl_p_I he)
      have he := hX2.symm
      refine bk_64_74 (fun h7 => ?_) (fun h7 => ?_)
      · have he := ite_p h7 he
        refine bk_64_87 ?_
        exact J2 ((((I (b + 4) ((3 * (I (b + 9) x1.toNatClampNeg)) + x2).toNatClampNeg) + ((v_62 I b x1 x2) * (I b 1))) + (I b 1)) - 1) he
      · have he := ite_n h7 he
        refine bk_64_81 ?_
        exact J2 999 he
    have he := hX1.symm
    refine bk_64_20 hb k4 k5 (fun h6 => ?_) (fun h6 => ?_)
    · have he := ite_p h6 he
      refine bk_64_72 ?_
      exact J1 ((I (b + 4) ((3 * (I (b + 9) x1.toNatClampNeg)) + x2).toNatClampNeg) + ((v_62 I b x1 x2) * (I b 1))) he
    · have he := ite_n h6 he
      refine bk_64_66 ?_
      exact J1 (-999) he
  · have he := ite_n h2 he
    exact bk_64_12 (rl_p_I he)
/-- VectorShelf$Shelf.lowOfCell(I)F -/
def v_68 (I : WI) (b : Nat) (x1 : Int32) : UInt32 := (bx ((v_25 I (b + 1) (v_65 (I (b + 3) 0) (I (b + 5) (3 * x1).toNatClampNeg) (I (b + 6) (3 * x1).toNatClampNeg)) (v_65 (I (b + 3) 1) (I (b + 5) ((3 * x1) + 1).toNatClampNeg) (I (b + 6) ((3 * x1) + 1).toNatClampNeg)) (v_65 (I (b + 3) 2) (I (b + 5) ((3 * x1) + 2).toNatClampNeg) (I (b + 6) ((3 * x1) + 2).toNatClampNeg))) : UInt32) (fun p1 => p1))
def g_68 (I : WI) (b : Nat) (x1 : Int32) : Prop := ((vp_in (3 * x1) 12) ∧ ((vp_in ((3 * x1) + 1) 12) ∧ ((vp_in ((3 * x1) + 2) 12) ∧ (g_25 I (b + 1) (v_65 (I (b + 3) 0) (I (b + 5) (3 * x1).toNatClampNeg) (I (b + 6) (3 * x1).toNatClampNeg)) (v_65 (I (b + 3) 1) (I (b + 5) ((3 * x1) + 1).toNatClampNeg) (I (b + 6) ((3 * x1) + 1).toNatClampNeg)) (v_65 (I (b + 3) 2) (I (b + 5) ((3 * x1) + 2).toNatClampNeg) (I (b + 6) ((3 * x1) + 2).toNatClampNeg))))))
theorem cc_68 {l : LX} {d : Nat} {I : WI} {F : WF} {L : WL} {t : Nat} {b : Nat} {x1 : Int32} (hb : isS b) (hg : g_68 I b x1) : Con l 68 (d + 2) 0 0 [.ref b, .int x1] SH (I, F, L, RT t) (rF (v_68 I b x1) (I, F, L, RT t)) := by
  refine cn_68 ?_
  obtain ⟨T1, hT1⟩ : ∃ r : UInt32, r = (v_68 I b x1) := ⟨_, rfl⟩
  rw [← hT1]
  have he := (hT1.trans (v_68.eq_1 ..)).symm
  have hg := Eq.mp (g_68.eq_1 ..) hg
  obtain ⟨k1, hg⟩ := hg
  refine bk_68_0 hb k1 (cc_65 (d := d + 1) ) ?_
  obtain ⟨k3, hg⟩ := hg
  refine bk_68_29 hb k3 (cc_65 (d := d + 1) ) ?_
  obtain ⟨k5, hg⟩ := hg
  refine bk_68_54 hb k5 (cc_65 (d := d + 1) ) ?_
  have k7 := hg
  obtain ⟨p1, hr⟩ : ∃ q : UInt32, q = (v_25 I (b + 1) (v_65 (I (b + 3) 0) (I (b + 5) (3 * x1).toNatClampNeg) (I (b + 6) (3 * x1).toNatClampNeg)) (v_65 (I (b + 3) 1) (I (b + 5) ((3 * x1) + 1).toNatClampNeg) (I (b + 6) ((3 * x1) + 1).toNatClampNeg)) (v_65 (I (b + 3) 2) (I (b + 5) ((3 * x1) + 2).toNatClampNeg) (I (b + 6) ((3 * x1) + 2).toNatClampNeg))) := ⟨_, rfl⟩
  have he := bx_eq hr he
  refine bk_68_79 hb (show Con l 25 _ 0 0 _ SH _ (rF p1 _) from by rw [hr]; exact (cc_25 (d := d + 0) (isM_S hb) k7)) ?_
  exact bk_68_82 (rl_p_F he)
/-- VectorShelf$Shelf.between(II)I -/
def v_71 (I : WI) (b : Nat) (x1 : Int32) (x2 : Int32) : Int32 := (bx ((v_29 I (b + 1) (v_285 ((I (b + 7) (3 * x1).toNatClampNeg) - (I (b + 7) (3 * x2).toNatClampNeg))) (v_285 ((I (b + 7) ((3 * x1) + 1).toNatClampNeg) - (I (b + 7) ((3 * x2) + 1).toNatClampNeg))) (v_285 ((I (b + 7) ((3 * x1) + 2).toNatClampNeg) - (I (b + 7) ((3 * x2) + 2).toNatClampNeg)))) : Int32) (fun p1 => p1))
def g_71 (I : WI) (b : Nat) (x1 : Int32) (x2 : Int32) : Prop := ((vp_in (3 * x1) 36) ∧ ((vp_in (3 * x2) 36) ∧ ((vp_in ((3 * x1) + 1) 36) ∧ ((vp_in ((3 * x2) + 1) 36) ∧ ((vp_in ((3 * x1) + 2) 36) ∧ ((vp_in ((3 * x2) + 2) 36) ∧ (g_29 I (b + 1) (v_285 ((I (b + 7) (3 * x1).toNatClampNeg) - (I (b + 7) (3 * x2).toNatClampNeg))) (v_285 ((I (b + 7) ((3 * x1) + 1).toNatClampNeg) - (I (b + 7) ((3 * x2) + 1).toNatClampNeg))) (v_285 ((I (b + 7) ((3 * x1) + 2).toNatClampNeg) - (I (b + 7) ((3 * x2) + 2).toNatClampNeg))))))))))
theorem cc_71 {l : LX} {d : Nat} {I : WI} {F : WF} {L : WL} {t : Nat} {b : Nat} {x1 : Int32} {x2 : Int32} (hb : isS b) (hg : g_71 I b x1 x2) : Con l 71 (d + 2) 0 0 [.ref b, .int x1, .int x2] SH (I, F, L, RT t) (rI (v_71 I b x1 x2) (I, F, L, RT t)) := by
  refine cn_71 ?_
  obtain ⟨T1, hT1⟩ : ∃ r : Int32, r = (v_71 I b x1 x2) := ⟨_, rfl⟩
  rw [← hT1]
  have he := (hT1.trans (v_71.eq_1 ..)).symm
  have hg := Eq.mp (g_71.eq_1 ..) hg
  obtain ⟨k1, k2, hg⟩ := hg
  refine bk_71_0 hb k1 k2 (cc_285 (d := d + 1) ) ?_
  obtain ⟨k4, k5, hg⟩ := hg
  refine bk_71_30 hb k4 k5 (cc_285 (d := d + 1) ) ?_
  obtain ⟨k7, k8, hg⟩ := hg
  refine bk_71_51 hb k7 k8 (cc_285 (d := d + 1) ) ?_
  have k10 := hg
  obtain ⟨p1, hr⟩ : ∃ q : Int32, q = (v_29 I (b + 1) (v_285 ((I (b + 7) (3 * x1).toNatClampNeg) - (I (b + 7) (3 * x2).toNatClampNeg))) (v_285 ((I (b + 7) ((3 * x1) + 1).toNatClampNeg) - (I (b + 7) ((3 * x2) + 1).toNatClampNeg))) (v_285 ((I (b + 7) ((3 * x1) + 2).toNatClampNeg) - (I (b + 7) ((3 * x2) + 2).toNatClampNeg)))) := ⟨_, rfl⟩
  have he := bx_eq hr he
  refine bk_71_72 hb (show Con l 29 _ 0 0 _ SH _ (rI p1 _) from by rw [hr]; exact (cc_29 (d := d + 0) (isM_S hb) k10)) ?_
  exact bk_71_75 (rl_p_I he)
/-- the loop at 4 of VectorShelf$Shelf.shed -/
def lp_73_4 (I : WI) (b : Nat) (x1 : Int32) (a2 : Int32) : Nat → Int32 × WI
  | 0 => (a2, I)
  | k + 1 => bx (lp_73_4 I b x1 a2 k) (fun p1 => (bx ((if ¬ (p1.2 (b + 9) (nI k).toNatClampNeg) = x1 then (p1.1, p1.2) else (if ¬ (v_61 p1.2 b (nI k)) = 0 then (p1.1, p1.2) else ((p1.1 + 1), (up2 p1.2 (b + 9) (nI k).toNatClampNeg (-1))))) : Int32 × WI) (fun p2 => (p2.1, p2.2))))
def gl_73_4 (I : WI) (b : Nat) (x1 : Int32) (a2 : Int32) (N : Nat) : Prop := ((∀ k, k < N → bx (lp_73_4 I b x1 a2 k) (fun p1 => (((p1.2 b 8) = (I b 8)) ∧ ((vp_in (nI k) 12) ∧ (¬ (¬ (p1.2 (b + 9) (nI k).toNatClampNeg) = x1) → (¬ (¬ (v_61 p1.2 b (nI k)) = 0) → (vp_in (nI k) 12))))))) ∧ (bx (lp_73_4 I b x1 a2 N) (fun p1 => (p1.2 b 8) = (I b 8))))
theorem lw_73_4 {l : LX} {d : Nat} {P : RP} {I : WI} {F : WF} {L : WL} {t : Nat} {b : Nat} {x1 : Int32} {a2 : Int32} (hb : isS b) (hgl : gl_73_4 I b x1 a2 ((I b 8).toNatClampNeg)) (hx : ∀ p1 : Int32 × WI, p1 = lp_73_4 I b x1 a2 ((I b 8).toNatClampNeg) → Wp l 73 (d + 2) 0 0 P 0 0 46 [(2, .int p1.1)] [] SH (p1.2, F, L, RT t)) : Wp l 73 (d + 2) 0 0 P 0 0 4 [(0, .ref b), (1, .int x1), (2, .int a2), (3, .int 0)] [] SH (I, F, L, RT t) := by
  obtain ⟨hin, hend⟩ := hgl
  have loop : ∀ m k, k + m = (I b 8).toNatClampNeg → ∀ p1 : Int32 × WI, p1 = lp_73_4 I b x1 a2 k → Wp l 73 (d + 2) 0 0 P 0 0 4 [(0, .ref b), (1, .int x1), (2, .int p1.1), (3, .int (nI k))] [] SH (p1.2, F, L, RT t) := by
    intro m
    induction m with
    | zero =>
      intro k hk p1 hs
      obtain rfl : k = (I b 8).toNatClampNeg := by omega
      have hE := bx_un hs hend
      exact bk_73_4 hb (fun _ => hx _ hs) (fun h => absurd ((show (p1.2 b 8) ≤ (nI ((I b 8).toNatClampNeg)) from by rw [show (p1.2 b 8) = (I b 8) from hE]; exact (le_cl (Nat.le_refl _)).mpr rfl)) h)
    | succ m ih =>
      intro k hk p1 hs
      have hk2 : k < (I b 8).toNatClampNeg := by omega
      have ih := ih (k + 1) (by omega)
      rw [nI_succ] at ih
      have he := bx_eq hs (lp_73_4.eq_2 ..).symm
      have hg := bx_un hs (hin k hk2)
      have hE : (p1.2 b 8) = (I b 8) := hg.1
      have hg := hg.2
      refine bk_73_4 hb (fun h => absurd ((le_cl (E := (I b 8)) (i := k) (by omega)).mp (by rw [show (p1.2 b 8) = (I b 8) from hE] at h; exact h)) (by omega)) (fun _ => ?_)
      obtain ⟨k1, hg⟩ := hg
      have hgX := hg
      obtain ⟨X1, hX1⟩ : ∃ r : Int32 × WI, r = (if ¬ (p1.2 (b + 9) (nI k).toNatClampNeg) = x1 then (p1.1, p1.2) else (if ¬ (v_61 p1.2 b (nI k)) = 0 then (p1.1, p1.2) else ((p1.1 + 1), (up2 p1.2 (b + 9) (nI k).toNatClampNeg (-1))))) := ⟨_, rfl⟩
      have J1 : ∀ p2 : Int32 × WI, p2 = X1 → Wp l 73 (d + 2) 0 0 P 0 0 40 [(0, .ref b), (1, .int x1), (2, .int p2.1), (3, .int (nI k))] [] SH (p2.2, F, L, RT t) := by
        intro p2 hr
        have hr := hr.trans hX1
        have he := bx_eq hr he
        refine bk_73_40 ?_
        exact ih (p2.1, p2.2) he
      have he := hX1.symm
      have hg := hgX
      refine bk_73_12 hb k1 (fun h2 => ?_) (fun h2 => ?_)
      · have he := ite_p h2 he
        exact J1 (p1.1, p1.2) he
      · have he := ite_n h2 he
        have hg := hg h2
        refine bk_73_22 hb (cc_61 (d := d + 0) hb) ?_
        refine bk_73_27 (fun h4 => ?_) (fun h4 => ?_)
        · have he := ite_p h4 he
          exact J1 (p1.1, p1.2) he
        · have he := ite_n h4 he
          have hg := hg h4
          have k5 := hg
          refine bk_73_30 hb k5 ?_
          exact J1 ((p1.1 + 1), (up2 p1.2 (b + 9) (nI k).toNatClampNeg (-1))) he
  exact loop _ 0 (Nat.zero_add _) _ rfl
/-- VectorShelf$Shelf.shed(I)I -/
def v_73 (I : WI) (b : Nat) (x1 : Int32) : Int32 × WI := (bx ((lp_73_4 I b x1 (0 : Int32) ((I b 8).toNatClampNeg)) : Int32 × WI) (fun p3 => (p3.1, p3.2)))
def g_73 (I : WI) (b : Nat) (x1 : Int32) : Prop := (gl_73_4 I b x1 (0 : Int32) ((I b 8).toNatClampNeg))
theorem cc_73 {l : LX} {d : Nat} {I : WI} {F : WF} {L : WL} {t : Nat} {b : Nat} {x1 : Int32} (hb : isS b) (hg : g_73 I b x1) : Con l 73 (d + 2) 0 0 [.ref b, .int x1] SH (I, F, L, RT t) (po_I_I F L t (v_73 I b x1)) := by
  refine cn_73 ?_
  obtain ⟨T1, hT1⟩ : ∃ r : Int32 × WI, r = (v_73 I b x1) := ⟨_, rfl⟩
  rw [← hT1]
  have he := (hT1.trans (v_73.eq_1 ..)).symm
  have hg := Eq.mp (g_73.eq_1 ..) hg
  refine bk_73_0 ?_
  have hgX := hg
  refine lw_73_4 (d := d) hb hgX (fun p3 hr => ?_)
  have he := bx_eq hr he
  exact bk_73_46 (rl_I_I he)
/-- the loop at 35 of VectorShelf$Shelf.centreOnHolders -/
def lp_75_35 (I : WI) (b : Nat) (x2 : Int32) (x5 : Int32) (a6 : Int32) : Nat → Int32
  | 0 => a6
  | k + 1 => bx (lp_75_35 I b x2 x5 a6 k) (fun p2 => (bx ((if (v_111 x2 (nI k)) = 0 then 0 else (I (b + 7) ((3 * (nI k)) + x5).toNatClampNeg)) : Int32) (fun p3 => (p2 + p3))))
def gl_75_35 (I : WI) (b : Nat) (x2 : Int32) (x5 : Int32) (a6 : Int32) (N : Nat) : Prop := (∀ k, k < N → bx (lp_75_35 I b x2 x5 a6 k) (fun p2 => (¬ ((v_111 x2 (nI k)) = 0) → (vp_in ((3 * (nI k)) + x5) 36))))
theorem lw_75_35 {l : LX} {d : Nat} {P : RP} {I : WI} {F : WF} {L : WL} {t : Nat} {b : Nat} {x1 : Int32} {x2 : Int32} {x3 : Int32} {x4 : Int32} {x5 : Int32} {a6 : Int32} (hb : isS b) (hgl : gl_75_35 I b x2 x5 a6 ((I b 8).toNatClampNeg)) (hx : ∀ p2 : Int32, p2 = lp_75_35 I b x2 x5 a6 ((I b 8).toNatClampNeg) → Wp l 75 (d + 1) 0 0 P 0 0 80 [(0, .ref b), (1, .int x1), (2, .int x2), (3, .int x3), (4, .int x4), (5, .int x5), (6, .int p2)] [] SH (I, F, L, RT t)) : Wp l 75 (d + 1) 0 0 P 0 0 35 [(0, .ref b), (1, .int x1), (2, .int x2), (3, .int x3), (4, .int x4), (5, .int x5), (6, .int a6), (7, .int 0)] [] SH (I, F, L, RT t) := by
  have hin := hgl
  have loop : ∀ m k, k + m = (I b 8).toNatClampNeg → ∀ p2 : Int32, p2 = lp_75_35 I b x2 x5 a6 k → Wp l 75 (d + 1) 0 0 P 0 0 35 [(0, .ref b), (1, .int x1), (2, .int x2), (3, .int x3), (4, .int x4), (5, .int x5), (6, .int p2), (7, .int (nI k))] [] SH (I, F, L, RT t) := by
    intro m
    induction m with
    | zero =>
      intro k hk p2 hs
      obtain rfl : k = (I b 8).toNatClampNeg := by omega
      exact bk_75_35 hb (fun _ => hx _ hs) (fun h => absurd ((le_cl (Nat.le_refl _)).mpr rfl) h)
    | succ m ih =>
      intro k hk p2 hs
      have hk2 : k < (I b 8).toNatClampNeg := by omega
      have ih := ih (k + 1) (by omega)
      rw [nI_succ] at ih
      have he := bx_eq hs (lp_75_35.eq_2 ..).symm
      have hg := bx_un hs (hin k hk2)
      refine bk_75_35 hb (fun h => absurd ((le_cl (E := (I b 8)) (i := k) (by omega)).mp h) (by omega)) (fun _ => ?_)
      refine bk_75_44 (cc_111 (d := d + 0) ) ?_
      have hgX := hg
      obtain ⟨X1, hX1⟩ : ∃ r : Int32, r = (if (v_111 x2 (nI k)) = 0 then 0 else (I (b + 7) ((3 * (nI k)) + x5).toNatClampNeg)) := ⟨_, rfl⟩
      have J1 : ∀ p3 : Int32, p3 = X1 → Wp l 75 (d + 1) 0 0 P 0 0 71 [(0, .ref b), (1, .int x1), (2, .int x2), (3, .int x3), (4, .int x4), (5, .int x5), (7, .int (nI k))] [.int p3, .int p2] SH (I, F, L, RT t) := by
        intro p3 hr
        have hr := hr.trans hX1
        have he := bx_eq hr he
        refine bk_75_71 ?_
        exact ih (p2 + p3) he
      have he := hX1.symm
      have hg := hgX
      refine bk_75_52 (fun h5 => ?_) (fun h5 => ?_)
      · have he := ite_p h5 he
        refine bk_75_70 ?_
        exact J1 0 he
      · have he := ite_n h5 he
        have hg := hg h5
        have k6 := hg
        refine bk_75_55 hb k6 ?_
        exact J1 (I (b + 7) ((3 * (nI k)) + x5).toNatClampNeg) he
  exact loop _ 0 (Nat.zero_add _) _ rfl
/-- the loop at 23 of VectorShelf$Shelf.centreOnHolders -/
def lp_75_23 (I : WI) (b : Nat) (x1 : Int32) (x2 : Int32) (x3 : Int32) (a4 : Int32) : Nat → Int32 × WI
  | 0 => (a4, I)
  | k + 1 => bx (lp_75_23 I b x1 x2 x3 a4 k) (fun p1 => (bx ((lp_75_35 p1.2 b x2 (nI k) (0 : Int32) ((p1.2 b 8).toNatClampNeg)) : Int32) (fun p4 => (bx ((if ¬ p1.1 = 0 then 1 else (if (v_284 p4 x3) = (p1.2 (b + 4) ((3 * x1) + (nI k)).toNatClampNeg) then 0 else 1)) : Int32) (fun p5 => (p5, (up2 p1.2 (b + 4) ((3 * x1) + (nI k)).toNatClampNeg (v_284 p4 x3))))))))
def gl_75_23 (I : WI) (b : Nat) (x1 : Int32) (x2 : Int32) (x3 : Int32) (a4 : Int32) (N : Nat) : Prop := (∀ k, k < N → bx (lp_75_23 I b x1 x2 x3 a4 k) (fun p1 => ((gl_75_35 p1.2 b x2 (nI k) (0 : Int32) ((p1.2 b 8).toNatClampNeg)) ∧ (bx ((lp_75_35 p1.2 b x2 (nI k) (0 : Int32) ((p1.2 b 8).toNatClampNeg)) : Int32) (fun p4 => ((g_284 x3) ∧ ((¬ (¬ p1.1 = 0) → (vp_in ((3 * x1) + (nI k)) 12)) ∧ (bx ((if ¬ p1.1 = 0 then 1 else (if (v_284 p4 x3) = (p1.2 (b + 4) ((3 * x1) + (nI k)).toNatClampNeg) then 0 else 1)) : Int32) (fun p5 => (vp_in ((3 * x1) + (nI k)) 12))))))))))
theorem lw_75_23 {l : LX} {d : Nat} {P : RP} {I : WI} {F : WF} {L : WL} {t : Nat} {b : Nat} {x1 : Int32} {x2 : Int32} {x3 : Int32} {a4 : Int32} (hb : isS b) (hgl : gl_75_23 I b x1 x2 x3 a4 ((3 : Int32).toNatClampNeg)) (hx : ∀ p1 : Int32 × WI, p1 = lp_75_23 I b x1 x2 x3 a4 ((3 : Int32).toNatClampNeg) → Wp l 75 (d + 1) 0 0 P 0 0 135 [(4, .int p1.1)] [] SH (p1.2, F, L, RT t)) : Wp l 75 (d + 1) 0 0 P 0 0 23 [(0, .ref b), (1, .int x1), (2, .int x2), (3, .int x3), (4, .int a4), (5, .int 0)] [] SH (I, F, L, RT t) := by
  have hin := hgl
  have loop : ∀ m k, k + m = (3 : Int32).toNatClampNeg → ∀ p1 : Int32 × WI, p1 = lp_75_23 I b x1 x2 x3 a4 k → Wp l 75 (d + 1) 0 0 P 0 0 23 [(0, .ref b), (1, .int x1), (2, .int x2), (3, .int x3), (4, .int p1.1), (5, .int (nI k))] [] SH (p1.2, F, L, RT t) := by
    intro m
    induction m with
    | zero =>
      intro k hk p1 hs
      obtain rfl : k = (3 : Int32).toNatClampNeg := by omega
      exact bk_75_23  (fun _ => hx _ hs) (fun h => absurd ((le_cl (Nat.le_refl _)).mpr rfl) h)
    | succ m ih =>
      intro k hk p1 hs
      have hk2 : k < (3 : Int32).toNatClampNeg := by omega
      have ih := ih (k + 1) (by omega)
      rw [nI_succ] at ih
      have he := bx_eq hs (lp_75_23.eq_2 ..).symm
      have hg := bx_un hs (hin k hk2)
      refine bk_75_23  (fun h => absurd ((le_cl (E := 3) (i := k) (by omega)).mp h) (by omega)) (fun _ => ?_)
      refine bk_75_29 ?_
      obtain ⟨hgX, hg⟩ := hg
      refine lw_75_35 (d := d) hb hgX (fun p4 hr => ?_)
      have he := bx_eq hr he
      have hg := bx_un hr hg
      obtain ⟨k7, hg⟩ := hg
      refine bk_75_80 (cc_284 (d := d + 0)  k7) ?_
      obtain ⟨hgX, hg⟩ := hg
      obtain ⟨X2, hX2⟩ : ∃ r : Int32, r = (if ¬ p1.1 = 0 then 1 else (if (v_284 p4 x3) = (p1.2 (b + 4) ((3 * x1) + (nI k)).toNatClampNeg) then 0 else 1)) := ⟨_, rfl⟩
      have J2 : ∀ p5 : Int32, p5 = X2 → Wp l 75 (d + 1) 0 0 P 0 0 114 [(0, .ref b), (1, .int x1), (2, .int x2), (3, .int x3), (5, .int (nI k)), (7, .int (v_284 p4 x3))] [.int p5] SH (p1.2, F, L, RT t) := by
        intro p5 hr
        have hr := hr.trans hX2
        have he := bx_eq hr he
        have hg := bx_un hr hg
        have k11 := hg
        refine bk_75_114 hb k11 ?_
        exact ih (p5, (up2 p1.2 (b + 4) ((3 * x1) + (nI k)).toNatClampNeg (v_284 p4 x3))) he
      have he := hX2.symm
      have hg := hgX
      refine bk_75_86 (fun h8 => ?_) (fun h8 => ?_)
      · have he := ite_p h8 he
        refine bk_75_109 ?_
        exact J2 1 he
      · have he := ite_n h8 he
        have hg := hg h8
        have k9 := hg
        refine bk_75_93 hb k9 (fun h10 => ?_) (fun h10 => ?_)
        · have he := ite_p h10 he
          refine bk_75_113 ?_
          exact J2 0 he
        · have he := ite_n h10 he
          refine bk_75_109 ?_
          exact J2 1 he
  exact loop _ 0 (Nat.zero_add _) _ rfl
/-- VectorShelf$Shelf.centreOnHolders(I)Z -/
def v_75 (I : WI) (b : Nat) (x1 : Int32) : Int32 × WI := (if ¬ (v_286 (v_66 I b x1)) = 0 then (bx ((lp_75_23 I b x1 (v_66 I b x1) (v_286 (v_66 I b x1)) (0 : Int32) ((3 : Int32).toNatClampNeg)) : Int32 × WI) (fun p6 => (p6.1, p6.2))) else (0, I))
def g_75 (I : WI) (b : Nat) (x1 : Int32) : Prop := ((g_66 I b x1) ∧ ((¬ (v_286 (v_66 I b x1)) = 0) → ((gl_75_23 I b x1 (v_66 I b x1) (v_286 (v_66 I b x1)) (0 : Int32) ((3 : Int32).toNatClampNeg)) ∧ (bx ((lp_75_23 I b x1 (v_66 I b x1) (v_286 (v_66 I b x1)) (0 : Int32) ((3 : Int32).toNatClampNeg)) : Int32 × WI) (fun p6 => (p6.1 &&& 1 = p6.1))))))
theorem cc_75 {l : LX} {d : Nat} {I : WI} {F : WF} {L : WL} {t : Nat} {b : Nat} {x1 : Int32} (hb : isS b) (hg : g_75 I b x1) : Con l 75 (d + 1) 0 0 [.ref b, .int x1] SH (I, F, L, RT t) (po_I_I F L t (v_75 I b x1)) := by
  refine cn_75 ?_
  obtain ⟨T1, hT1⟩ : ∃ r : Int32 × WI, r = (v_75 I b x1) := ⟨_, rfl⟩
  rw [← hT1]
  have he := (hT1.trans (v_75.eq_1 ..)).symm
  have hg := Eq.mp (g_75.eq_1 ..) hg
  obtain ⟨k1, hg⟩ := hg
  refine bk_75_0 hb (cc_66 (d := d + 0) hb k1) ?_
  refine bk_75_5 (cc_286 (d := d + 0) ) ?_
  refine bk_75_10 (fun h3 => ?_) (fun h3 => ?_)
  · have he := ite_p h3 he
    have hg := hg h3
    refine bk_75_17 ?_
    obtain ⟨hgX, hg⟩ := hg
    refine lw_75_23 (d := d) hb hgX (fun p6 hr => ?_)
    have he := bx_eq hr he
    have hg := bx_un hr hg
    have k12 := hg
    exact bk_75_135 k12 (rl_I_I he)
  · have he := ite_n h3 he
    exact bk_75_15 (rl_I_I he)
end
