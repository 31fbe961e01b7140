section
/-- the loop at 13 of VectorShelf$Shelf.tidyUp -/
def lp_72_13 (I : WI) (b : Nat) (x1 : Int32) : Nat → WI
  | 0 => I
  | k + 1 => bx (lp_72_13 I b x1 k) (fun p3 => (bx ((if ¬ (p3 (b + 9) (nI k).toNatClampNeg) = x1 then p3 else (bx ((v_60 p3 b (nI k) x1) : WI) (fun p4 => p4))) : WI) (fun p5 => p5)))
def gl_72_13 (I : WI) (b : Nat) (x1 : Int32) (N : Nat) : Prop := ((∀ k, k < N → bx (lp_72_13 I b x1 k) (fun p3 => (((p3 b 8) = (I b 8)) ∧ ((vp_in (nI k) 12) ∧ (¬ (¬ (p3 (b + 9) (nI k).toNatClampNeg) = x1) → (g_60 p3 b (nI k) x1)))))) ∧ (bx (lp_72_13 I b x1 N) (fun p3 => (p3 b 8) = (I b 8))))
theorem lw_72_13 {l : LX} {d : Nat} {P : RP} {I : WI} {F : WF} {L : WL} {t : Nat} {b : Nat} {x1 : Int32} {x2 : Int32} (hb : isS b) (hgl : gl_72_13 I b x1 ((I b 8).toNatClampNeg)) (hx : ∀ p3 : WI, p3 = lp_72_13 I b x1 ((I b 8).toNatClampNeg) → Wp l 72 (d + 3) 0 0 P 0 0 43 [(2, .int x2)] [] SH (p3, F, L, RT t)) : Wp l 72 (d + 3) 0 0 P 0 0 13 [(0, .ref b), (1, .int x1), (2, .int x2), (3, .int 0)] [] SH (I, F, L, RT t) := by
  obtain ⟨hin, hend⟩ := hgl
  have loop : ∀ m k, k + m = (I b 8).toNatClampNeg → ∀ p3 : WI, p3 = lp_72_13 I b x1 k → Wp l 72 (d + 3) 0 0 P 0 0 13 [(0, .ref b), (1, .int x1), (2, .int x2), (3, .int (nI k))] [] SH (p3, F, L, RT t) := by
    intro m
    induction m with
    | zero =>
      intro k hk p3 hs
      obtain rfl : k = (I b 8).toNatClampNeg := by omega
      have hE := bx_un hs hend
      exact bk_72_13 hb (fun _ => hx _ hs) (fun h => absurd ((show (p3 b 8) ≤ (nI ((I b 8).toNatClampNeg)) from by rw [show (p3 b 8) = (I b 8) from hE]; exact (le_cl (Nat.le_refl _)).mpr rfl)) h)
    | succ m ih =>
      intro k hk p3 hs
      have hk2 : k < (I b 8).toNatClampNeg := by omega
      have ih := ih (k + 1) (by omega)
      rw [nI_succ] at ih
      have he := bx_eq hs (lp_72_13.eq_2 ..).symm
      have hg := bx_un hs (hin k hk2)
      have hE : (p3 b 8) = (I b 8) := hg.1
      have hg := hg.2
      refine bk_72_13 hb (fun h => absurd ((le_cl (E := (I b 8)) (i := k) (by omega)).mp (by rw [show (p3 b 8) = (I b 8) from hE] at h; exact h)) (by omega)) (fun _ => ?_)
      obtain ⟨k3, hg⟩ := hg
      have hgX := hg
      obtain ⟨X1, hX1⟩ : ∃ r : WI, r = (if ¬ (p3 (b + 9) (nI k).toNatClampNeg) = x1 then p3 else (bx ((v_60 p3 b (nI k) x1) : WI) (fun p4 => p4))) := ⟨_, rfl⟩
      have J1 : ∀ p5 : WI, p5 = X1 → Wp l 72 (d + 3) 0 0 P 0 0 37 [(0, .ref b), (1, .int x1), (2, .int x2), (3, .int (nI k))] [] SH (p5, F, L, RT t) := by
        intro p5 hr
        have hr := hr.trans hX1
        have he := bx_eq hr he
        refine bk_72_37 ?_
        exact ih p5 he
      have he := hX1.symm
      have hg := hgX
      refine bk_72_21 hb k3 (fun h4 => ?_) (fun h4 => ?_)
      · have he := ite_p h4 he
        exact J1 p3 he
      · have he := ite_n h4 he
        have hg := hg h4
        have k5 := hg
        refine bk_72_31 hb (cq_V_I (cc_60 (d := d + 1) hb k5)) ?_
        rintro _ _ _ _ ⟨p4, hr, rfl, rfl, rfl, rfl⟩
        have he := bx_eq hr he
        exact J1 p4 he
  exact loop _ 0 (Nat.zero_add _) _ rfl
/-- VectorShelf$Shelf.tidyUp(I)I -/
def v_72 (I : WI) (b : Nat) (x1 : Int32) : Int32 × WI := (bx ((v_73 I b x1) : Int32 × WI) (fun p1 => (bx ((v_54 p1.2 b x1) : WI) (fun p2 => (bx ((lp_72_13 p2 b x1 ((p2 b 8).toNatClampNeg)) : WI) (fun p6 => (p1.1, p6)))))))
def g_72 (I : WI) (b : Nat) (x1 : Int32) : Prop := ((g_73 I b x1) ∧ (bx ((v_73 I b x1) : Int32 × WI) (fun p1 => ((g_54 p1.2 b x1) ∧ (bx ((v_54 p1.2 b x1) : WI) (fun p2 => (gl_72_13 p2 b x1 ((p2 b 8).toNatClampNeg))))))))
theorem cc_72 {l : LX} {d : Nat} {I : WI} {F : WF} {L : WL} {t : Nat} {b : Nat} {x1 : Int32} (hb : isS b) (hg : g_72 I b x1) : Con l 72 (d + 3) 0 0 [.ref b, .int x1] SH (I, F, L, RT t) (po_I_I F L t (v_72 I b x1)) := by
  refine cn_72 ?_
  obtain ⟨T1, hT1⟩ : ∃ r : Int32 × WI, r = (v_72 I b x1) := ⟨_, rfl⟩
  rw [← hT1]
  have he := (hT1.trans (v_72.eq_1 ..)).symm
  have hg := Eq.mp (g_72.eq_1 ..) hg
  obtain ⟨k1, hg⟩ := hg
  refine bk_72_0 hb (cq_I_I (cc_73 (d := d + 0) hb k1)) ?_
  rintro _ _ _ _ _ ⟨p1, hr, rfl, rfl, rfl, rfl, rfl⟩
  have he := bx_eq hr he
  have hg := bx_un hr hg
  obtain ⟨k2, hg⟩ := hg
  refine bk_72_5 hb (cq_V_I (cc_54 (d := d + 2) hb k2)) ?_
  rintro _ _ _ _ ⟨p2, hr, rfl, rfl, rfl, rfl⟩
  have he := bx_eq hr he
  have hg := bx_un hr hg
  refine bk_72_11 ?_
  have hgX := hg
  refine lw_72_13 (d := d) hb hgX (fun p6 hr => ?_)
  have he := bx_eq hr he
  exact bk_72_43 (rl_I_I he)
/-- the loop at 4 of VectorShelf$Shelf.centreAnew -/
def lp_74_4 (I : WI) (b : Nat) (a1 : Int32) : Nat → Int32 × WI
  | 0 => (a1, I)
  | k + 1 => bx (lp_74_4 I b a1 k) (fun p1 => (bx ((v_73 p1.2 b (nI k)) : Int32 × WI) (fun p2 => (bx ((v_75 p2.2 b (nI k)) : Int32 × WI) (fun p3 => (bx ((if p3.1 = 0 then p1.1 else (p1.1 + 1)) : Int32) (fun p4 => (bx ((v_54 p3.2 b (nI k)) : WI) (fun p5 => (p4, p5))))))))))
def gl_74_4 (I : WI) (b : Nat) (a1 : Int32) (N : Nat) : Prop := ((∀ k, k < N → bx (lp_74_4 I b a1 k) (fun p1 => (((p1.2 b 4) = (I b 4)) ∧ ((g_73 p1.2 b (nI k)) ∧ (bx ((v_73 p1.2 b (nI k)) : Int32 × WI) (fun p2 => ((g_75 p2.2 b (nI k)) ∧ (bx ((v_75 p2.2 b (nI k)) : Int32 × WI) (fun p3 => (bx ((if p3.1 = 0 then p1.1 else (p1.1 + 1)) : Int32) (fun p4 => (g_54 p3.2 b (nI k))))))))))))) ∧ (bx (lp_74_4 I b a1 N) (fun p1 => (p1.2 b 4) = (I b 4))))
theorem lw_74_4 {l : LX} {d : Nat} {P : RP} {I : WI} {F : WF} {L : WL} {t : Nat} {b : Nat} {a1 : Int32} (hb : isS b) (hgl : gl_74_4 I b a1 ((I b 4).toNatClampNeg)) (hx : ∀ p1 : Int32 × WI, p1 = lp_74_4 I b a1 ((I b 4).toNatClampNeg) → Wp l 74 (d + 3) 0 0 P 0 0 40 [(0, .ref b), (1, .int p1.1)] [] SH (p1.2, F, L, RT t)) : Wp l 74 (d + 3) 0 0 P 0 0 4 [(0, .ref b), (1, .int a1), (2, .int 0)] [] SH (I, F, L, RT t) := by
  obtain ⟨hin, hend⟩ := hgl
  have loop : ∀ m k, k + m = (I b 4).toNatClampNeg → ∀ p1 : Int32 × WI, p1 = lp_74_4 I b a1 k → Wp l 74 (d + 3) 0 0 P 0 0 4 [(0, .ref b), (1, .int p1.1), (2, .int (nI k))] [] SH (p1.2, F, L, RT t) := by
    intro m
    induction m with
    | zero =>
      intro k hk p1 hs
      obtain rfl : k = (I b 4).toNatClampNeg := by omega
      have hE := bx_un hs hend
      exact bk_74_4 hb (fun _ => hx _ hs) (fun h => absurd ((show (p1.2 b 4) ≤ (nI ((I b 4).toNatClampNeg)) from by rw [show (p1.2 b 4) = (I b 4) from hE]; exact (le_cl (Nat.le_refl _)).mpr rfl)) h)
    | succ m ih =>
      intro k hk p1 hs
      have hk2 : k < (I b 4).toNatClampNeg := by omega
      have ih := ih (k + 1) (by omega)
      rw [nI_succ] at ih
      have he := bx_eq hs (lp_74_4.eq_2 ..).symm
      have hg := bx_un hs (hin k hk2)
      have hE : (p1.2 b 4) = (I b 4) := hg.1
      have hg := hg.2
      refine bk_74_4 hb (fun h => absurd ((le_cl (E := (I b 4)) (i := k) (by omega)).mp (by rw [show (p1.2 b 4) = (I b 4) from hE] at h; exact h)) (by omega)) (fun _ => ?_)
      obtain ⟨k1, hg⟩ := hg
      refine bk_74_12 hb (cq_I_I (cc_73 (d := d + 0) hb k1)) ?_
      rintro _ _ _ _ _ ⟨p2, hr, rfl, rfl, rfl, rfl, rfl⟩
      have he := bx_eq hr he
      have hg := bx_un hr hg
      obtain ⟨k2, hg⟩ := hg
      refine bk_74_17 hb (cq_I_I (cc_75 (d := d + 1) hb k2)) ?_
      rintro _ _ _ _ _ ⟨p3, hr, rfl, rfl, rfl, rfl, rfl⟩
      have he := bx_eq hr he
      have hg := bx_un hr hg
      obtain ⟨X1, hX1⟩ : ∃ r : Int32, r = (if p3.1 = 0 then p1.1 else (p1.1 + 1)) := ⟨_, rfl⟩
      have J1 : ∀ p4 : Int32, p4 = X1 → Wp l 74 (d + 3) 0 0 P 0 0 29 [(0, .ref b), (1, .int p4), (2, .int (nI k))] [] SH (p3.2, F, L, RT t) := by
        intro p4 hr
        have hr := hr.trans hX1
        have he := bx_eq hr he
        have hg := bx_un hr hg
        have k4 := hg
        refine bk_74_29 hb (cq_V_I (cc_54 (d := d + 2) hb k4)) ?_
        rintro _ _ _ _ ⟨p5, hr, rfl, rfl, rfl, rfl⟩
        have he := bx_eq hr he
        refine bk_74_34 ?_
        exact ih (p4, p5) he
      have he := hX1.symm
      refine bk_74_23 (fun h3 => ?_) (fun h3 => ?_)
      · have he := ite_p h3 he
        exact J1 p1.1 he
      · have he := ite_n h3 he
        refine bk_74_26 ?_
        exact J1 (p1.1 + 1) he
  exact loop _ 0 (Nat.zero_add _) _ rfl
/-- the loop at 42 of VectorShelf$Shelf.centreAnew -/
def lp_74_42 (I : WI) (b : Nat) : Nat → WI
  | 0 => I
  | k + 1 => bx (lp_74_42 I b k) (fun p7 => (bx ((if (v_61 p7 b (nI k)) = 0 then p7 else (bx ((v_60 p7 b (nI k) (v_58 p7 b (nI k))) : WI) (fun p8 => p8))) : WI) (fun p9 => p9)))
def gl_74_42 (I : WI) (b : Nat) (N : Nat) : Prop := ((∀ k, k < N → bx (lp_74_42 I b k) (fun p7 => (((p7 b 8) = (I b 8)) ∧ (¬ ((v_61 p7 b (nI k)) = 0) → ((g_58 p7 b (nI k)) ∧ (g_60 p7 b (nI k) (v_58 p7 b (nI k)))))))) ∧ (bx (lp_74_42 I b N) (fun p7 => (p7 b 8) = (I b 8))))
theorem lw_74_42 {l : LX} {d : Nat} {P : RP} {I : WI} {F : WF} {L : WL} {t : Nat} {b : Nat} {x1 : Int32} (hb : isS b) (hgl : gl_74_42 I b ((I b 8).toNatClampNeg)) (hx : ∀ p7 : WI, p7 = lp_74_42 I b ((I b 8).toNatClampNeg) → Wp l 74 (d + 3) 0 0 P 0 0 74 [(1, .int x1)] [] SH (p7, F, L, RT t)) : Wp l 74 (d + 3) 0 0 P 0 0 42 [(0, .ref b), (1, .int x1), (2, .int 0)] [] SH (I, F, L, RT t) := by
  obtain ⟨hin, hend⟩ := hgl
  have loop : ∀ m k, k + m = (I b 8).toNatClampNeg → ∀ p7 : WI, p7 = lp_74_42 I b k → Wp l 74 (d + 3) 0 0 P 0 0 42 [(0, .ref b), (1, .int x1), (2, .int (nI k))] [] SH (p7, F, L, RT t) := by
    intro m
    induction m with
    | zero =>
      intro k hk p7 hs
      obtain rfl : k = (I b 8).toNatClampNeg := by omega
      have hE := bx_un hs hend
      exact bk_74_42 hb (fun _ => hx _ hs) (fun h => absurd ((show (p7 b 8) ≤ (nI ((I b 8).toNatClampNeg)) from by rw [show (p7 b 8) = (I b 8) from hE]; exact (le_cl (Nat.le_refl _)).mpr rfl)) h)
    | succ m ih =>
      intro k hk p7 hs
      have hk2 : k < (I b 8).toNatClampNeg := by omega
      have ih := ih (k + 1) (by omega)
      rw [nI_succ] at ih
      have he := bx_eq hs (lp_74_42.eq_2 ..).symm
      have hg := bx_un hs (hin k hk2)
      have hE : (p7 b 8) = (I b 8) := hg.1
      have hg := hg.2
      refine bk_74_42 hb (fun h => absurd ((le_cl (E := (I b 8)) (i := k) (by omega)).mp (by rw [show (p7 b 8) = (I b 8) from hE] at h; exact h)) (by omega)) (fun _ => ?_)
      refine bk_74_50 hb (cc_61 (d := d + 1) hb) ?_
      have hgX := hg
      obtain ⟨X2, hX2⟩ : ∃ r : WI, r = (if (v_61 p7 b (nI k)) = 0 then p7 else (bx ((v_60 p7 b (nI k) (v_58 p7 b (nI k))) : WI) (fun p8 => p8))) := ⟨_, rfl⟩
      have J2 : ∀ p9 : WI, p9 = X2 → Wp l 74 (d + 3) 0 0 P 0 0 68 [(0, .ref b), (1, .int x1), (2, .int (nI k))] [] SH (p9, F, L, RT t) := by
        intro p9 hr
        have hr := hr.trans hX2
        have he := bx_eq hr he
        refine bk_74_68 ?_
        exact ih p9 he
      have he := hX2.symm
      have hg := hgX
      refine bk_74_55 (fun h6 => ?_) (fun h6 => ?_)
      · have he := ite_p h6 he
        exact J2 p7 he
      · have he := ite_n h6 he
        have hg := hg h6
        obtain ⟨k7, hg⟩ := hg
        refine bk_74_58 hb (cc_58 (d := d + 1) hb k7) ?_
        have k8 := hg
        refine bk_74_65 hb (cq_V_I (cc_60 (d := d + 1) hb k8)) ?_
        rintro _ _ _ _ ⟨p8, hr, rfl, rfl, rfl, rfl⟩
        have he := bx_eq hr he
        exact J2 p8 he
  exact loop _ 0 (Nat.zero_add _) _ rfl
/-- VectorShelf$Shelf.centreAnew()I -/
def v_74 (I : WI) (b : Nat) : Int32 × WI := (bx ((lp_74_4 I b (0 : Int32) ((I b 4).toNatClampNeg)) : Int32 × WI) (fun p6 => (bx ((lp_74_42 p6.2 b ((p6.2 b 8).toNatClampNeg)) : WI) (fun p10 => (p6.1, p10)))))
def g_74 (I : WI) (b : Nat) : Prop := ((gl_74_4 I b (0 : Int32) ((I b 4).toNatClampNeg)) ∧ (bx ((lp_74_4 I b (0 : Int32) ((I b 4).toNatClampNeg)) : Int32 × WI) (fun p6 => (gl_74_42 p6.2 b ((p6.2 b 8).toNatClampNeg)))))
theorem cc_74 {l : LX} {d : Nat} {I : WI} {F : WF} {L : WL} {t : Nat} {b : Nat} (hb : isS b) (hg : g_74 I b) : Con l 74 (d + 3) 0 0 [.ref b] SH (I, F, L, RT t) (po_I_I F L t (v_74 I b)) := by
  refine cn_74 ?_
  obtain ⟨T1, hT1⟩ : ∃ r : Int32 × WI, r = (v_74 I b) := ⟨_, rfl⟩
  rw [← hT1]
  have he := (hT1.trans (v_74.eq_1 ..)).symm
  have hg := Eq.mp (g_74.eq_1 ..) hg
  refine bk_74_0 ?_
  obtain ⟨hgX, hg⟩ := hg
  refine lw_74_4 (d := d) hb hgX (fun p6 hr => ?_)
  have he := bx_eq hr he
  have hg := bx_un hr hg
  refine bk_74_40 ?_
  have hgX := hg
  refine lw_74_42 (d := d) hb hgX (fun p10 hr => ?_)
  have he := bx_eq hr he
  exact bk_74_74 (rl_I_I he)
/-- the loop at 0 of VectorShelf$TextReader.advance -/
def lp_85_0 : Nat → WI → WI
  | 0, I => I
  | k + 1, I => (if (I 31 1) ≤ (I 31 3) then I else (if (v_87 (v_86 I (I 31 3))) = 0 then I else (lp_85_0 k (up2 I 31 3 ((I 31 3) + 1)))))
def gl_85_0 : Nat → WI → Prop
  | 0, _ => False
  | k + 1, I => (¬ ((I 31 1) ≤ (I 31 3)) → ((g_86 I (I 31 3)) ∧ (¬ ((v_87 (v_86 I (I 31 3))) = 0) → (gl_85_0 k (up2 I 31 3 ((I 31 3) + 1))))))
theorem lw_85_0 {l : LX} {d : Nat} {P : RP} {F : WF} {L : WL} {t : Nat} : ∀ k : Nat, ∀ (I : WI), gl_85_0 k I → (∀ r : WI, r = lp_85_0 k I → Wp l 85 (d + 11) 0 0 P 0 0 38 [(0, .ref 31)] [] SH (r, F, L, RT t)) → Wp l 85 (d + 11) 0 0 P 0 0 0 [(0, .ref 31)] [] SH (I, F, L, RT t) := by
  intro k
  induction k with
  | zero =>
    intro I hg hx
    exact hg.elim
  | succ k ih =>
    intro I hg hx
    have hg := Eq.mp (gl_85_0.eq_2 ..) hg
    obtain ⟨T1, hT1⟩ : ∃ r : WI, r = lp_85_0 (k + 1) I := ⟨_, rfl⟩
    have hx : ∀ r : WI, r = T1 → Wp l 85 (d + 11) 0 0 P 0 0 38 [(0, .ref 31)] [] SH (r, F, L, RT t) := fun r hr => hx r (hr.trans hT1)
    have he := (hT1.trans (lp_85_0.eq_2 ..)).symm
    refine bk_85_0 (fun h1 => ?_) (fun h1 => ?_)
    · have he := ite_p h1 he
      exact hx I he
    · have he := ite_n h1 he
      have hg := hg h1
      obtain ⟨k2, hg⟩ := hg
      refine bk_85_11 (cc_86 (d := d + 10)  k2) ?_
      refine bk_85_19 (cc_87 (d := d + 10) ) ?_
      refine bk_85_22 (fun h4 => ?_) (fun h4 => ?_)
      · have he := ite_p h4 he
        exact hx I he
      · have he := ite_n h4 he
        have hg := hg h4
        refine bk_85_25 ?_
        exact ih (up2 I 31 3 ((I 31 3) + 1)) hg (fun r hr => hx r (hr.trans he))
/-- VectorShelf$TextReader.advance()V -/
def v_85 (I : WI) : WI := (bx ((lp_85_0 400 I) : WI) (fun p1 => (if ¬ (v_86 (up2 p1 31 2 (p1 31 3)) (p1 31 3)) = (-1) then (if (v_88 (v_86 (up2 p1 31 2 (p1 31 3)) (p1 31 3))) = 0 then (if (v_93 (v_86 (up2 p1 31 2 (p1 31 3)) (p1 31 3))) = 0 then (up2 (up2 (up2 p1 31 2 (p1 31 3)) 31 3 (((up2 p1 31 2 (p1 31 3)) 31 3) + 1)) 31 4 (v_86 (up2 p1 31 2 (p1 31 3)) (p1 31 3))) else (bx ((v_94 (up2 p1 31 2 (p1 31 3))) : WI) (fun p2 => p2))) else (bx ((v_89 (up2 p1 31 2 (p1 31 3))) : WI) (fun p3 => p3))) else (up2 (up2 p1 31 2 (p1 31 3)) 31 4 256))))
def g_85 (I : WI) : Prop := ((gl_85_0 400 I) ∧ (bx ((lp_85_0 400 I) : WI) (fun p1 => ((g_86 (up2 p1 31 2 (p1 31 3)) (p1 31 3)) ∧ ((¬ (v_86 (up2 p1 31 2 (p1 31 3)) (p1 31 3)) = (-1)) → ((((v_88 (v_86 (up2 p1 31 2 (p1 31 3)) (p1 31 3))) = 0) → (¬ ((v_93 (v_86 (up2 p1 31 2 (p1 31 3)) (p1 31 3))) = 0) → (g_94 (up2 p1 31 2 (p1 31 3))))) ∧ (¬ ((v_88 (v_86 (up2 p1 31 2 (p1 31 3)) (p1 31 3))) = 0) → (g_89 (up2 p1 31 2 (p1 31 3))))))))))
theorem cc_85 {l : LX} {d : Nat} {I : WI} {F : WF} {L : WL} {t : Nat} (hg : g_85 I) : Con l 85 (d + 11) 0 0 [.ref 31] SH (I, F, L, RT t) (po_V_I F L t (v_85 I)) := by
  refine cn_85 ?_
  obtain ⟨T1, hT1⟩ : ∃ r : WI, r = (v_85 I) := ⟨_, rfl⟩
  rw [← hT1]
  have he := (hT1.trans (v_85.eq_1 ..)).symm
  have hg := Eq.mp (g_85.eq_1 ..) hg
  obtain ⟨hgX, hg⟩ := hg
  refine lw_85_0 (d := d)  400 I hgX (fun p1 hr => ?_)
  have he := bx_eq hr he
  have hg := bx_un hr hg
  obtain ⟨k5, hg⟩ := hg
  refine bk_85_38 (cc_86 (d := d + 10)  k5) ?_
  refine bk_85_54 (fun h6 => ?_) (fun h6 => ?_)
  · have he := ite_p h6 he
    have hg := hg h6
    refine bk_85_70 (cc_88 (d := d + 10) ) ?_
    refine bk_85_74 (fun h8 => ?_) (fun h8 => ?_)
    · have he := ite_p h8 he
      have hg := hg.1 h8
      refine bk_85_84 (cc_93 (d := d + 10) ) ?_
      refine bk_85_88 (fun h10 => ?_) (fun h10 => ?_)
      · have he := ite_p h10 he
        refine bk_85_98 ?_
        exact bk_85_113 (rl_V_I he)
      · have he := ite_n h10 he
        have hg := hg h10
        have k11 := hg
        refine bk_85_91 (cq_V_I (cc_94 (d := d + 9)  k11)) ?_
        rintro _ _ _ _ ⟨p2, hr, rfl, rfl, rfl, rfl⟩
        have he := bx_eq hr he
        refine bk_85_95 ?_
        exact bk_85_113 (rl_V_I he)
    · have he := ite_n h8 he
      have hg := hg.2 h8
      have k12 := hg
      refine bk_85_77 (cq_V_I (cc_89 (d := d + 0)  k12)) ?_
      rintro _ _ _ _ ⟨p3, hr, rfl, rfl, rfl, rfl⟩
      have he := bx_eq hr he
      refine bk_85_81 ?_
      exact bk_85_113 (rl_V_I he)
  · have he := ite_n h6 he
    refine bk_85_60 ?_
    exact bk_85_113 (rl_V_I he)
/-- VectorShelf$TextReader.expect(I)V -/
def v_95 (I : WI) (x1 : Int32) : WI := (if ¬ (I 31 4) = x1 then (bx ((v_96 I) : WI) (fun p1 => p1)) else (bx ((v_85 I) : WI) (fun p2 => p2)))
def g_95 (I : WI) (x1 : Int32) : Prop := (¬ (¬ (I 31 4) = x1) → (g_85 I))
theorem cc_95 {l : LX} {d : Nat} {I : WI} {F : WF} {L : WL} {t : Nat} {x1 : Int32} (hg : g_95 I x1) : Con l 95 (d + 12) 0 0 [.ref 31, .int x1] SH (I, F, L, RT t) (po_V_I F L t (v_95 I x1)) := by
  refine cn_95 ?_
  obtain ⟨T1, hT1⟩ : ∃ r : WI, r = (v_95 I x1) := ⟨_, rfl⟩
  rw [← hT1]
  have he := (hT1.trans (v_95.eq_1 ..)).symm
  have hg := Eq.mp (g_95.eq_1 ..) hg
  refine bk_95_0 (fun h1 => ?_) (fun h1 => ?_)
  · have he := ite_p h1 he
    refine bk_95_15 (cq_V_I (cc_96 (d := d + 11) )) ?_
    rintro _ _ _ _ ⟨p1, hr, rfl, rfl, rfl, rfl⟩
    have he := bx_eq hr he
    exact bk_95_19 (rl_V_I he)
  · have he := ite_n h1 he
    have hg := hg h1
    have k3 := hg
    refine bk_95_8 (cq_V_I (cc_85 (d := d + 0)  k3)) ?_
    rintro _ _ _ _ ⟨p2, hr, rfl, rfl, rfl, rfl⟩
    have he := bx_eq hr he
    refine bk_95_12 ?_
    exact bk_95_19 (rl_V_I he)
/-- VectorShelf.cell(III)I -/
def v_105 (I : WI) (x1 : Int32) (x2 : Int32) (x3 : Int32) : Int32 × WI := (if ¬ (v_106 x1 x2 x3) = 0 then (if (I 1 4) < 4 then (bx ((v_53 I 1 x1 x2 x3) : Int32 × WI) (fun p1 => (p1.1, p1.2))) else ((-4), I)) else ((-2), I))
def g_105 (I : WI) (x1 : Int32) (x2 : Int32) (x3 : Int32) : Prop := ((¬ (v_106 x1 x2 x3) = 0) → (((I 1 4) < 4) → (g_53 I 1 x1 x2 x3)))
theorem cc_105 {l : LX} {d : Nat} {I : WI} {F : WF} {L : WL} {t : Nat} {x1 : Int32} {x2 : Int32} {x3 : Int32} (hg : g_105 I x1 x2 x3) : Con l 105 (d + 2) 0 0 [.ref 0, .int x1, .int x2, .int x3] SH (I, F, L, RT t) (po_I_I F L t (v_105 I x1 x2 x3)) := by
  refine cn_105 ?_
  obtain ⟨T1, hT1⟩ : ∃ r : Int32 × WI, r = (v_105 I x1 x2 x3) := ⟨_, rfl⟩
  rw [← hT1]
  have he := (hT1.trans (v_105.eq_1 ..)).symm
  have hg := Eq.mp (g_105.eq_1 ..) hg
  refine bk_105_0 (cc_106 (d := d + 0) ) ?_
  refine bk_105_6 (fun h2 => ?_) (fun h2 => ?_)
  · have he := ite_p h2 he
    have hg := hg h2
    refine bk_105_12 (fun h3 => ?_) (fun h3 => ?_)
    · have he := ite_p h3 he
      have hg := hg h3
      have k4 := hg
      refine bk_105_28 (cq_I_I (cc_53 (d := d + 0) (by first | decide | (unfold isS; decide) | (unfold isS; omega)) k4)) ?_
      rintro _ _ _ _ _ ⟨p1, hr, rfl, rfl, rfl, rfl, rfl⟩
      have he := bx_eq hr he
      exact bk_105_38 (rl_I_I he)
    · have he := ite_n h3 he
      refine bk_105_23 ?_
      exact bk_105_38 (rl_I_I he)
  · have he := ite_n h2 he
    exact bk_105_9 (rl_I_I he)
/-- VectorShelf.move(IIII)I -/
def v_109 (I : WI) (x1 : Int32) (x2 : Int32) (x3 : Int32) (x4 : Int32) : Int32 × WI := (if (v_110 I x1) = 0 then ((-2), I) else (if ¬ (v_106 x2 x3 x4) = 0 then (if ¬ (v_61 I 1 x1) = 0 then (bx ((v_57 I 1 x1 x2 x3 x4) : WI) (fun p1 => ((p1 10 x1.toNatClampNeg), p1))) else ((-3), I)) else ((-2), I)))
def g_109 (I : WI) (x1 : Int32) (x2 : Int32) (x3 : Int32) (x4 : Int32) : Prop := (¬ ((v_110 I x1) = 0) → ((¬ (v_106 x2 x3 x4) = 0) → ((¬ (v_61 I 1 x1) = 0) → ((g_57 I 1 x1 x2 x3 x4) ∧ (bx ((v_57 I 1 x1 x2 x3 x4) : WI) (fun p1 => (vp_in x1 12)))))))
theorem cc_109 {l : LX} {d : Nat} {I : WI} {F : WF} {L : WL} {t : Nat} {x1 : Int32} {x2 : Int32} {x3 : Int32} {x4 : Int32} (hg : g_109 I x1 x2 x3 x4) : Con l 109 (d + 3) 0 0 [.ref 0, .int x1, .int x2, .int x3, .int x4] SH (I, F, L, RT t) (po_I_I F L t (v_109 I x1 x2 x3 x4)) := by
  refine cn_109 ?_
  obtain ⟨T1, hT1⟩ : ∃ r : Int32 × WI, r = (v_109 I x1 x2 x3 x4) := ⟨_, rfl⟩
  rw [← hT1]
  have he := (hT1.trans (v_109.eq_1 ..)).symm
  have hg := Eq.mp (g_109.eq_1 ..) hg
  refine bk_109_0 (cc_110 (d := d + 1) ) ?_
  refine bk_109_5 (fun h2 => ?_) (fun h2 => ?_)
  · have he := ite_p h2 he
    exact bk_109_18 (rl_I_I he)
  · have he := ite_n h2 he
    have hg := hg h2
    refine bk_109_8 (cc_106 (d := d + 1) ) ?_
    refine bk_109_15 (fun h4 => ?_) (fun h4 => ?_)
    · have he := ite_p h4 he
      have hg := hg h4
      refine bk_109_21 (cc_61 (d := d + 1) (by first | decide | (unfold isS; decide) | (unfold isS; omega))) ?_
      refine bk_109_29 (fun h6 => ?_) (fun h6 => ?_)
      · have he := ite_p h6 he
        have hg := hg h6
        obtain ⟨k7, hg⟩ := hg
        refine bk_109_35 (cq_V_I (cc_57 (d := d + 0) (by first | decide | (unfold isS; decide) | (unfold isS; omega)) k7)) ?_
        rintro _ _ _ _ ⟨p1, hr, rfl, rfl, rfl, rfl⟩
        have he := bx_eq hr he
        have hg := bx_un hr hg
        have k8 := hg
        exact bk_109_47 k8 (rl_I_I he)
      · have he := ite_n h6 he
        exact bk_109_32 (rl_I_I he)
    · have he := ite_n h4 he
      exact bk_109_18 (rl_I_I he)
/-- VectorShelf.tidy(I)I -/
def v_123 (I : WI) (x1 : Int32) : Int32 × WI := (if (v_107 x1 (0 : Int32) ((I 1 4) - 1)) = 0 then ((-2), I) else (bx ((v_72 I 1 x1) : Int32 × WI) (fun p1 => (p1.1, p1.2))))
def g_123 (I : WI) (x1 : Int32) : Prop := (¬ ((v_107 x1 (0 : Int32) ((I 1 4) - 1)) = 0) → (g_72 I 1 x1))
theorem cc_123 {l : LX} {d : Nat} {I : WI} {F : WF} {L : WL} {t : Nat} {x1 : Int32} (hg : g_123 I x1) : Con l 123 (d + 4) 0 0 [.ref 0, .int x1] SH (I, F, L, RT t) (po_I_I F L t (v_123 I x1)) := by
  refine cn_123 ?_
  obtain ⟨T1, hT1⟩ : ∃ r : Int32 × WI, r = (v_123 I x1) := ⟨_, rfl⟩
  rw [← hT1]
  have he := (hT1.trans (v_123.eq_1 ..)).symm
  have hg := Eq.mp (g_123.eq_1 ..) hg
  refine bk_123_0 (cc_107 (d := d + 3) ) ?_
  refine bk_123_14 (fun h2 => ?_) (fun h2 => ?_)
  · have he := ite_p h2 he
    refine bk_123_28 ?_
    exact bk_123_30 (rl_I_I he)
  · have he := ite_n h2 he
    have hg := hg h2
    have k3 := hg
    refine bk_123_17 (cq_I_I (cc_72 (d := d + 0) (by first | decide | (unfold isS; decide) | (unfold isS; omega)) k3)) ?_
    rintro _ _ _ _ _ ⟨p1, hr, rfl, rfl, rfl, rfl, rfl⟩
    have he := bx_eq hr he
    refine bk_123_25 ?_
    exact bk_123_30 (rl_I_I he)
/-- VectorShelf.centre()I -/
def v_124 (I : WI) : Int32 × WI := (if ¬ (I 1 4) = 0 then (bx ((v_74 I 1) : Int32 × WI) (fun p1 => (p1.1, p1.2))) else ((-3), I))
def g_124 (I : WI) : Prop := ((¬ (I 1 4) = 0) → (g_74 I 1))
theorem cc_124 {l : LX} {d : Nat} {I : WI} {F : WF} {L : WL} {t : Nat} (hg : g_124 I) : Con l 124 (d + 4) 0 0 [.ref 0] SH (I, F, L, RT t) (po_I_I F L t (v_124 I)) := by
  refine cn_124 ?_
  obtain ⟨T1, hT1⟩ : ∃ r : Int32 × WI, r = (v_124 I) := ⟨_, rfl⟩
  rw [← hT1]
  have he := (hT1.trans (v_124.eq_1 ..)).symm
  have hg := Eq.mp (g_124.eq_1 ..) hg
  refine bk_124_0 (fun h1 => ?_) (fun h1 => ?_)
  · have he := ite_p h1 he
    have hg := hg h1
    have k2 := hg
    refine bk_124_15 (cq_I_I (cc_74 (d := d + 0) (by first | decide | (unfold isS; decide) | (unfold isS; omega)) k2)) ?_
    rintro _ _ _ _ _ ⟨p1, hr, rfl, rfl, rfl, rfl, rfl⟩
    have he := bx_eq hr he
    exact bk_124_22 (rl_I_I he)
  · have he := ite_n h1 he
    refine bk_124_10 ?_
    exact bk_124_22 (rl_I_I he)
/-- VectorShelf.friend(II)I -/
def v_132 (I : WI) (x1 : Int32) (x2 : Int32) : Int32 := (if (v_110 I x1) = 0 then (-2) else (if ¬ (v_107 x2 (0 : Int32) (1 : Int32)) = 0 then (if ¬ x2 = 0 then (v_2 I 1 x1) else (v_1 I 1 x1)) else (-2)))
def g_132 (I : WI) (x1 : Int32) (x2 : Int32) : Prop := (¬ ((v_110 I x1) = 0) → ((¬ (v_107 x2 (0 : Int32) (1 : Int32)) = 0) → (((¬ x2 = 0) → (g_2 I 1 x1)) ∧ (¬ (¬ x2 = 0) → (g_1 I 1 x1)))))
theorem cc_132 {l : LX} {d : Nat} {I : WI} {F : WF} {L : WL} {t : Nat} {x1 : Int32} {x2 : Int32} (hg : g_132 I x1 x2) : Con l 132 (d + 5) 0 0 [.ref 0, .int x1, .int x2] SH (I, F, L, RT t) (rI (v_132 I x1 x2) (I, F, L, RT t)) := by
  refine cn_132 ?_
  obtain ⟨T1, hT1⟩ : ∃ r : Int32, r = (v_132 I x1 x2) := ⟨_, rfl⟩
  rw [← hT1]
  have he := (hT1.trans (v_132.eq_1 ..)).symm
  have hg := Eq.mp (g_132.eq_1 ..) hg
  refine bk_132_0 (cc_110 (d := d + 3) ) ?_
  refine bk_132_5 (fun h2 => ?_) (fun h2 => ?_)
  · have he := ite_p h2 he
    exact bk_132_17 (rl_p_I he)
  · have he := ite_n h2 he
    have hg := hg h2
    refine bk_132_8 (cc_107 (d := d + 4) ) ?_
    refine bk_132_14 (fun h4 => ?_) (fun h4 => ?_)
    · have he := ite_p h4 he
      have hg := hg h4
      refine bk_132_20 (fun h5 => ?_) (fun h5 => ?_)
      · have he := ite_p h5 he
        have hg := hg.1 h5
        have k6 := hg
        refine bk_132_39 (cc_2 (d := d + 0) (by first | decide | (unfold isS; decide) | (unfold isS; omega)) k6) ?_
        exact bk_132_51 (rl_p_I he)
      · have he := ite_n h5 he
        have hg := hg.2 h5
        have k7 := hg
        refine bk_132_24 (cc_1 (d := d + 1) (by first | decide | (unfold isS; decide) | (unfold isS; omega)) k7) ?_
        refine bk_132_36 ?_
        exact bk_132_51 (rl_p_I he)
    · have he := ite_n h4 he
      exact bk_132_17 (rl_p_I he)
/-- the loop at 40 of VectorShelf.rounds -/
def lp_138_40 : Nat → Int32 → Int32 → WI → Int32 × WI
  | 0, x2, x3, I => (x2, I)
  | k + 1, x2, x3, I => (if x3 = 0 then (x2, I) else (if 20 ≤ x2 then (x2, I) else (bx ((v_74 I 21) : Int32 × WI) (fun p2 => (bx ((if p2.1 ≤ 0 then 0 else 1) : Int32) (fun p3 => (lp_138_40 k (x2 + 1) p3 p2.2)))))))
def gl_138_40 : Nat → Int32 → Int32 → WI → Prop
  | 0, _, _, _ => False
  | k + 1, x2, x3, I => (¬ (x3 = 0) → (¬ (20 ≤ x2) → ((g_74 I 21) ∧ (bx ((v_74 I 21) : Int32 × WI) (fun p2 => (bx ((if p2.1 ≤ 0 then 0 else 1) : Int32) (fun p3 => (gl_138_40 k (x2 + 1) p3 p2.2))))))))
theorem lw_138_40 {l : LX} {d : Nat} {P : RP} {F : WF} {L : WL} {t : Nat} {x1 : Int32} : ∀ k : Nat, ∀ (x2 : Int32) (x3 : Int32) (I : WI), gl_138_40 k x2 x3 I → (∀ r : Int32 × WI, r = lp_138_40 k x2 x3 I → Wp l 138 (d + 4) 0 0 P 0 0 72 [(0, .ref 0), (1, .int x1), (2, .int r.1)] [] SH (r.2, F, L, RT t)) → Wp l 138 (d + 4) 0 0 P 0 0 40 [(0, .ref 0), (1, .int x1), (2, .int x2), (3, .int x3)] [] SH (I, F, L, RT t) := by
  intro k
  induction k with
  | zero =>
    intro x2 x3 I hg hx
    exact hg.elim
  | succ k ih =>
    intro x2 x3 I hg hx
    have hg := Eq.mp (gl_138_40.eq_2 ..) hg
    obtain ⟨T1, hT1⟩ : ∃ r : Int32 × WI, r = lp_138_40 (k + 1) x2 x3 I := ⟨_, rfl⟩
    have hx : ∀ r : Int32 × WI, r = T1 → Wp l 138 (d + 4) 0 0 P 0 0 72 [(0, .ref 0), (1, .int x1), (2, .int r.1)] [] SH (r.2, F, L, RT t) := fun r hr => hx r (hr.trans hT1)
    have he := (hT1.trans (lp_138_40.eq_2 ..)).symm
    refine bk_138_40 (fun h5 => ?_) (fun h5 => ?_)
    · have he := ite_p h5 he
      exact hx (x2, I) he
    · have he := ite_n h5 he
      have hg := hg h5
      refine bk_138_44 (fun h6 => ?_) (fun h6 => ?_)
      · have he := ite_p h6 he
        exact hx (x2, I) he
      · have he := ite_n h6 he
        have hg := hg h6
        obtain ⟨k7, hg⟩ := hg
        refine bk_138_50 (cq_I_I (cc_74 (d := d + 0) (by first | decide | (unfold isS; decide) | (unfold isS; omega)) k7)) ?_
        rintro _ _ _ _ _ ⟨p2, hr, rfl, rfl, rfl, rfl, rfl⟩
        have he := bx_eq hr he
        have hg := bx_un hr hg
        obtain ⟨X1, hX1⟩ : ∃ r : Int32, r = (if p2.1 ≤ 0 then 0 else 1) := ⟨_, rfl⟩
        have J1 : ∀ p3 : Int32, p3 = X1 → Wp l 138 (d + 4) 0 0 P 0 0 65 [(0, .ref 0), (1, .int x1), (2, .int x2)] [.int p3] SH (p2.2, F, L, RT t) := by
          intro p3 hr
          have hr := hr.trans hX1
          have he := bx_eq hr he
          have hg := bx_un hr hg
          refine bk_138_65 ?_
          exact ih (x2 + 1) p3 p2.2 hg (fun r hr => hx r (hr.trans he))
        have he := hX1.symm
        refine bk_138_57 (fun h8 => ?_) (fun h8 => ?_)
        · have he := ite_p h8 he
          refine bk_138_64 ?_
          exact J1 0 he
        · have he := ite_n h8 he
          refine bk_138_60 ?_
          exact J1 1 he
/-- VectorShelf.rounds(I)I -/
def v_138 (I : WI) (x1 : Int32) : Int32 × WI := (if ¬ (v_107 x1 (0 : Int32) (1 : Int32)) = 0 then (if ¬ (I 1 4) = 0 then (bx ((v_76 I 21 1) : WI) (fun p1 => (bx ((lp_138_40 400 (0 : Int32) (1 : Int32) p1) : Int32 × WI) (fun p4 => (if ¬ x1 = 0 then ((v_77 p4.2 21), p4.2) else (p4.1, p4.2)))))) else ((-3), I)) else ((-2), I))
def g_138 (I : WI) (x1 : Int32) : Prop := ((¬ (v_107 x1 (0 : Int32) (1 : Int32)) = 0) → ((¬ (I 1 4) = 0) → (bx ((v_76 I 21 1) : WI) (fun p1 => ((gl_138_40 400 (0 : Int32) (1 : Int32) p1) ∧ (bx ((lp_138_40 400 (0 : Int32) (1 : Int32) p1) : Int32 × WI) (fun p4 => ((¬ x1 = 0) → (g_77 p4.2 21)))))))))
theorem cc_138 {l : LX} {d : Nat} {I : WI} {F : WF} {L : WL} {t : Nat} {x1 : Int32} (hg : g_138 I x1) : Con l 138 (d + 4) 0 0 [.ref 0, .int x1] SH (I, F, L, RT t) (po_I_I F L t (v_138 I x1)) := by
  refine cn_138 ?_
  obtain ⟨T1, hT1⟩ : ∃ r : Int32 × WI, r = (v_138 I x1) := ⟨_, rfl⟩
  rw [← hT1]
  have he := (hT1.trans (v_138.eq_1 ..)).symm
  have hg := Eq.mp (g_138.eq_1 ..) hg
  refine bk_138_0 (cc_107 (d := d + 3) ) ?_
  refine bk_138_6 (fun h2 => ?_) (fun h2 => ?_)
  · have he := ite_p h2 he
    have hg := hg h2
    refine bk_138_12 (fun h3 => ?_) (fun h3 => ?_)
    · have he := ite_p h3 he
      have hg := hg h3
      refine bk_138_25 (cq_V_I (cc_76 (d := d + 1) (by first | decide | (unfold isS; decide) | (unfold isS; omega)) (by first | decide | (unfold isS; decide) | (unfold isS; omega)))) ?_
      rintro _ _ _ _ ⟨p1, hr, rfl, rfl, rfl, rfl⟩
      have he := bx_eq hr he
      have hg := bx_un hr hg
      refine bk_138_36 ?_
      obtain ⟨hgX, hg⟩ := hg
      refine lw_138_40 (d := d)  400 (0 : Int32) (1 : Int32) p1 hgX (fun p4 hr => ?_)
      have he := bx_eq hr he
      have hg := bx_un hr hg
      refine bk_138_72 (fun h9 => ?_) (fun h9 => ?_)
      · have he := ite_p h9 he
        have hg := hg h9
        have k10 := hg
        refine bk_138_80 (cc_77 (d := d + 1) (by first | decide | (unfold isS; decide) | (unfold isS; omega)) k10) ?_
        exact bk_138_87 (rl_I_I he)
      · have he := ite_n h9 he
        refine bk_138_76 ?_
        exact bk_138_87 (rl_I_I he)
    · have he := ite_n h3 he
      exact bk_138_22 (rl_I_I he)
  · have he := ite_n h2 he
    exact bk_138_9 (rl_I_I he)
/-- the loop at 2 of VectorShelf.firstOtherwise -/
def lp_147_2 (F : WF) (r1 : Nat) : Nat → Int32 → WI → Int32 × WI
  | 0, x2, I => (0, I)
  | k + 1, x2, I => (if (I r1 1) ≤ x2 then ((-1), I) else (bx ((v_78 I 21 x2) : WI) (fun p1 => (if (v_23 p1 21) = (v_45 p1 F r1 x2) then (lp_147_2 F r1 k (x2 + 1) p1) else (x2, p1)))))
def gl_147_2 (F : WF) (r1 : Nat) : Nat → Int32 → WI → Prop
  | 0, _, _ => False
  | k + 1, x2, I => (¬ ((I r1 1) ≤ x2) → ((g_78 I 21 x2) ∧ (bx ((v_78 I 21 x2) : WI) (fun p1 => ((g_23 p1 21) ∧ ((g_45 p1 F r1 x2) ∧ (((v_23 p1 21) = (v_45 p1 F r1 x2)) → (gl_147_2 F r1 k (x2 + 1) p1))))))))
theorem lw_147_2 {l : LX} {d : Nat} {F : WF} {L : WL} {t : Nat} {r1 : Nat} (hr1 : isH r1) : ∀ k : Nat, ∀ (x2 : Int32) (I : WI), gl_147_2 F r1 k x2 I → Wp l 147 (d + 4) 0 0 (po_I_I F L t (lp_147_2 F r1 k x2 I)) 0 0 2 [(0, .ref 0), (1, .ref r1), (2, .int x2)] [] SH (I, F, L, RT t) := by
  intro k
  induction k with
  | zero =>
    intro x2 I hg
    exact hg.elim
  | succ k ih =>
    intro x2 I hg
    have hg := Eq.mp (gl_147_2.eq_2 ..) hg
    obtain ⟨T1, hT1⟩ : ∃ r : Int32 × WI, r = lp_147_2 F r1 (k + 1) x2 I := ⟨_, rfl⟩
    rw [← hT1]
    have he := (hT1.trans (lp_147_2.eq_2 ..)).symm
    refine bk_147_2 hr1 (fun h1 => ?_) (fun h1 => ?_)
    · have he := ite_p h1 he
      exact bk_147_45 (rl_I_I he)
    · have he := ite_n h1 he
      have hg := hg h1
      obtain ⟨k2, hg⟩ := hg
      refine bk_147_10 (cq_V_I (cc_78 (d := d + 2) (by first | decide | (unfold isS; decide) | (unfold isS; omega)) k2)) ?_
      rintro _ _ _ _ ⟨p1, hr, rfl, rfl, rfl, rfl⟩
      have he := bx_eq hr he
      have hg := bx_un hr hg
      obtain ⟨k3, hg⟩ := hg
      refine bk_147_18 (cc_23 (d := d + 0) (by first | decide | (unfold isS; decide) | (unfold isS; omega)) k3) ?_
      obtain ⟨k4, hg⟩ := hg
      refine bk_147_29 hr1 (cc_45 (d := d + 3) hr1 k4) ?_
      refine bk_147_34 (fun h5 => ?_) (fun h5 => ?_)
      · have he := ite_p h5 he
        have hg := hg h5
        refine bk_147_39 ?_
        exact Wp_eq (post := fun r => (po_I_I F L t r)) he (ih (x2 + 1) p1 hg)
      · have he := ite_n h5 he
        exact bk_147_37 (rl_I_I he)
/-- VectorShelf.firstOtherwise(LVectorShelf$Sheet;)I -/
def v_147 (I : WI) (F : WF) (r1 : Nat) : Int32 × WI := (lp_147_2 F r1 400 (0 : Int32) I)
def g_147 (I : WI) (F : WF) (r1 : Nat) : Prop := (gl_147_2 F r1 400 (0 : Int32) I)
theorem cc_147 {l : LX} {d : Nat} {I : WI} {F : WF} {L : WL} {t : Nat} {r1 : Nat} (hr1 : isH r1) (hg : g_147 I F r1) : Con l 147 (d + 4) 0 0 [.ref 0, .ref r1] SH (I, F, L, RT t) (po_I_I F L t (v_147 I F r1)) := by
  refine cn_147 ?_
  obtain ⟨T1, hT1⟩ : ∃ r : Int32 × WI, r = (v_147 I F r1) := ⟨_, rfl⟩
  rw [← hT1]
  have he := (hT1.trans (v_147.eq_1 ..)).symm
  have hg := Eq.mp (g_147.eq_1 ..) hg
  refine bk_147_0 ?_
  exact Wp_eq (post := fun r => (po_I_I F L t r)) he (lw_147_2 (d := d) hr1 400 (0 : Int32) I hg)
/-- the loop at 4 of VectorShelf.kindsTelling -/
def lp_148_4 (I : WI) (F : WF) (r1 : Nat) (a2 : Int32) : Nat → Int32 × WI
  | 0 => (a2, I)
  | k + 1 => bx (lp_148_4 I F r1 a2 k) (fun p1 => (bx ((v_147 (up2 p1.2 22 0 (nI k)) F r1) : Int32 × WI) (fun p2 => (bx ((if ¬ p2.1 = (-1) then p1.1 else (p1.1 ||| (1 <<< ((nI k) &&& 31)))) : Int32) (fun p3 => (p3, p2.2))))))
def gl_148_4 (I : WI) (F : WF) (r1 : Nat) (a2 : Int32) (N : Nat) : Prop := (∀ k, k < N → bx (lp_148_4 I F r1 a2 k) (fun p1 => (g_147 (up2 p1.2 22 0 (nI k)) F r1)))
theorem lw_148_4 {l : LX} {d : Nat} {P : RP} {I : WI} {F : WF} {L : WL} {t : Nat} {r1 : Nat} {a2 : Int32} (hr1 : isH r1) (hgl : gl_148_4 I F r1 a2 (((5 : Int32).toInt + 1 - (0 : Int32).toInt).toNat)) (hx : ∀ p1 : Int32 × WI, p1 = lp_148_4 I F r1 a2 (((5 : Int32).toInt + 1 - (0 : Int32).toInt).toNat) → Wp l 148 (d + 5) 0 0 P 0 0 41 [(2, .int p1.1)] [] SH (p1.2, F, L, RT t)) : Wp l 148 (d + 5) 0 0 P 0 0 4 [(0, .ref 0), (1, .ref r1), (2, .int a2), (3, .int 0)] [] SH (I, F, L, RT t) := by
  have hin := hgl
  have loop : ∀ m k, k + m = ((5 : Int32).toInt + 1 - (0 : Int32).toInt).toNat → ∀ p1 : Int32 × WI, p1 = lp_148_4 I F r1 a2 k → Wp l 148 (d + 5) 0 0 P 0 0 4 [(0, .ref 0), (1, .ref r1), (2, .int p1.1), (3, .int (nI k))] [] SH (p1.2, F, L, RT t) := by
    intro m
    induction m with
    | zero =>
      intro k hk p1 hs
      obtain rfl : k = ((5 : Int32).toInt + 1 - (0 : Int32).toInt).toNat := by omega
      exact bk_148_4  (fun _ => hx _ hs) (fun h => absurd ((cl_gt0 (by decide) (Nat.le_refl _)).mpr rfl) h)
    | succ m ih =>
      intro k hk p1 hs
      have hk2 : k < ((5 : Int32).toInt + 1 - (0 : Int32).toInt).toNat := by omega
      have ih := ih (k + 1) (by omega)
      rw [nI_succ] at ih
      have he := bx_eq hs (lp_148_4.eq_2 ..).symm
      have hg := bx_un hs (hin k hk2)
      refine bk_148_4  (fun h => absurd ((cl_gt0 (E := 5) (k := k) (by decide) (by omega)).mp h) (by omega)) (fun _ => ?_)
      have k1 := hg
      refine bk_148_9 (cq_I_I (cc_147 (d := d + 0) hr1 k1)) ?_
      rintro _ _ _ _ _ ⟨p2, hr, rfl, rfl, rfl, rfl, rfl⟩
      have he := bx_eq hr he
      obtain ⟨X1, hX1⟩ : ∃ r : Int32, r = (if ¬ p2.1 = (-1) then p1.1 else (p1.1 ||| (1 <<< ((nI k) &&& 31)))) := ⟨_, rfl⟩
      have J1 : ∀ p3 : Int32, p3 = X1 → Wp l 148 (d + 5) 0 0 P 0 0 35 [(0, .ref 0), (1, .ref r1), (2, .int p3), (3, .int (nI k))] [] SH (p2.2, F, L, RT t) := by
        intro p3 hr
        have hr := hr.trans hX1
        have he := bx_eq hr he
        refine bk_148_35 ?_
        exact ih (p3, p2.2) he
      have he := hX1.symm
      refine bk_148_25 (fun h2 => ?_) (fun h2 => ?_)
      · have he := ite_p h2 he
        exact J1 p1.1 he
      · have he := ite_n h2 he
        refine bk_148_29 ?_
        exact J1 (p1.1 ||| (1 <<< ((nI k) &&& 31))) he
  exact loop _ 0 (Nat.zero_add _) _ rfl
/-- VectorShelf.kindsTelling(LVectorShelf$Sheet;)I -/
def v_148 (I : WI) (F : WF) (r1 : Nat) : Int32 × WI := (bx ((lp_148_4 I F r1 (0 : Int32) (((5 : Int32).toInt + 1 - (0 : Int32).toInt).toNat)) : Int32 × WI) (fun p4 => (p4.1, p4.2)))
def g_148 (I : WI) (F : WF) (r1 : Nat) : Prop := (gl_148_4 I F r1 (0 : Int32) (((5 : Int32).toInt + 1 - (0 : Int32).toInt).toNat))
theorem cc_148 {l : LX} {d : Nat} {I : WI} {F : WF} {L : WL} {t : Nat} {r1 : Nat} (hr1 : isH r1) (hg : g_148 I F r1) : Con l 148 (d + 5) 0 0 [.ref 0, .ref r1] SH (I, F, L, RT t) (po_I_I F L t (v_148 I F r1)) := by
  refine cn_148 ?_
  obtain ⟨T1, hT1⟩ : ∃ r : Int32 × WI, r = (v_148 I F r1) := ⟨_, rfl⟩
  rw [← hT1]
  have he := (hT1.trans (v_148.eq_1 ..)).symm
  have hg := Eq.mp (g_148.eq_1 ..) hg
  refine bk_148_0 ?_
  have hgX := hg
  refine lw_148_4 (d := d) hr1 hgX (fun p4 hr => ?_)
  have he := bx_eq hr he
  exact bk_148_41 (rl_I_I he)
/-- the loop at 4 of VectorShelf.weightsTelling -/
def lp_150_4s (I : WI) (F : WF) (r1 : Nat) (a3 : Int32) (a2 : Int32) : Nat → Int32 × WI
  | 0 => (a2, I)
  | k + 1 => bx (lp_150_4s I F r1 a3 a2 k) (fun p1 => (bx ((v_147 (up2 p1.2 23 0 (a3 + nI k)) F r1) : Int32 × WI) (fun p2 => (bx ((if ¬ p2.1 = (-1) then p1.1 else (p1.1 ||| (1 <<< ((a3 + nI k) &&& 31)))) : Int32) (fun p3 => (p3, p2.2))))))
def gl_150_4s (I : WI) (F : WF) (r1 : Nat) (a3 : Int32) (a2 : Int32) (N : Nat) : Prop := (∀ k, k < N → bx (lp_150_4s I F r1 a3 a2 k) (fun p1 => (g_147 (up2 p1.2 23 0 (a3 + nI k)) F r1)))
theorem lw_150_4s {l : LX} {d : Nat} {P : RP} {I : WI} {F : WF} {L : WL} {t : Nat} {r1 : Nat} {a3 : Int32} {a2 : Int32} (hr1 : isH r1) (hgl : gl_150_4s I F r1 a3 a2 (((9 : Int32).toInt + 1 - a3.toInt).toNat)) (hx : ∀ p1 : Int32 × WI, p1 = lp_150_4s I F r1 a3 a2 (((9 : Int32).toInt + 1 - a3.toInt).toNat) → Wp l 150 (d + 5) 0 0 P 0 0 44 [(2, .int p1.1)] [] SH (p1.2, F, L, RT t)) : Wp l 150 (d + 5) 0 0 P 0 0 4 [(0, .ref 0), (1, .ref r1), (2, .int a2), (3, .int a3)] [] SH (I, F, L, RT t) := by
  have hin := hgl
  have loop : ∀ m k, k + m = ((9 : Int32).toInt + 1 - a3.toInt).toNat → ∀ p1 : Int32 × WI, p1 = lp_150_4s I F r1 a3 a2 k → Wp l 150 (d + 5) 0 0 P 0 0 4 [(0, .ref 0), (1, .ref r1), (2, .int p1.1), (3, .int (a3 + nI k))] [] SH (p1.2, F, L, RT t) := by
    intro m
    induction m with
    | zero =>
      intro k hk p1 hs
      obtain rfl : k = ((9 : Int32).toInt + 1 - a3.toInt).toNat := by omega
      exact bk_150_4  (fun _ => hx _ hs) (fun h => absurd ((cl_gt (by decide) (Nat.le_refl _)).mpr rfl) h)
    | succ m ih =>
      intro k hk p1 hs
      have hk2 : k < ((9 : Int32).toInt + 1 - a3.toInt).toNat := by omega
      have ih := ih (k + 1) (by omega)
      rw [nI_succ, ← Int32.add_assoc] at ih
      have he := bx_eq hs (lp_150_4s.eq_2 ..).symm
      have hg := bx_un hs (hin k hk2)
      refine bk_150_4  (fun h => absurd ((cl_gt (E := 9) (a := a3) (k := k) (by decide) (by omega)).mp h) (by omega)) (fun _ => ?_)
      have k1 := hg
      refine bk_150_10 (cq_I_I (cc_147 (d := d + 0) hr1 k1)) ?_
      rintro _ _ _ _ _ ⟨p2, hr, rfl, rfl, rfl, rfl, rfl⟩
      have he := bx_eq hr he
      obtain ⟨X1, hX1⟩ : ∃ r : Int32, r = (if ¬ p2.1 = (-1) then p1.1 else (p1.1 ||| (1 <<< ((a3 + nI k) &&& 31)))) := ⟨_, rfl⟩
      have J1 : ∀ p3 : Int32, p3 = X1 → Wp l 150 (d + 5) 0 0 P 0 0 38 [(0, .ref 0), (1, .ref r1), (2, .int p3), (3, .int (a3 + nI k))] [] SH (p2.2, F, L, RT t) := by
        intro p3 hr
        have hr := hr.trans hX1
        have he := bx_eq hr he
        refine bk_150_38 ?_
        exact ih (p3, p2.2) he
      have he := hX1.symm
      refine bk_150_28 (fun h2 => ?_) (fun h2 => ?_)
      · have he := ite_p h2 he
        exact J1 p1.1 he
      · have he := ite_n h2 he
        refine bk_150_32 ?_
        exact J1 (p1.1 ||| (1 <<< ((a3 + nI k) &&& 31))) he
  have h0 := loop _ 0 (Nat.zero_add _) _ rfl
  rw [show a3 + nI 0 = a3 from by rw [nI_0, Int32.add_zero]] at h0
  exact h0
/-- VectorShelf.weightsTelling(LVectorShelf$Sheet;)I -/
def v_150 (I : WI) (F : WF) (r1 : Nat) : Int32 × WI := (bx ((lp_150_4s I F r1 (1 : Int32) (0 : Int32) (((9 : Int32).toInt + 1 - (1 : Int32).toInt).toNat)) : Int32 × WI) (fun p4 => (p4.1, p4.2)))
def g_150 (I : WI) (F : WF) (r1 : Nat) : Prop := (gl_150_4s I F r1 (1 : Int32) (0 : Int32) (((9 : Int32).toInt + 1 - (1 : Int32).toInt).toNat))
theorem cc_150 {l : LX} {d : Nat} {I : WI} {F : WF} {L : WL} {t : Nat} {r1 : Nat} (hr1 : isH r1) (hg : g_150 I F r1) : Con l 150 (d + 5) 0 0 [.ref 0, .ref r1] SH (I, F, L, RT t) (po_I_I F L t (v_150 I F r1)) := by
  refine cn_150 ?_
  obtain ⟨T1, hT1⟩ : ∃ r : Int32 × WI, r = (v_150 I F r1) := ⟨_, rfl⟩
  rw [← hT1]
  have he := (hT1.trans (v_150.eq_1 ..)).symm
  have hg := Eq.mp (g_150.eq_1 ..) hg
  refine bk_150_0 ?_
  have hgX := hg
  refine lw_150_4s (d := d) hr1 hgX (fun p4 hr => ?_)
  have he := bx_eq hr he
  exact bk_150_44 (rl_I_I he)
end
