section
/-- the loop at 39 of VectorShelfModel.centresAnew -/
def lp_232_39 (I : WI) (x3 : Int32) (x5 : Int32) (a6 : Int32) (a7 : Int32) : Nat → Int32 × Int32
  | 0 => (a6, a7)
  | k + 1 => bx (lp_232_39 I x3 x5 a6 a7 k) (fun p4 => (bx ((if ¬ (I 86 (nI k).toNatClampNeg) = x3 then 0 else (I 84 ((3 * (nI k)) + x5).toNatClampNeg)) : Int32) (fun p5 => (bx ((if ¬ (I 86 (nI k).toNatClampNeg) = x3 then 0 else 1) : Int32) (fun p6 => ((p4.1 + p5), (p4.2 + p6)))))))
def gl_232_39 (I : WI) (x3 : Int32) (x5 : Int32) (a6 : Int32) (a7 : Int32) (N : Nat) : Prop := (∀ k, k < N → bx (lp_232_39 I x3 x5 a6 a7 k) (fun p4 => ((vp_in (nI k) 12) ∧ ((¬ (¬ (I 86 (nI k).toNatClampNeg) = x3) → (vp_in ((3 * (nI k)) + x5) 36)) ∧ (bx ((if ¬ (I 86 (nI k).toNatClampNeg) = x3 then 0 else (I 84 ((3 * (nI k)) + x5).toNatClampNeg)) : Int32) (fun p5 => (vp_in (nI k) 12)))))))
theorem lw_232_39 {l : LX} {d : Nat} {P : RP} {I : WI} {F : WF} {L : WL} {t : Nat} {x2 : Int32} {x3 : Int32} {x4 : Int32} {x5 : Int32} {a6 : Int32} {a7 : Int32} (hgl : gl_232_39 I x3 x5 a6 a7 ((I 74 18).toNatClampNeg)) (hx : ∀ p4 : Int32 × Int32, p4 = lp_232_39 I x3 x5 a6 a7 ((I 74 18).toNatClampNeg) → Wp l 232 (d + 1) 0 0 P 0 0 107 [(0, .ref 74), (2, .int x2), (3, .int x3), (4, .int x4), (5, .int x5), (6, .int p4.1), (7, .int p4.2)] [] SH (I, F, L, RT t)) : Wp l 232 (d + 1) 0 0 P 0 0 39 [(0, .ref 74), (2, .int x2), (3, .int x3), (4, .int x4), (5, .int x5), (6, .int a6), (7, .int a7), (8, .int 0)] [] SH (I, F, L, RT t) := by
  have hin := hgl
  have loop : ∀ m k, k + m = (I 74 18).toNatClampNeg → ∀ p4 : Int32 × Int32, p4 = lp_232_39 I x3 x5 a6 a7 k → Wp l 232 (d + 1) 0 0 P 0 0 39 [(0, .ref 74), (2, .int x2), (3, .int x3), (4, .int x4), (5, .int x5), (6, .int p4.1), (7, .int p4.2), (8, .int (nI k))] [] SH (I, F, L, RT t) := by
    intro m
    induction m with
    | zero =>
      intro k hk p4 hs
      obtain rfl : k = (I 74 18).toNatClampNeg := by omega
      exact bk_232_39  (fun _ => hx _ hs) (fun h => absurd ((le_cl (Nat.le_refl _)).mpr rfl) h)
    | succ m ih =>
      intro k hk p4 hs
      have hk2 : k < (I 74 18).toNatClampNeg := by omega
      have ih := ih (k + 1) (by omega)
      rw [nI_succ] at ih
      have he := bx_eq hs (lp_232_39.eq_2 ..).symm
      have hg := bx_un hs (hin k hk2)
      refine bk_232_39  (fun h => absurd ((le_cl (E := (I 74 18)) (i := k) (by omega)).mp h) (by omega)) (fun _ => ?_)
      obtain ⟨k2, hg⟩ := hg
      obtain ⟨hgX, hg⟩ := hg
      obtain ⟨X1, hX1⟩ : ∃ r : Int32, r = (if ¬ (I 86 (nI k).toNatClampNeg) = x3 then 0 else (I 84 ((3 * (nI k)) + x5).toNatClampNeg)) := ⟨_, rfl⟩
      have J1 : ∀ p5 : Int32, p5 = X1 → Wp l 232 (d + 1) 0 0 P 0 0 77 [(0, .ref 74), (2, .int x2), (3, .int x3), (4, .int x4), (5, .int x5), (7, .int p4.2), (8, .int (nI k))] [.int p5, .int p4.1] SH (I, F, L, RT t) := by
        intro p5 hr
        have hr := hr.trans hX1
        have he := bx_eq hr he
        have hg := bx_un hr hg
        have k5 := hg
        obtain ⟨X2, hX2⟩ : ∃ r : Int32, r = (if ¬ (I 86 (nI k).toNatClampNeg) = x3 then 0 else 1) := ⟨_, rfl⟩
        have J2 : ∀ p6 : Int32, p6 = X2 → Wp l 232 (d + 1) 0 0 P 0 0 98 [(0, .ref 74), (2, .int x2), (3, .int x3), (4, .int x4), (5, .int x5), (6, .int (p4.1 + p5)), (8, .int (nI k))] [.int p6, .int p4.2] SH (I, F, L, RT t) := by
          intro p6 hr
          have hr := hr.trans hX2
          have he := bx_eq hr he
          refine bk_232_98 ?_
          exact ih ((p4.1 + p5), (p4.2 + p6)) he
        have he := hX2.symm
        refine bk_232_77 k5 (fun h6 => ?_) (fun h6 => ?_)
        · have he := ite_p h6 he
          refine bk_232_97 ?_
          exact J2 0 he
        · have he := ite_n h6 he
          refine bk_232_93 ?_
          exact J2 1 he
      have he := hX1.symm
      have hg := hgX
      refine bk_232_48 k2 (fun h3 => ?_) (fun h3 => ?_)
      · have he := ite_p h3 he
        refine bk_232_76 ?_
        exact J1 0 he
      · have he := ite_n h3 he
        have hg := hg h3
        have k4 := hg
        refine bk_232_61 k4 ?_
        exact J1 (I 84 ((3 * (nI k)) + x5).toNatClampNeg) he
  exact loop _ 0 (Nat.zero_add _) _ rfl
/-- the loop at 24 of VectorShelfModel.centresAnew -/
def lp_232_24 (I : WI) (x3 : Int32) (a4 : Int32) : Nat → Int32 × WI
  | 0 => (a4, I)
  | k + 1 => bx (lp_232_24 I x3 a4 k) (fun p3 => (bx ((lp_232_39 p3.2 x3 (nI k) (0 : Int32) (0 : Int32) ((p3.2 74 18).toNatClampNeg)) : Int32 × Int32) (fun p7 => (bx ((if ¬ p7.2 = 0 then (v_212 p7.1 p7.2) else (p3.2 80 ((3 * x3) + (nI k)).toNatClampNeg)) : Int32) (fun p8 => (bx ((if ¬ p3.1 = 0 then 1 else (if p8 = (p3.2 80 ((3 * x3) + (nI k)).toNatClampNeg) then 0 else 1)) : Int32) (fun p9 => (p9, (up2 p3.2 80 ((3 * x3) + (nI k)).toNatClampNeg p8)))))))))
def gl_232_24 (I : WI) (x3 : Int32) (a4 : Int32) (N : Nat) : Prop := (∀ k, k < N → bx (lp_232_24 I x3 a4 k) (fun p3 => ((gl_232_39 p3.2 x3 (nI k) (0 : Int32) (0 : Int32) ((p3.2 74 18).toNatClampNeg)) ∧ (bx ((lp_232_39 p3.2 x3 (nI k) (0 : Int32) (0 : Int32) ((p3.2 74 18).toNatClampNeg)) : Int32 × Int32) (fun p7 => ((((¬ p7.2 = 0) → (g_212 p7.2)) ∧ (¬ (¬ p7.2 = 0) → (vp_in ((3 * x3) + (nI k)) 12))) ∧ (bx ((if ¬ p7.2 = 0 then (v_212 p7.1 p7.2) else (p3.2 80 ((3 * x3) + (nI k)).toNatClampNeg)) : Int32) (fun p8 => ((¬ (¬ p3.1 = 0) → (vp_in ((3 * x3) + (nI k)) 12)) ∧ (bx ((if ¬ p3.1 = 0 then 1 else (if p8 = (p3.2 80 ((3 * x3) + (nI k)).toNatClampNeg) then 0 else 1)) : Int32) (fun p9 => (vp_in ((3 * x3) + (nI k)) 12))))))))))))
theorem lw_232_24 {l : LX} {d : Nat} {P : RP} {I : WI} {F : WF} {L : WL} {t : Nat} {x2 : Int32} {x3 : Int32} {a4 : Int32} (hgl : gl_232_24 I x3 a4 ((3 : Int32).toNatClampNeg)) (hx : ∀ p3 : Int32 × WI, p3 = lp_232_24 I x3 a4 ((3 : Int32).toNatClampNeg) → Wp l 232 (d + 1) 0 0 P 0 0 182 [(0, .ref 74), (2, .int x2), (3, .int x3), (4, .int p3.1)] [] SH (p3.2, F, L, RT t)) : Wp l 232 (d + 1) 0 0 P 0 0 24 [(0, .ref 74), (2, .int x2), (3, .int x3), (4, .int a4), (5, .int 0)] [] SH (I, F, L, RT t) := by
  have hin := hgl
  have loop : ∀ m k, k + m = (3 : Int32).toNatClampNeg → ∀ p3 : Int32 × WI, p3 = lp_232_24 I x3 a4 k → Wp l 232 (d + 1) 0 0 P 0 0 24 [(0, .ref 74), (2, .int x2), (3, .int x3), (4, .int p3.1), (5, .int (nI k))] [] SH (p3.2, F, L, RT t) := by
    intro m
    induction m with
    | zero =>
      intro k hk p3 hs
      obtain rfl : k = (3 : Int32).toNatClampNeg := by omega
      exact bk_232_24  (fun _ => hx _ hs) (fun h => absurd ((le_cl (Nat.le_refl _)).mpr rfl) h)
    | succ m ih =>
      intro k hk p3 hs
      have hk2 : k < (3 : Int32).toNatClampNeg := by omega
      have ih := ih (k + 1) (by omega)
      rw [nI_succ] at ih
      have he := bx_eq hs (lp_232_24.eq_2 ..).symm
      have hg := bx_un hs (hin k hk2)
      refine bk_232_24  (fun h => absurd ((le_cl (E := 3) (i := k) (by omega)).mp h) (by omega)) (fun _ => ?_)
      refine bk_232_30 ?_
      obtain ⟨hgX, hg⟩ := hg
      refine lw_232_39 (d := d)  hgX (fun p7 hr => ?_)
      have he := bx_eq hr he
      have hg := bx_un hr hg
      obtain ⟨hgX, hg⟩ := hg
      obtain ⟨X3, hX3⟩ : ∃ r : Int32, r = (if ¬ p7.2 = 0 then (v_212 p7.1 p7.2) else (p3.2 80 ((3 * x3) + (nI k)).toNatClampNeg)) := ⟨_, rfl⟩
      have J3 : ∀ p8 : Int32, p8 = X3 → Wp l 232 (d + 1) 0 0 P 0 0 133 [(0, .ref 74), (2, .int x2), (3, .int x3), (4, .int p3.1), (5, .int (nI k))] [.int p8] SH (p3.2, F, L, RT t) := by
        intro p8 hr
        have hr := hr.trans hX3
        have he := bx_eq hr he
        have hg := bx_un hr hg
        obtain ⟨hgX, hg⟩ := hg
        obtain ⟨X4, hX4⟩ : ∃ r : Int32, r = (if ¬ p3.1 = 0 then 1 else (if p8 = (p3.2 80 ((3 * x3) + (nI k)).toNatClampNeg) then 0 else 1)) := ⟨_, rfl⟩
        have J4 : ∀ p9 : Int32, p9 = X4 → Wp l 232 (d + 1) 0 0 P 0 0 161 [(0, .ref 74), (2, .int x2), (3, .int x3), (5, .int (nI k)), (8, .int p8)] [.int p9] SH (p3.2, F, L, RT t) := by
          intro p9 hr
          have hr := hr.trans hX4
          have he := bx_eq hr he
          have hg := bx_un hr hg
          have k13 := hg
          refine bk_232_161 k13 ?_
          exact ih (p9, (up2 p3.2 80 ((3 * x3) + (nI k)).toNatClampNeg p8)) he
        have he := hX4.symm
        have hg := hgX
        refine bk_232_133 (fun h10 => ?_) (fun h10 => ?_)
        · have he := ite_p h10 he
          refine bk_232_156 ?_
          exact J4 1 he
        · have he := ite_n h10 he
          have hg := hg h10
          have k11 := hg
          refine bk_232_140 k11 (fun h12 => ?_) (fun h12 => ?_)
          · have he := ite_p h12 he
            refine bk_232_160 ?_
            exact J4 0 he
          · have he := ite_n h12 he
            refine bk_232_156 ?_
            exact J4 1 he
      have he := hX3.symm
      have hg := hgX
      refine bk_232_107 (fun h7 => ?_) (fun h7 => ?_)
      · have he := ite_p h7 he
        have hg := hg.1 h7
        have k8 := hg
        refine bk_232_126 (cc_212 (d := d + 0)  k8) ?_
        exact J3 (v_212 p7.1 p7.2) he
      · have he := ite_n h7 he
        have hg := hg.2 h7
        have k9 := hg
        refine bk_232_112 k9 ?_
        exact J3 (p3.2 80 ((3 * x3) + (nI k)).toNatClampNeg) he
  exact loop _ 0 (Nat.zero_add _) _ rfl
/-- the loop at 10 of VectorShelfModel.centresAnew -/
def lp_232_10 (I : WI) (a2 : Int32) : Nat → Int32 × WI
  | 0 => (a2, I)
  | k + 1 => bx (lp_232_10 I a2 k) (fun p2 => (bx ((lp_232_24 p2.2 (nI k) (0 : Int32) ((3 : Int32).toNatClampNeg)) : Int32 × WI) (fun p10 => (bx ((if p10.1 = 0 then 0 else 1) : Int32) (fun p11 => ((p2.1 + p11), (up2 p10.2 83 (nI k).toNatClampNeg (vp_nar (bT 0) 0))))))))
def gl_232_10 (I : WI) (a2 : Int32) (N : Nat) : Prop := ((∀ k, k < N → bx (lp_232_10 I a2 k) (fun p2 => (((p2.2 74 13) = (I 74 13)) ∧ ((gl_232_24 p2.2 (nI k) (0 : Int32) ((3 : Int32).toNatClampNeg)) ∧ (bx ((lp_232_24 p2.2 (nI k) (0 : Int32) ((3 : Int32).toNatClampNeg)) : Int32 × WI) (fun p10 => (vp_in (nI k) 4))))))) ∧ (bx (lp_232_10 I a2 N) (fun p2 => (p2.2 74 13) = (I 74 13))))
theorem lw_232_10 {l : LX} {d : Nat} {P : RP} {I : WI} {F : WF} {L : WL} {t : Nat} {a2 : Int32} (hgl : gl_232_10 I a2 ((I 74 13).toNatClampNeg)) (hx : ∀ p2 : Int32 × WI, p2 = lp_232_10 I a2 ((I 74 13).toNatClampNeg) → Wp l 232 (d + 1) 0 0 P 0 0 208 [(0, .ref 74), (2, .int p2.1)] [] SH (p2.2, F, L, RT t)) : Wp l 232 (d + 1) 0 0 P 0 0 10 [(0, .ref 74), (2, .int a2), (3, .int 0)] [] SH (I, F, L, RT t) := by
  obtain ⟨hin, hend⟩ := hgl
  have loop : ∀ m k, k + m = (I 74 13).toNatClampNeg → ∀ p2 : Int32 × WI, p2 = lp_232_10 I a2 k → Wp l 232 (d + 1) 0 0 P 0 0 10 [(0, .ref 74), (2, .int p2.1), (3, .int (nI k))] [] SH (p2.2, F, L, RT t) := by
    intro m
    induction m with
    | zero =>
      intro k hk p2 hs
      obtain rfl : k = (I 74 13).toNatClampNeg := by omega
      have hE := bx_un hs hend
      exact bk_232_10  (fun _ => hx _ hs) (fun h => absurd ((show (p2.2 74 13) ≤ (nI ((I 74 13).toNatClampNeg)) from by rw [show (p2.2 74 13) = (I 74 13) from hE]; exact (le_cl (Nat.le_refl _)).mpr rfl)) h)
    | succ m ih =>
      intro k hk p2 hs
      have hk2 : k < (I 74 13).toNatClampNeg := by omega
      have ih := ih (k + 1) (by omega)
      rw [nI_succ] at ih
      have he := bx_eq hs (lp_232_10.eq_2 ..).symm
      have hg := bx_un hs (hin k hk2)
      have hE : (p2.2 74 13) = (I 74 13) := hg.1
      have hg := hg.2
      refine bk_232_10  (fun h => absurd ((le_cl (E := (I 74 13)) (i := k) (by omega)).mp (by rw [show (p2.2 74 13) = (I 74 13) from hE] at h; exact h)) (by omega)) (fun _ => ?_)
      refine bk_232_18 ?_
      obtain ⟨hgX, hg⟩ := hg
      refine lw_232_24 (d := d)  hgX (fun p10 hr => ?_)
      have he := bx_eq hr he
      have hg := bx_un hr hg
      have k14 := hg
      obtain ⟨X5, hX5⟩ : ∃ r : Int32, r = (if p10.1 = 0 then 0 else 1) := ⟨_, rfl⟩
      have J5 : ∀ p11 : Int32, p11 = X5 → Wp l 232 (d + 1) 0 0 P 0 0 200 [(0, .ref 74), (3, .int (nI k))] [.int p11, .int p2.1] SH ((up2 p10.2 83 (nI k).toNatClampNeg (vp_nar (bT 0) 0)), F, L, RT t) := by
        intro p11 hr
        have hr := hr.trans hX5
        have he := bx_eq hr he
        refine bk_232_200 ?_
        exact ih ((p2.1 + p11), (up2 p10.2 83 (nI k).toNatClampNeg (vp_nar (bT 0) 0))) he
      have he := hX5.symm
      refine bk_232_182 k14 (fun h15 => ?_) (fun h15 => ?_)
      · have he := ite_p h15 he
        refine bk_232_199 ?_
        exact J5 0 he
      · have he := ite_n h15 he
        refine bk_232_195 ?_
        exact J5 1 he
  exact loop _ 0 (Nat.zero_add _) _ rfl
/-- the loop at 210 of VectorShelfModel.centresAnew -/
def lp_232_210 (I : WI) : Nat → WI
  | 0 => I
  | k + 1 => bx (lp_232_210 I k) (fun p13 => (bx ((if (v_180 p13 (nI k)) = 0 then p13 else (bx ((v_177 p13 (nI k) (v_176 p13 (nI k))) : WI) (fun p14 => p14))) : WI) (fun p15 => p15)))
def gl_232_210 (I : WI) (N : Nat) : Prop := ((∀ k, k < N → bx (lp_232_210 I k) (fun p13 => (((p13 74 18) = (I 74 18)) ∧ ((g_180 p13 (nI k)) ∧ (¬ ((v_180 p13 (nI k)) = 0) → ((g_176 p13 (nI k)) ∧ (g_177 p13 (nI k) (v_176 p13 (nI k))))))))) ∧ (bx (lp_232_210 I N) (fun p13 => (p13 74 18) = (I 74 18))))
theorem lw_232_210 {l : LX} {d : Nat} {P : RP} {I : WI} {F : WF} {L : WL} {t : Nat} {x2 : Int32} (hgl : gl_232_210 I ((I 74 18).toNatClampNeg)) (hx : ∀ p13 : WI, p13 = lp_232_210 I ((I 74 18).toNatClampNeg) → Wp l 232 (d + 1) 0 0 P 0 0 242 [(2, .int x2)] [] SH (p13, F, L, RT t)) : Wp l 232 (d + 1) 0 0 P 0 0 210 [(0, .ref 74), (2, .int x2), (3, .int 0)] [] SH (I, F, L, RT t) := by
  obtain ⟨hin, hend⟩ := hgl
  have loop : ∀ m k, k + m = (I 74 18).toNatClampNeg → ∀ p13 : WI, p13 = lp_232_210 I k → Wp l 232 (d + 1) 0 0 P 0 0 210 [(0, .ref 74), (2, .int x2), (3, .int (nI k))] [] SH (p13, F, L, RT t) := by
    intro m
    induction m with
    | zero =>
      intro k hk p13 hs
      obtain rfl : k = (I 74 18).toNatClampNeg := by omega
      have hE := bx_un hs hend
      exact bk_232_210  (fun _ => hx _ hs) (fun h => absurd ((show (p13 74 18) ≤ (nI ((I 74 18).toNatClampNeg)) from by rw [show (p13 74 18) = (I 74 18) from hE]; exact (le_cl (Nat.le_refl _)).mpr rfl)) h)
    | succ m ih =>
      intro k hk p13 hs
      have hk2 : k < (I 74 18).toNatClampNeg := by omega
      have ih := ih (k + 1) (by omega)
      rw [nI_succ] at ih
      have he := bx_eq hs (lp_232_210.eq_2 ..).symm
      have hg := bx_un hs (hin k hk2)
      have hE : (p13 74 18) = (I 74 18) := hg.1
      have hg := hg.2
      refine bk_232_210  (fun h => absurd ((le_cl (E := (I 74 18)) (i := k) (by omega)).mp (by rw [show (p13 74 18) = (I 74 18) from hE] at h; exact h)) (by omega)) (fun _ => ?_)
      obtain ⟨k16, hg⟩ := hg
      refine bk_232_218 (cc_180 (d := d + 0)  k16) ?_
      have hgX := hg
      obtain ⟨X6, hX6⟩ : ∃ r : WI, r = (if (v_180 p13 (nI k)) = 0 then p13 else (bx ((v_177 p13 (nI k) (v_176 p13 (nI k))) : WI) (fun p14 => p14))) := ⟨_, rfl⟩
      have J6 : ∀ p15 : WI, p15 = X6 → Wp l 232 (d + 1) 0 0 P 0 0 236 [(0, .ref 74), (2, .int x2), (3, .int (nI k))] [] SH (p15, F, L, RT t) := by
        intro p15 hr
        have hr := hr.trans hX6
        have he := bx_eq hr he
        refine bk_232_236 ?_
        exact ih p15 he
      have he := hX6.symm
      have hg := hgX
      refine bk_232_223 (fun h17 => ?_) (fun h17 => ?_)
      · have he := ite_p h17 he
        exact J6 p13 he
      · have he := ite_n h17 he
        have hg := hg h17
        obtain ⟨k18, hg⟩ := hg
        refine bk_232_226 (cc_176 (d := d + 0)  k18) ?_
        have k19 := hg
        refine bk_232_233 (cq_V_I (cc_177 (d := d + 0)  k19)) ?_
        rintro _ _ _ _ ⟨p14, hr, rfl, rfl, rfl, rfl⟩
        have he := bx_eq hr he
        exact J6 p14 he
  exact loop _ 0 (Nat.zero_add _) _ rfl
/-- VectorShelfModel.centresAnew()I -/
def v_232 (I : WI) : Int32 × WI := (bx ((v_230 I ((-1) : Int32)) : Int32 × WI) (fun p1 => (bx ((lp_232_10 p1.2 (0 : Int32) ((p1.2 74 13).toNatClampNeg)) : Int32 × WI) (fun p12 => (bx ((lp_232_210 p12.2 ((p12.2 74 18).toNatClampNeg)) : WI) (fun p16 => (p12.1, p16)))))))
def g_232 (I : WI) : Prop := ((g_230 I ((-1) : Int32)) ∧ (bx ((v_230 I ((-1) : Int32)) : Int32 × WI) (fun p1 => ((gl_232_10 p1.2 (0 : Int32) ((p1.2 74 13).toNatClampNeg)) ∧ (bx ((lp_232_10 p1.2 (0 : Int32) ((p1.2 74 13).toNatClampNeg)) : Int32 × WI) (fun p12 => (gl_232_210 p12.2 ((p12.2 74 18).toNatClampNeg))))))))
theorem cc_232 {l : LX} {d : Nat} {I : WI} {F : WF} {L : WL} {t : Nat} (hg : g_232 I) : Con l 232 (d + 1) 0 0 [.ref 74] SH (I, F, L, RT t) (po_I_I F L t (v_232 I)) := by
  refine cn_232 ?_
  obtain ⟨T1, hT1⟩ : ∃ r : Int32 × WI, r = (v_232 I) := ⟨_, rfl⟩
  rw [← hT1]
  have he := (hT1.trans (v_232.eq_1 ..)).symm
  have hg := Eq.mp (g_232.eq_1 ..) hg
  obtain ⟨k1, hg⟩ := hg
  refine bk_232_0 (cq_I_I (cc_230 (d := d + 0)  k1)) ?_
  rintro _ _ _ _ _ ⟨p1, hr, rfl, rfl, rfl, rfl, rfl⟩
  have he := bx_eq hr he
  have hg := bx_un hr hg
  refine bk_232_5 ?_
  obtain ⟨hgX, hg⟩ := hg
  refine lw_232_10 (d := d)  hgX (fun p12 hr => ?_)
  have he := bx_eq hr he
  have hg := bx_un hr hg
  refine bk_232_208 ?_
  have hgX := hg
  refine lw_232_210 (d := d)  hgX (fun p16 hr => ?_)
  have he := bx_eq hr he
  exact bk_232_242 (rl_I_I he)
/-- the loop at 2 of VectorShelfModel.keeps -/
def lp_234_2 (I : WI) : Nat → WI
  | 0 => I
  | k + 1 => bx (lp_234_2 I k) (fun p1 => (up2 (up2 (up2 (up2 p1 90 (nI k).toNatClampNeg (p1 80 (nI k).toNatClampNeg)) 91 (nI k).toNatClampNeg (p1 81 (nI k).toNatClampNeg)) 92 (nI k).toNatClampNeg (p1 82 (nI k).toNatClampNeg)) 94 (nI k).toNatClampNeg (p1 86 (nI k).toNatClampNeg)))
def gl_234_2 (I : WI) (N : Nat) : Prop := (∀ k, k < N → bx (lp_234_2 I k) (fun p1 => (vp_in (nI k) 12)))
theorem lw_234_2 {l : LX} {d : Nat} {P : RP} {I : WI} {F : WF} {L : WL} {t : Nat} (hgl : gl_234_2 I ((12 : Int32).toNatClampNeg)) (hx : ∀ p1 : WI, p1 = lp_234_2 I ((12 : Int32).toNatClampNeg) → Wp l 234 (d + 0) 0 0 P 0 0 62 [(0, .ref 74)] [] SH (p1, F, L, RT t)) : Wp l 234 (d + 0) 0 0 P 0 0 2 [(0, .ref 74), (1, .int 0)] [] SH (I, F, L, RT t) := by
  have hin := hgl
  have loop : ∀ m k, k + m = (12 : Int32).toNatClampNeg → ∀ p1 : WI, p1 = lp_234_2 I k → Wp l 234 (d + 0) 0 0 P 0 0 2 [(0, .ref 74), (1, .int (nI k))] [] SH (p1, F, L, RT t) := by
    intro m
    induction m with
    | zero =>
      intro k hk p1 hs
      obtain rfl : k = (12 : Int32).toNatClampNeg := by omega
      exact bk_234_2  (fun _ => hx _ hs) (fun h => absurd ((le_cl (Nat.le_refl _)).mpr rfl) h)
    | succ m ih =>
      intro k hk p1 hs
      have hk2 : k < (12 : Int32).toNatClampNeg := by omega
      have ih := ih (k + 1) (by omega)
      rw [nI_succ] at ih
      have he := bx_eq hs (lp_234_2.eq_2 ..).symm
      have hg := bx_un hs (hin k hk2)
      refine bk_234_2  (fun h => absurd ((le_cl (E := 12) (i := k) (by omega)).mp h) (by omega)) (fun _ => ?_)
      have k1 := hg
      refine bk_234_8 k1 ?_
      exact ih (up2 (up2 (up2 (up2 p1 90 (nI k).toNatClampNeg (p1 80 (nI k).toNatClampNeg)) 91 (nI k).toNatClampNeg (p1 81 (nI k).toNatClampNeg)) 92 (nI k).toNatClampNeg (p1 82 (nI k).toNatClampNeg)) 94 (nI k).toNatClampNeg (p1 86 (nI k).toNatClampNeg)) he
  exact loop _ 0 (Nat.zero_add _) _ rfl
/-- the loop at 64 of VectorShelfModel.keeps -/
def lp_234_64 (I : WI) : Nat → WI
  | 0 => I
  | k + 1 => bx (lp_234_64 I k) (fun p3 => (up2 p3 93 (nI k).toNatClampNeg (vp_nar (bT 0) (p3 83 (nI k).toNatClampNeg))))
def gl_234_64 (I : WI) (N : Nat) : Prop := (∀ k, k < N → bx (lp_234_64 I k) (fun p3 => (vp_in (nI k) 4)))
theorem lw_234_64 {l : LX} {d : Nat} {P : RP} {I : WI} {F : WF} {L : WL} {t : Nat} (hgl : gl_234_64 I ((4 : Int32).toNatClampNeg)) (hx : ∀ p3 : WI, p3 = lp_234_64 I ((4 : Int32).toNatClampNeg) → Wp l 234 (d + 0) 0 0 P 0 0 87 [(0, .ref 74)] [] SH (p3, F, L, RT t)) : Wp l 234 (d + 0) 0 0 P 0 0 64 [(0, .ref 74), (1, .int 0)] [] SH (I, F, L, RT t) := by
  have hin := hgl
  have loop : ∀ m k, k + m = (4 : Int32).toNatClampNeg → ∀ p3 : WI, p3 = lp_234_64 I k → Wp l 234 (d + 0) 0 0 P 0 0 64 [(0, .ref 74), (1, .int (nI k))] [] SH (p3, F, L, RT t) := by
    intro m
    induction m with
    | zero =>
      intro k hk p3 hs
      obtain rfl : k = (4 : Int32).toNatClampNeg := by omega
      exact bk_234_64  (fun _ => hx _ hs) (fun h => absurd ((le_cl (Nat.le_refl _)).mpr rfl) h)
    | succ m ih =>
      intro k hk p3 hs
      have hk2 : k < (4 : Int32).toNatClampNeg := by omega
      have ih := ih (k + 1) (by omega)
      rw [nI_succ] at ih
      have he := bx_eq hs (lp_234_64.eq_2 ..).symm
      have hg := bx_un hs (hin k hk2)
      refine bk_234_64  (fun h => absurd ((le_cl (E := 4) (i := k) (by omega)).mp h) (by omega)) (fun _ => ?_)
      have k2 := hg
      refine bk_234_69 k2 ?_
      exact ih (up2 p3 93 (nI k).toNatClampNeg (vp_nar (bT 0) (p3 83 (nI k).toNatClampNeg))) he
  exact loop _ 0 (Nat.zero_add _) _ rfl
/-- the loop at 89 of VectorShelfModel.keeps -/
def lp_234_89 (I : WI) : Nat → WI
  | 0 => I
  | k + 1 => bx (lp_234_89 I k) (fun p5 => (up2 p5 95 (nI k).toNatClampNeg (p5 79 (nI k).toNatClampNeg)))
def gl_234_89 (I : WI) (N : Nat) : Prop := (∀ k, k < N → bx (lp_234_89 I k) (fun p5 => (vp_in (nI k) 3)))
theorem lw_234_89 {l : LX} {d : Nat} {P : RP} {I : WI} {F : WF} {L : WL} {t : Nat} (hgl : gl_234_89 I ((3 : Int32).toNatClampNeg)) (hx : ∀ p5 : WI, p5 = lp_234_89 I ((3 : Int32).toNatClampNeg) → Wp l 234 (d + 0) 0 0 P 0 0 112 [] [] SH (p5, F, L, RT t)) : Wp l 234 (d + 0) 0 0 P 0 0 89 [(0, .ref 74), (1, .int 0)] [] SH (I, F, L, RT t) := by
  have hin := hgl
  have loop : ∀ m k, k + m = (3 : Int32).toNatClampNeg → ∀ p5 : WI, p5 = lp_234_89 I k → Wp l 234 (d + 0) 0 0 P 0 0 89 [(0, .ref 74), (1, .int (nI k))] [] SH (p5, F, L, RT t) := by
    intro m
    induction m with
    | zero =>
      intro k hk p5 hs
      obtain rfl : k = (3 : Int32).toNatClampNeg := by omega
      exact bk_234_89  (fun _ => hx _ hs) (fun h => absurd ((le_cl (Nat.le_refl _)).mpr rfl) h)
    | succ m ih =>
      intro k hk p5 hs
      have hk2 : k < (3 : Int32).toNatClampNeg := by omega
      have ih := ih (k + 1) (by omega)
      rw [nI_succ] at ih
      have he := bx_eq hs (lp_234_89.eq_2 ..).symm
      have hg := bx_un hs (hin k hk2)
      refine bk_234_89  (fun h => absurd ((le_cl (E := 3) (i := k) (by omega)).mp h) (by omega)) (fun _ => ?_)
      have k3 := hg
      refine bk_234_94 k3 ?_
      exact ih (up2 p5 95 (nI k).toNatClampNeg (p5 79 (nI k).toNatClampNeg)) he
  exact loop _ 0 (Nat.zero_add _) _ rfl
/-- VectorShelfModel.keeps()V -/
def v_234 (I : WI) : WI := (bx ((lp_234_2 I ((12 : Int32).toNatClampNeg)) : WI) (fun p2 => (bx ((lp_234_64 p2 ((4 : Int32).toNatClampNeg)) : WI) (fun p4 => (bx ((lp_234_89 p4 ((3 : Int32).toNatClampNeg)) : WI) (fun p6 => p6))))))
def g_234 (I : WI) : Prop := ((gl_234_2 I ((12 : Int32).toNatClampNeg)) ∧ (bx ((lp_234_2 I ((12 : Int32).toNatClampNeg)) : WI) (fun p2 => ((gl_234_64 p2 ((4 : Int32).toNatClampNeg)) ∧ (bx ((lp_234_64 p2 ((4 : Int32).toNatClampNeg)) : WI) (fun p4 => (gl_234_89 p4 ((3 : Int32).toNatClampNeg))))))))
theorem cc_234 {l : LX} {d : Nat} {I : WI} {F : WF} {L : WL} {t : Nat} (hg : g_234 I) : Con l 234 (d + 0) 0 0 [.ref 74] SH (I, F, L, RT t) (po_V_I F L t (v_234 I)) := by
  refine cn_234 ?_
  obtain ⟨T1, hT1⟩ : ∃ r : WI, r = (v_234 I) := ⟨_, rfl⟩
  rw [← hT1]
  have he := (hT1.trans (v_234.eq_1 ..)).symm
  have hg := Eq.mp (g_234.eq_1 ..) hg
  refine bk_234_0 ?_
  obtain ⟨hgX, hg⟩ := hg
  refine lw_234_2 (d := d)  hgX (fun p2 hr => ?_)
  have he := bx_eq hr he
  have hg := bx_un hr hg
  refine bk_234_62 ?_
  obtain ⟨hgX, hg⟩ := hg
  refine lw_234_64 (d := d)  hgX (fun p4 hr => ?_)
  have he := bx_eq hr he
  have hg := bx_un hr hg
  refine bk_234_87 ?_
  have hgX := hg
  refine lw_234_89 (d := d)  hgX (fun p6 hr => ?_)
  have he := bx_eq hr he
  exact bk_234_112 (rl_V_I he)
/-- the loop at 2 of VectorShelfModel.laysBack -/
def lp_235_2 (I : WI) : Nat → WI
  | 0 => I
  | k + 1 => bx (lp_235_2 I k) (fun p1 => (up2 (up2 (up2 (up2 p1 80 (nI k).toNatClampNeg (p1 90 (nI k).toNatClampNeg)) 81 (nI k).toNatClampNeg (p1 91 (nI k).toNatClampNeg)) 82 (nI k).toNatClampNeg (p1 92 (nI k).toNatClampNeg)) 86 (nI k).toNatClampNeg (p1 94 (nI k).toNatClampNeg)))
def gl_235_2 (I : WI) (N : Nat) : Prop := (∀ k, k < N → bx (lp_235_2 I k) (fun p1 => (vp_in (nI k) 12)))
theorem lw_235_2 {l : LX} {d : Nat} {P : RP} {I : WI} {F : WF} {L : WL} {t : Nat} (hgl : gl_235_2 I ((12 : Int32).toNatClampNeg)) (hx : ∀ p1 : WI, p1 = lp_235_2 I ((12 : Int32).toNatClampNeg) → Wp l 235 (d + 0) 0 0 P 0 0 62 [(0, .ref 74)] [] SH (p1, F, L, RT t)) : Wp l 235 (d + 0) 0 0 P 0 0 2 [(0, .ref 74), (1, .int 0)] [] SH (I, F, L, RT t) := by
  have hin := hgl
  have loop : ∀ m k, k + m = (12 : Int32).toNatClampNeg → ∀ p1 : WI, p1 = lp_235_2 I k → Wp l 235 (d + 0) 0 0 P 0 0 2 [(0, .ref 74), (1, .int (nI k))] [] SH (p1, F, L, RT t) := by
    intro m
    induction m with
    | zero =>
      intro k hk p1 hs
      obtain rfl : k = (12 : Int32).toNatClampNeg := by omega
      exact bk_235_2  (fun _ => hx _ hs) (fun h => absurd ((le_cl (Nat.le_refl _)).mpr rfl) h)
    | succ m ih =>
      intro k hk p1 hs
      have hk2 : k < (12 : Int32).toNatClampNeg := by omega
      have ih := ih (k + 1) (by omega)
      rw [nI_succ] at ih
      have he := bx_eq hs (lp_235_2.eq_2 ..).symm
      have hg := bx_un hs (hin k hk2)
      refine bk_235_2  (fun h => absurd ((le_cl (E := 12) (i := k) (by omega)).mp h) (by omega)) (fun _ => ?_)
      have k1 := hg
      refine bk_235_8 k1 ?_
      exact ih (up2 (up2 (up2 (up2 p1 80 (nI k).toNatClampNeg (p1 90 (nI k).toNatClampNeg)) 81 (nI k).toNatClampNeg (p1 91 (nI k).toNatClampNeg)) 82 (nI k).toNatClampNeg (p1 92 (nI k).toNatClampNeg)) 86 (nI k).toNatClampNeg (p1 94 (nI k).toNatClampNeg)) he
  exact loop _ 0 (Nat.zero_add _) _ rfl
/-- the loop at 64 of VectorShelfModel.laysBack -/
def lp_235_64 (I : WI) : Nat → WI
  | 0 => I
  | k + 1 => bx (lp_235_64 I k) (fun p3 => (up2 p3 83 (nI k).toNatClampNeg (vp_nar (bT 0) (p3 93 (nI k).toNatClampNeg))))
def gl_235_64 (I : WI) (N : Nat) : Prop := (∀ k, k < N → bx (lp_235_64 I k) (fun p3 => (vp_in (nI k) 4)))
theorem lw_235_64 {l : LX} {d : Nat} {P : RP} {I : WI} {F : WF} {L : WL} {t : Nat} (hgl : gl_235_64 I ((4 : Int32).toNatClampNeg)) (hx : ∀ p3 : WI, p3 = lp_235_64 I ((4 : Int32).toNatClampNeg) → Wp l 235 (d + 0) 0 0 P 0 0 87 [(0, .ref 74)] [] SH (p3, F, L, RT t)) : Wp l 235 (d + 0) 0 0 P 0 0 64 [(0, .ref 74), (1, .int 0)] [] SH (I, F, L, RT t) := by
  have hin := hgl
  have loop : ∀ m k, k + m = (4 : Int32).toNatClampNeg → ∀ p3 : WI, p3 = lp_235_64 I k → Wp l 235 (d + 0) 0 0 P 0 0 64 [(0, .ref 74), (1, .int (nI k))] [] SH (p3, F, L, RT t) := by
    intro m
    induction m with
    | zero =>
      intro k hk p3 hs
      obtain rfl : k = (4 : Int32).toNatClampNeg := by omega
      exact bk_235_64  (fun _ => hx _ hs) (fun h => absurd ((le_cl (Nat.le_refl _)).mpr rfl) h)
    | succ m ih =>
      intro k hk p3 hs
      have hk2 : k < (4 : Int32).toNatClampNeg := by omega
      have ih := ih (k + 1) (by omega)
      rw [nI_succ] at ih
      have he := bx_eq hs (lp_235_64.eq_2 ..).symm
      have hg := bx_un hs (hin k hk2)
      refine bk_235_64  (fun h => absurd ((le_cl (E := 4) (i := k) (by omega)).mp h) (by omega)) (fun _ => ?_)
      have k2 := hg
      refine bk_235_69 k2 ?_
      exact ih (up2 p3 83 (nI k).toNatClampNeg (vp_nar (bT 0) (p3 93 (nI k).toNatClampNeg))) he
  exact loop _ 0 (Nat.zero_add _) _ rfl
/-- the loop at 89 of VectorShelfModel.laysBack -/
def lp_235_89 (I : WI) : Nat → WI
  | 0 => I
  | k + 1 => bx (lp_235_89 I k) (fun p5 => (up2 p5 79 (nI k).toNatClampNeg (p5 95 (nI k).toNatClampNeg)))
def gl_235_89 (I : WI) (N : Nat) : Prop := (∀ k, k < N → bx (lp_235_89 I k) (fun p5 => (vp_in (nI k) 3)))
theorem lw_235_89 {l : LX} {d : Nat} {P : RP} {I : WI} {F : WF} {L : WL} {t : Nat} (hgl : gl_235_89 I ((3 : Int32).toNatClampNeg)) (hx : ∀ p5 : WI, p5 = lp_235_89 I ((3 : Int32).toNatClampNeg) → Wp l 235 (d + 0) 0 0 P 0 0 112 [] [] SH (p5, F, L, RT t)) : Wp l 235 (d + 0) 0 0 P 0 0 89 [(0, .ref 74), (1, .int 0)] [] SH (I, F, L, RT t) := by
  have hin := hgl
  have loop : ∀ m k, k + m = (3 : Int32).toNatClampNeg → ∀ p5 : WI, p5 = lp_235_89 I k → Wp l 235 (d + 0) 0 0 P 0 0 89 [(0, .ref 74), (1, .int (nI k))] [] SH (p5, F, L, RT t) := by
    intro m
    induction m with
    | zero =>
      intro k hk p5 hs
      obtain rfl : k = (3 : Int32).toNatClampNeg := by omega
      exact bk_235_89  (fun _ => hx _ hs) (fun h => absurd ((le_cl (Nat.le_refl _)).mpr rfl) h)
    | succ m ih =>
      intro k hk p5 hs
      have hk2 : k < (3 : Int32).toNatClampNeg := by omega
      have ih := ih (k + 1) (by omega)
      rw [nI_succ] at ih
      have he := bx_eq hs (lp_235_89.eq_2 ..).symm
      have hg := bx_un hs (hin k hk2)
      refine bk_235_89  (fun h => absurd ((le_cl (E := 3) (i := k) (by omega)).mp h) (by omega)) (fun _ => ?_)
      have k3 := hg
      refine bk_235_94 k3 ?_
      exact ih (up2 p5 79 (nI k).toNatClampNeg (p5 95 (nI k).toNatClampNeg)) he
  exact loop _ 0 (Nat.zero_add _) _ rfl
/-- VectorShelfModel.laysBack()V -/
def v_235 (I : WI) : WI := (bx ((lp_235_2 I ((12 : Int32).toNatClampNeg)) : WI) (fun p2 => (bx ((lp_235_64 p2 ((4 : Int32).toNatClampNeg)) : WI) (fun p4 => (bx ((lp_235_89 p4 ((3 : Int32).toNatClampNeg)) : WI) (fun p6 => p6))))))
def g_235 (I : WI) : Prop := ((gl_235_2 I ((12 : Int32).toNatClampNeg)) ∧ (bx ((lp_235_2 I ((12 : Int32).toNatClampNeg)) : WI) (fun p2 => ((gl_235_64 p2 ((4 : Int32).toNatClampNeg)) ∧ (bx ((lp_235_64 p2 ((4 : Int32).toNatClampNeg)) : WI) (fun p4 => (gl_235_89 p4 ((3 : Int32).toNatClampNeg))))))))
theorem cc_235 {l : LX} {d : Nat} {I : WI} {F : WF} {L : WL} {t : Nat} (hg : g_235 I) : Con l 235 (d + 0) 0 0 [.ref 74] SH (I, F, L, RT t) (po_V_I F L t (v_235 I)) := by
  refine cn_235 ?_
  obtain ⟨T1, hT1⟩ : ∃ r : WI, r = (v_235 I) := ⟨_, rfl⟩
  rw [← hT1]
  have he := (hT1.trans (v_235.eq_1 ..)).symm
  have hg := Eq.mp (g_235.eq_1 ..) hg
  refine bk_235_0 ?_
  obtain ⟨hgX, hg⟩ := hg
  refine lw_235_2 (d := d)  hgX (fun p2 hr => ?_)
  have he := bx_eq hr he
  have hg := bx_un hr hg
  refine bk_235_62 ?_
  obtain ⟨hgX, hg⟩ := hg
  refine lw_235_64 (d := d)  hgX (fun p4 hr => ?_)
  have he := bx_eq hr he
  have hg := bx_un hr hg
  refine bk_235_87 ?_
  have hgX := hg
  refine lw_235_89 (d := d)  hgX (fun p6 hr => ?_)
  have he := bx_eq hr he
  exact bk_235_112 (rl_V_I he)
/-- VectorShelfModel.isAhead(II)Z -/
def v_242 (I : WI) (x1 : Int32) (x2 : Int32) : Int32 := (if (I 96 x1.toNatClampNeg) < (I 96 x2.toNatClampNeg) then 1 else (if ¬ (I 96 x1.toNatClampNeg) = (I 96 x2.toNatClampNeg) then 0 else (if x2 ≤ x1 then 0 else 1)))
def g_242 (I : WI) (x1 : Int32) (x2 : Int32) : Prop := ((vp_in x1 12) ∧ ((vp_in x2 12) ∧ (¬ ((I 96 x1.toNatClampNeg) < (I 96 x2.toNatClampNeg)) → ((vp_in x1 12) ∧ (vp_in x2 12)))))
theorem cc_242 {l : LX} {d : Nat} {I : WI} {F : WF} {L : WL} {t : Nat} {x1 : Int32} {x2 : Int32} (hg : g_242 I x1 x2) : Con l 242 (d + 0) 0 0 [.ref 74, .int x1, .int x2] SH (I, F, L, RT t) (rI (v_242 I x1 x2) (I, F, L, RT t)) := by
  refine cn_242 ?_
  obtain ⟨T1, hT1⟩ : ∃ r : Int32, r = (v_242 I x1 x2) := ⟨_, rfl⟩
  rw [← hT1]
  have he := (hT1.trans (v_242.eq_1 ..)).symm
  have hg := Eq.mp (g_242.eq_1 ..) hg
  obtain ⟨k1, k2, hg⟩ := hg
  refine bk_242_0 k1 k2 (fun h3 => ?_) (fun h3 => ?_)
  · have he := ite_p h3 he
    refine bk_242_35 ?_
    exact bk_242_40 (by decide) (rl_p_I he)
  · have he := ite_n h3 he
    have hg := hg h3
    obtain ⟨k4, k5⟩ := hg
    refine bk_242_15 k4 k5 (fun h6 => ?_) (fun h6 => ?_)
    · have he := ite_p h6 he
      refine bk_242_39 ?_
      exact bk_242_40 (by decide) (rl_p_I he)
    · have he := ite_n h6 he
      refine bk_242_30 (fun h7 => ?_) (fun h7 => ?_)
      · have he := ite_p h7 he
        refine bk_242_39 ?_
        exact bk_242_40 (by decide) (rl_p_I he)
      · have he := ite_n h7 he
        refine bk_242_35 ?_
        exact bk_242_40 (by decide) (rl_p_I he)
theorem sb_242 (I : WI) (x1 : Int32) (x2 : Int32) : (v_242 I x1 x2) &&& 1 = (v_242 I x1 x2) := by
  unfold v_242
  repeat' split
  all_goals first | rfl
/-- the loop at 4 of VectorShelfModel.bitsOf -/
def lp_251_4 : Nat → Int32 → Int32 → Int32
  | 0, x1, x2 => x1
  | k + 1, x1, x2 => (if x2 = 0 then x1 else (lp_251_4 k (x1 + 1) (x2 &&& (x2 - 1))))
def gl_251_4 : Nat → Int32 → Int32 → Prop
  | 0, _, _ => False
  | k + 1, x1, x2 => (¬ (x2 = 0) → (gl_251_4 k (x1 + 1) (x2 &&& (x2 - 1))))
theorem lw_251_4 {l : LX} {d : Nat} {P : RP} {I : WI} {F : WF} {L : WL} {t : Nat} : ∀ k : Nat, ∀ (x1 : Int32) (x2 : Int32), gl_251_4 k x1 x2 → (∀ r : Int32, r = lp_251_4 k x1 x2 → Wp l 251 (d + 0) 0 0 P 0 0 20 [(1, .int r)] [] SH (I, F, L, RT t)) → Wp l 251 (d + 0) 0 0 P 0 0 4 [(1, .int x1), (2, .int x2)] [] SH (I, F, L, RT t) := by
  intro k
  induction k with
  | zero =>
    intro x1 x2 hg hx
    exact hg.elim
  | succ k ih =>
    intro x1 x2 hg hx
    have hg := Eq.mp (gl_251_4.eq_2 ..) hg
    obtain ⟨T1, hT1⟩ : ∃ r : Int32, r = lp_251_4 (k + 1) x1 x2 := ⟨_, rfl⟩
    have hx : ∀ r : Int32, r = T1 → Wp l 251 (d + 0) 0 0 P 0 0 20 [(1, .int r)] [] SH (I, F, L, RT t) := fun r hr => hx r (hr.trans hT1)
    have he := (hT1.trans (lp_251_4.eq_2 ..)).symm
    refine bk_251_4 (fun h1 => ?_) (fun h1 => ?_)
    · have he := ite_p h1 he
      exact hx x1 he
    · have he := ite_n h1 he
      have hg := hg h1
      refine bk_251_8 ?_
      exact ih (x1 + 1) (x2 &&& (x2 - 1)) hg (fun r hr => hx r (hr.trans he))
/-- VectorShelfModel.bitsOf(I)I -/
def v_251 (x0 : Int32) : Int32 := (bx ((lp_251_4 400 (0 : Int32) x0) : Int32) (fun p1 => p1))
def g_251 (x0 : Int32) : Prop := (gl_251_4 400 (0 : Int32) x0)
theorem cc_251 {l : LX} {d : Nat} {I : WI} {F : WF} {L : WL} {t : Nat} {x0 : Int32} (hg : g_251 x0) : Con l 251 (d + 0) 0 0 [.int x0] SH (I, F, L, RT t) (rI (v_251 x0) (I, F, L, RT t)) := by
  refine cn_251 ?_
  obtain ⟨T1, hT1⟩ : ∃ r : Int32, r = (v_251 x0) := ⟨_, rfl⟩
  rw [← hT1]
  have he := (hT1.trans (v_251.eq_1 ..)).symm
  have hg := Eq.mp (g_251.eq_1 ..) hg
  refine bk_251_0 ?_
  have hgX := hg
  refine lw_251_4 (d := d)  400 (0 : Int32) x0 hgX (fun p1 hr => ?_)
  have he := bx_eq hr he
  exact bk_251_20 (rl_p_I he)
/-- the loop at 2 of VectorShelfModel.isServed -/
def lp_252_2 (I : WI) (x1 : Int32) : Nat → Int32 → Int32
  | 0, x2 => 0
  | k + 1, x2 => (if (I 74 18) ≤ x2 then 1 else (if (v_180 I x2) = 0 then (lp_252_2 I x1 k (x2 + 1)) else (if ¬ ((I 100 x2.toNatClampNeg) &&& x1) = 0 then (lp_252_2 I x1 k (x2 + 1)) else 0)))
def gl_252_2 (I : WI) (x1 : Int32) : Nat → Int32 → Prop
  | 0, _ => False
  | k + 1, x2 => (¬ ((I 74 18) ≤ x2) → ((g_180 I x2) ∧ ((((v_180 I x2) = 0) → (gl_252_2 I x1 k (x2 + 1))) ∧ (¬ ((v_180 I x2) = 0) → ((vp_in x2 12) ∧ ((¬ ((I 100 x2.toNatClampNeg) &&& x1) = 0) → (gl_252_2 I x1 k (x2 + 1))))))))
theorem lw_252_2 {l : LX} {d : Nat} {I : WI} {F : WF} {L : WL} {t : Nat} {x1 : Int32} : ∀ k : Nat, ∀ (x2 : Int32), gl_252_2 I x1 k x2 → Wp l 252 (d + 1) 0 0 (rI (lp_252_2 I x1 k x2) (I, F, L, RT t)) 0 0 2 [(0, .ref 74), (1, .int x1), (2, .int x2)] [] SH (I, F, L, RT t) := by
  intro k
  induction k with
  | zero =>
    intro x2 hg
    exact hg.elim
  | succ k ih =>
    intro x2 hg
    have hg := Eq.mp (gl_252_2.eq_2 ..) hg
    obtain ⟨T1, hT1⟩ : ∃ r : Int32, r = lp_252_2 I x1 (k + 1) x2 := ⟨_, rfl⟩
    rw [← hT1]
    have he := (hT1.trans (lp_252_2.eq_2 ..)).symm
    refine bk_252_2 (fun h1 => ?_) (fun h1 => ?_)
    · have he := ite_p h1 he
      exact bk_252_37 (rl_p_I he)
    · have he := ite_n h1 he
      have hg := hg h1
      obtain ⟨k2, hg⟩ := hg
      refine bk_252_10 (cc_180 (d := d + 0)  k2) ?_
      refine bk_252_15 (fun h3 => ?_) (fun h3 => ?_)
      · have he := ite_p h3 he
        have hg := hg.1 h3
        refine bk_252_31 ?_
        exact Wp_eq (post := fun r => (rI r (I, F, L, RT t))) he (ih (x2 + 1) hg)
      · have he := ite_n h3 he
        have hg := hg.2 h3
        obtain ⟨k4, hg⟩ := hg
        refine bk_252_18 k4 (fun h5 => ?_) (fun h5 => ?_)
        · have he := ite_p h5 he
          have hg := hg h5
          refine bk_252_31 ?_
          exact Wp_eq (post := fun r => (rI r (I, F, L, RT t))) he (ih (x2 + 1) hg)
        · have he := ite_n h5 he
          exact bk_252_29 (rl_p_I he)
/-- VectorShelfModel.isServed(I)Z -/
def v_252 (I : WI) (x1 : Int32) : Int32 := (lp_252_2 I x1 400 (0 : Int32))
def g_252 (I : WI) (x1 : Int32) : Prop := (gl_252_2 I x1 400 (0 : Int32))
theorem cc_252 {l : LX} {d : Nat} {I : WI} {F : WF} {L : WL} {t : Nat} {x1 : Int32} (hg : g_252 I x1) : Con l 252 (d + 1) 0 0 [.ref 74, .int x1] SH (I, F, L, RT t) (rI (v_252 I x1) (I, F, L, RT t)) := by
  refine cn_252 ?_
  obtain ⟨T1, hT1⟩ : ∃ r : Int32, r = (v_252 I x1) := ⟨_, rfl⟩
  rw [← hT1]
  have he := (hT1.trans (v_252.eq_1 ..)).symm
  have hg := Eq.mp (g_252.eq_1 ..) hg
  refine bk_252_0 ?_
  exact Wp_eq (post := fun r => (rI r (I, F, L, RT t))) he (lw_252_2 (d := d)  400 (0 : Int32) hg)
/-- the loop at 2 of VectorShelfModel.goesTo -/
def lp_257_2 (I : WI) (x1 : Int32) : Nat → WI
  | 0 => I
  | k + 1 => bx (lp_257_2 I x1 k) (fun p1 => (bx ((if (p1 74 18) ≤ x1 then 0 else (p1 84 ((3 * x1) + (nI k)).toNatClampNeg)) : Int32) (fun p2 => (up2 p1 79 (nI k).toNatClampNeg p2))))
def gl_257_2 (I : WI) (x1 : Int32) (N : Nat) : Prop := (∀ k, k < N → bx (lp_257_2 I x1 k) (fun p1 => ((¬ ((p1 74 18) ≤ x1) → (vp_in ((3 * x1) + (nI k)) 36)) ∧ (bx ((if (p1 74 18) ≤ x1 then 0 else (p1 84 ((3 * x1) + (nI k)).toNatClampNeg)) : Int32) (fun p2 => (vp_in (nI k) 3))))))
theorem lw_257_2 {l : LX} {d : Nat} {P : RP} {I : WI} {F : WF} {L : WL} {t : Nat} {x1 : Int32} (hgl : gl_257_2 I x1 ((3 : Int32).toNatClampNeg)) (hx : ∀ p1 : WI, p1 = lp_257_2 I x1 ((3 : Int32).toNatClampNeg) → Wp l 257 (d + 0) 0 0 P 0 0 41 [] [] SH (p1, F, L, RT t)) : Wp l 257 (d + 0) 0 0 P 0 0 2 [(0, .ref 74), (1, .int x1), (2, .int 0)] [] SH (I, F, L, RT t) := by
  have hin := hgl
  have loop : ∀ m k, k + m = (3 : Int32).toNatClampNeg → ∀ p1 : WI, p1 = lp_257_2 I x1 k → Wp l 257 (d + 0) 0 0 P 0 0 2 [(0, .ref 74), (1, .int x1), (2, .int (nI k))] [] SH (p1, F, L, RT t) := by
    intro m
    induction m with
    | zero =>
      intro k hk p1 hs
      obtain rfl : k = (3 : Int32).toNatClampNeg := by omega
      exact bk_257_2  (fun _ => hx _ hs) (fun h => absurd ((le_cl (Nat.le_refl _)).mpr rfl) h)
    | succ m ih =>
      intro k hk p1 hs
      have hk2 : k < (3 : Int32).toNatClampNeg := by omega
      have ih := ih (k + 1) (by omega)
      rw [nI_succ] at ih
      have he := bx_eq hs (lp_257_2.eq_2 ..).symm
      have hg := bx_un hs (hin k hk2)
      refine bk_257_2  (fun h => absurd ((le_cl (E := 3) (i := k) (by omega)).mp h) (by omega)) (fun _ => ?_)
      obtain ⟨hgX, hg⟩ := hg
      obtain ⟨X1, hX1⟩ : ∃ r : Int32, r = (if (p1 74 18) ≤ x1 then 0 else (p1 84 ((3 * x1) + (nI k)).toNatClampNeg)) := ⟨_, rfl⟩
      have J1 : ∀ p2 : Int32, p2 = X1 → Wp l 257 (d + 0) 0 0 P 0 0 34 [(0, .ref 74), (1, .int x1), (2, .int (nI k))] [.int p2, .int (nI k), .ref 79] SH (p1, F, L, RT t) := by
        intro p2 hr
        have hr := hr.trans hX1
        have he := bx_eq hr he
        have hg := bx_un hr hg
        have k3 := hg
        refine bk_257_34 k3 ?_
        exact ih (up2 p1 79 (nI k).toNatClampNeg p2) he
      have he := hX1.symm
      have hg := hgX
      refine bk_257_7 (fun h1 => ?_) (fun h1 => ?_)
      · have he := ite_p h1 he
        refine bk_257_33 ?_
        exact J1 0 he
      · have he := ite_n h1 he
        have hg := hg h1
        have k2 := hg
        refine bk_257_20 k2 ?_
        exact J1 (p1 84 ((3 * x1) + (nI k)).toNatClampNeg) he
  exact loop _ 0 (Nat.zero_add _) _ rfl
/-- VectorShelfModel.goesTo(I)V -/
def v_257 (I : WI) (x1 : Int32) : WI := (bx ((lp_257_2 I x1 ((3 : Int32).toNatClampNeg)) : WI) (fun p3 => p3))
def g_257 (I : WI) (x1 : Int32) : Prop := (gl_257_2 I x1 ((3 : Int32).toNatClampNeg))
theorem cc_257 {l : LX} {d : Nat} {I : WI} {F : WF} {L : WL} {t : Nat} {x1 : Int32} (hg : g_257 I x1) : Con l 257 (d + 0) 0 0 [.ref 74, .int x1] SH (I, F, L, RT t) (po_V_I F L t (v_257 I x1)) := by
  refine cn_257 ?_
  obtain ⟨T1, hT1⟩ : ∃ r : WI, r = (v_257 I x1) := ⟨_, rfl⟩
  rw [← hT1]
  have he := (hT1.trans (v_257.eq_1 ..)).symm
  have hg := Eq.mp (g_257.eq_1 ..) hg
  refine bk_257_0 ?_
  have hgX := hg
  refine lw_257_2 (d := d)  hgX (fun p3 hr => ?_)
  have he := bx_eq hr he
  exact bk_257_41 (rl_V_I he)
end
