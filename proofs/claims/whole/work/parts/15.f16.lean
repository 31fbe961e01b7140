section
/-- the loop at 5 of VectorShelfModel.nearestIn -/
def lp_249_5 (I : WI) (x1 : Int32) (x2 : Int32) (a3 : Int32) : Nat → Int32
  | 0 => a3
  | k + 1 => bx (lp_249_5 I x1 x2 a3 k) (fun p1 => (bx ((if ¬ ((x2 >>> ((nI k) &&& 31)) &&& 1) = 1 then (-1) else (v_183 I x1 (nI k))) : Int32) (fun p2 => (bx ((if p2 = (-1) then p1 else (if p1 = (-1) then p2 else (if p1 ≤ p2 then p1 else p2))) : Int32) (fun p3 => p3)))))
def gl_249_5 (I : WI) (x1 : Int32) (x2 : Int32) (a3 : Int32) (N : Nat) : Prop := (∀ k, k < N → bx (lp_249_5 I x1 x2 a3 k) (fun p1 => (¬ (¬ ((x2 >>> ((nI k) &&& 31)) &&& 1) = 1) → (g_183 I x1 (nI k)))))
theorem lw_249_5 {l : LX} {d : Nat} {P : RP} {I : WI} {F : WF} {L : WL} {t : Nat} {x1 : Int32} {x2 : Int32} {a3 : Int32} (hgl : gl_249_5 I x1 x2 a3 ((I 74 18).toNatClampNeg)) (hx : ∀ p1 : Int32, p1 = lp_249_5 I x1 x2 a3 ((I 74 18).toNatClampNeg) → Wp l 249 (d + 4) 0 0 P 0 0 63 [(3, .int p1)] [] SH (I, F, L, RT t)) : Wp l 249 (d + 4) 0 0 P 0 0 5 [(0, .ref 74), (1, .int x1), (2, .int x2), (3, .int a3), (4, .int 0)] [] SH (I, F, L, RT t) := by
  have hin := hgl
  have loop : ∀ m k, k + m = (I 74 18).toNatClampNeg → ∀ p1 : Int32, p1 = lp_249_5 I x1 x2 a3 k → Wp l 249 (d + 4) 0 0 P 0 0 5 [(0, .ref 74), (1, .int x1), (2, .int x2), (3, .int p1), (4, .int (nI k))] [] SH (I, F, L, RT t) := by
    intro m
    induction m with
    | zero =>
      intro k hk p1 hs
      obtain rfl : k = (I 74 18).toNatClampNeg := by omega
      exact bk_249_5  (fun _ => hx _ hs) (fun h => absurd ((le_cl (Nat.le_refl _)).mpr rfl) h)
    | succ m ih =>
      intro k hk p1 hs
      have hk2 : k < (I 74 18).toNatClampNeg := by omega
      have ih := ih (k + 1) (by omega)
      rw [nI_succ] at ih
      have he := bx_eq hs (lp_249_5.eq_2 ..).symm
      have hg := bx_un hs (hin k hk2)
      refine bk_249_5  (fun h => absurd ((le_cl (E := (I 74 18)) (i := k) (by omega)).mp h) (by omega)) (fun _ => ?_)
      have hgX := hg
      obtain ⟨X1, hX1⟩ : ∃ r : Int32, r = (if ¬ ((x2 >>> ((nI k) &&& 31)) &&& 1) = 1 then (-1) else (v_183 I x1 (nI k))) := ⟨_, rfl⟩
      have J1 : ∀ p2 : Int32, p2 = X1 → Wp l 249 (d + 4) 0 0 P 0 0 35 [(0, .ref 74), (1, .int x1), (2, .int x2), (3, .int p1), (4, .int (nI k))] [.int p2] SH (I, F, L, RT t) := by
        intro p2 hr
        have hr := hr.trans hX1
        have he := bx_eq hr he
        obtain ⟨X2, hX2⟩ : ∃ r : Int32, r = (if p2 = (-1) then p1 else (if p1 = (-1) then p2 else (if p1 ≤ p2 then p1 else p2))) := ⟨_, rfl⟩
        have J2 : ∀ p3 : Int32, p3 = X2 → Wp l 249 (d + 4) 0 0 P 0 0 57 [(0, .ref 74), (1, .int x1), (2, .int x2), (3, .int p3), (4, .int (nI k))] [] SH (I, F, L, RT t) := by
          intro p3 hr
          have hr := hr.trans hX2
          have he := bx_eq hr he
          refine bk_249_57 ?_
          exact ih p3 he
        have he := hX2.symm
        refine bk_249_35 (fun h3 => ?_) (fun h3 => ?_)
        · have he := ite_p h3 he
          exact J2 p1 he
        · have he := ite_n h3 he
          refine bk_249_43 (fun h4 => ?_) (fun h4 => ?_)
          · have he := ite_p h4 he
            refine bk_249_54 ?_
            exact J2 p2 he
          · have he := ite_n h4 he
            refine bk_249_48 (fun h5 => ?_) (fun h5 => ?_)
            · have he := ite_p h5 he
              exact J2 p1 he
            · have he := ite_n h5 he
              refine bk_249_54 ?_
              exact J2 p2 he
      have he := hX1.symm
      have hg := hgX
      refine bk_249_14 (fun h1 => ?_) (fun h1 => ?_)
      · have he := ite_p h1 he
        refine bk_249_34 ?_
        exact J1 (-1) he
      · have he := ite_n h1 he
        have hg := hg h1
        have k2 := hg
        refine bk_249_24 (cc_183 (d := d + 0)  k2) ?_
        refine bk_249_31 ?_
        exact J1 (v_183 I x1 (nI k)) he
  exact loop _ 0 (Nat.zero_add _) _ rfl
/-- VectorShelfModel.nearestIn(II)I -/
def v_249 (I : WI) (x1 : Int32) (x2 : Int32) : Int32 := (bx ((lp_249_5 I x1 x2 ((-1) : Int32) ((I 74 18).toNatClampNeg)) : Int32) (fun p4 => p4))
def g_249 (I : WI) (x1 : Int32) (x2 : Int32) : Prop := (gl_249_5 I x1 x2 ((-1) : Int32) ((I 74 18).toNatClampNeg))
theorem cc_249 {l : LX} {d : Nat} {I : WI} {F : WF} {L : WL} {t : Nat} {x1 : Int32} {x2 : Int32} (hg : g_249 I x1 x2) : Con l 249 (d + 4) 0 0 [.ref 74, .int x1, .int x2] SH (I, F, L, RT t) (rI (v_249 I x1 x2) (I, F, L, RT t)) := by
  refine cn_249 ?_
  obtain ⟨T1, hT1⟩ : ∃ r : Int32, r = (v_249 I x1 x2) := ⟨_, rfl⟩
  rw [← hT1]
  have he := (hT1.trans (v_249.eq_1 ..)).symm
  have hg := Eq.mp (g_249.eq_1 ..) hg
  refine bk_249_0 ?_
  have hgX := hg
  refine lw_249_5 (d := d)  hgX (fun p4 hr => ?_)
  have he := bx_eq hr he
  exact bk_249_63 (rl_p_I he)
/-- the loop at 70 of VectorShelfModel.cover -/
def lp_250_70 (I : WI) (x1 : Int32) (x4 : Int32) : Nat → WI
  | 0 => I
  | k + 1 => bx (lp_250_70 I x1 x4 k) (fun p3 => (bx ((if (v_180 p3 (nI k)) = 0 then 0 else (if x1 < (v_183 p3 x4 (nI k)) then 0 else 1)) : Int32) (fun p4 => (up2 p3 100 x4.toNatClampNeg ((p3 100 x4.toNatClampNeg) ||| (p4 <<< ((nI k) &&& 31)))))))
def gl_250_70 (I : WI) (x1 : Int32) (x4 : Int32) (N : Nat) : Prop := ((∀ k, k < N → bx (lp_250_70 I x1 x4 k) (fun p3 => (((p3 74 18) = (I 74 18)) ∧ ((vp_in x4 12) ∧ ((g_180 p3 (nI k)) ∧ ((¬ ((v_180 p3 (nI k)) = 0) → (g_183 p3 x4 (nI k))) ∧ (bx ((if (v_180 p3 (nI k)) = 0 then 0 else (if x1 < (v_183 p3 x4 (nI k)) then 0 else 1)) : Int32) (fun p4 => (vp_in x4 12))))))))) ∧ (bx (lp_250_70 I x1 x4 N) (fun p3 => (p3 74 18) = (I 74 18))))
theorem lw_250_70 {l : LX} {d : Nat} {P : RP} {I : WI} {F : WF} {L : WL} {t : Nat} {x1 : Int32} {x2 : Int32} {x3 : Int32} {x4 : Int32} (hgl : gl_250_70 I x1 x4 ((I 74 18).toNatClampNeg)) (hx : ∀ p3 : WI, p3 = lp_250_70 I x1 x4 ((I 74 18).toNatClampNeg) → Wp l 250 (d + 4) 0 0 P 0 0 124 [(0, .ref 74), (1, .int x1), (2, .int x2), (3, .int x3), (4, .int x4)] [] SH (p3, F, L, RT t)) : Wp l 250 (d + 4) 0 0 P 0 0 70 [(0, .ref 74), (1, .int x1), (2, .int x2), (3, .int x3), (4, .int x4), (5, .int 0)] [] SH (I, F, L, RT t) := by
  obtain ⟨hin, hend⟩ := hgl
  have loop : ∀ m k, k + m = (I 74 18).toNatClampNeg → ∀ p3 : WI, p3 = lp_250_70 I x1 x4 k → Wp l 250 (d + 4) 0 0 P 0 0 70 [(0, .ref 74), (1, .int x1), (2, .int x2), (3, .int x3), (4, .int x4), (5, .int (nI k))] [] SH (p3, F, L, RT t) := by
    intro m
    induction m with
    | zero =>
      intro k hk p3 hs
      obtain rfl : k = (I 74 18).toNatClampNeg := by omega
      have hE := bx_un hs hend
      exact bk_250_70  (fun _ => hx _ hs) (fun h => absurd ((show (p3 74 18) ≤ (nI ((I 74 18).toNatClampNeg)) from by rw [show (p3 74 18) = (I 74 18) from hE]; exact (le_cl (Nat.le_refl _)).mpr rfl)) h)
    | succ m ih =>
      intro k hk p3 hs
      have hk2 : k < (I 74 18).toNatClampNeg := by omega
      have ih := ih (k + 1) (by omega)
      rw [nI_succ] at ih
      have he := bx_eq hs (lp_250_70.eq_2 ..).symm
      have hg := bx_un hs (hin k hk2)
      have hE : (p3 74 18) = (I 74 18) := hg.1
      have hg := hg.2
      refine bk_250_70  (fun h => absurd ((le_cl (E := (I 74 18)) (i := k) (by omega)).mp (by rw [show (p3 74 18) = (I 74 18) from hE] at h; exact h)) (by omega)) (fun _ => ?_)
      obtain ⟨k8, k9, hg⟩ := hg
      refine bk_250_79 k8 (cc_180 (d := d + 3)  k9) ?_
      obtain ⟨hgX, hg⟩ := hg
      obtain ⟨X2, hX2⟩ : ∃ r : Int32, r = (if (v_180 p3 (nI k)) = 0 then 0 else (if x1 < (v_183 p3 x4 (nI k)) then 0 else 1)) := ⟨_, rfl⟩
      have J2 : ∀ p4 : Int32, p4 = X2 → Wp l 250 (d + 4) 0 0 P 0 0 113 [(0, .ref 74), (1, .int x1), (2, .int x2), (3, .int x3), (4, .int x4), (5, .int (nI k))] [.int p4, .int (p3 100 x4.toNatClampNeg), .int x4, .ref 100] SH (p3, F, L, RT t) := by
        intro p4 hr
        have hr := hr.trans hX2
        have he := bx_eq hr he
        have hg := bx_un hr hg
        have k13 := hg
        refine bk_250_113 k13 ?_
        exact ih (up2 p3 100 x4.toNatClampNeg ((p3 100 x4.toNatClampNeg) ||| (p4 <<< ((nI k) &&& 31)))) he
      have he := hX2.symm
      have hg := hgX
      refine bk_250_93 (fun h10 => ?_) (fun h10 => ?_)
      · have he := ite_p h10 he
        refine bk_250_112 ?_
        exact J2 0 he
      · have he := ite_n h10 he
        have hg := hg h10
        have k11 := hg
        refine bk_250_96 (cc_183 (d := d + 0)  k11) ?_
        refine bk_250_104 (fun h12 => ?_) (fun h12 => ?_)
        · have he := ite_p h12 he
          refine bk_250_112 ?_
          exact J2 0 he
        · have he := ite_n h12 he
          refine bk_250_108 ?_
          exact J2 1 he
  exact loop _ 0 (Nat.zero_add _) _ rfl
/-- the loop at 30 of VectorShelfModel.cover -/
def lp_250_30 (I : WI) (x1 : Int32) (a3 : Int32) : Nat → Int32 × WI
  | 0 => (a3, I)
  | k + 1 => bx (lp_250_30 I x1 a3 k) (fun p1 => (bx ((if (v_180 p1.2 (nI k)) = 0 then 0 else 1) : Int32) (fun p2 => (bx ((lp_250_70 (up2 p1.2 100 (nI k).toNatClampNeg 0) x1 (nI k) (((up2 p1.2 100 (nI k).toNatClampNeg 0) 74 18).toNatClampNeg)) : WI) (fun p5 => ((p1.1 ||| (p2 <<< ((nI k) &&& 31))), p5))))))
def gl_250_30 (I : WI) (x1 : Int32) (a3 : Int32) (N : Nat) : Prop := ((∀ k, k < N → bx (lp_250_30 I x1 a3 k) (fun p1 => (((p1.2 74 18) = (I 74 18)) ∧ ((g_180 p1.2 (nI k)) ∧ (bx ((if (v_180 p1.2 (nI k)) = 0 then 0 else 1) : Int32) (fun p2 => ((vp_in (nI k) 12) ∧ (gl_250_70 (up2 p1.2 100 (nI k).toNatClampNeg 0) x1 (nI k) (((up2 p1.2 100 (nI k).toNatClampNeg 0) 74 18).toNatClampNeg))))))))) ∧ (bx (lp_250_30 I x1 a3 N) (fun p1 => (p1.2 74 18) = (I 74 18))))
theorem lw_250_30 {l : LX} {d : Nat} {P : RP} {I : WI} {F : WF} {L : WL} {t : Nat} {x1 : Int32} {x2 : Int32} {a3 : Int32} (hgl : gl_250_30 I x1 a3 ((I 74 18).toNatClampNeg)) (hx : ∀ p1 : Int32 × WI, p1 = lp_250_30 I x1 a3 ((I 74 18).toNatClampNeg) → Wp l 250 (d + 4) 0 0 P 0 0 130 [(0, .ref 74), (2, .int x2), (3, .int p1.1)] [] SH (p1.2, F, L, RT t)) : Wp l 250 (d + 4) 0 0 P 0 0 30 [(0, .ref 74), (1, .int x1), (2, .int x2), (3, .int a3), (4, .int 0)] [] SH (I, F, L, RT t) := by
  obtain ⟨hin, hend⟩ := hgl
  have loop : ∀ m k, k + m = (I 74 18).toNatClampNeg → ∀ p1 : Int32 × WI, p1 = lp_250_30 I x1 a3 k → Wp l 250 (d + 4) 0 0 P 0 0 30 [(0, .ref 74), (1, .int x1), (2, .int x2), (3, .int p1.1), (4, .int (nI k))] [] SH (p1.2, F, L, RT t) := by
    intro m
    induction m with
    | zero =>
      intro k hk p1 hs
      obtain rfl : k = (I 74 18).toNatClampNeg := by omega
      have hE := bx_un hs hend
      exact bk_250_30  (fun _ => hx _ hs) (fun h => absurd ((show (p1.2 74 18) ≤ (nI ((I 74 18).toNatClampNeg)) from by rw [show (p1.2 74 18) = (I 74 18) from hE]; exact (le_cl (Nat.le_refl _)).mpr rfl)) h)
    | succ m ih =>
      intro k hk p1 hs
      have hk2 : k < (I 74 18).toNatClampNeg := by omega
      have ih := ih (k + 1) (by omega)
      rw [nI_succ] at ih
      have he := bx_eq hs (lp_250_30.eq_2 ..).symm
      have hg := bx_un hs (hin k hk2)
      have hE : (p1.2 74 18) = (I 74 18) := hg.1
      have hg := hg.2
      refine bk_250_30  (fun h => absurd ((le_cl (E := (I 74 18)) (i := k) (by omega)).mp (by rw [show (p1.2 74 18) = (I 74 18) from hE] at h; exact h)) (by omega)) (fun _ => ?_)
      obtain ⟨k5, hg⟩ := hg
      refine bk_250_39 (cc_180 (d := d + 3)  k5) ?_
      obtain ⟨X1, hX1⟩ : ∃ r : Int32, r = (if (v_180 p1.2 (nI k)) = 0 then 0 else 1) := ⟨_, rfl⟩
      have J1 : ∀ p2 : Int32, p2 = X1 → Wp l 250 (d + 4) 0 0 P 0 0 54 [(0, .ref 74), (1, .int x1), (2, .int x2), (4, .int (nI k))] [.int p2, .int p1.1] SH (p1.2, F, L, RT t) := by
        intro p2 hr
        have hr := hr.trans hX1
        have he := bx_eq hr he
        have hg := bx_un hr hg
        obtain ⟨k7, hg⟩ := hg
        refine bk_250_54 k7 ?_
        have hgX := hg
        refine lw_250_70 (d := d)  hgX (fun p5 hr => ?_)
        have he := bx_eq hr he
        refine bk_250_124 ?_
        exact ih ((p1.1 ||| (p2 <<< ((nI k) &&& 31))), p5) he
      have he := hX1.symm
      refine bk_250_46 (fun h6 => ?_) (fun h6 => ?_)
      · have he := ite_p h6 he
        refine bk_250_53 ?_
        exact J1 0 he
      · have he := ite_n h6 he
        refine bk_250_49 ?_
        exact J1 1 he
  exact loop _ 0 (Nat.zero_add _) _ rfl
/-- the loop at 136 of VectorShelfModel.cover -/
def lp_250_136 (I : WI) (x3 : Int32) (a4 : Int32) : Nat → Int32
  | 0 => a4
  | k + 1 => bx (lp_250_136 I x3 a4 k) (fun p7 => (bx ((if ¬ ((nI k) &&& (x3 ^^^ (-1))) = 0 then p7 else (if p7 = (-1) then (if (v_252 I (nI k)) = 0 then p7 else (nI k)) else (if (v_251 p7) ≤ (v_251 (nI k)) then p7 else (if (v_252 I (nI k)) = 0 then p7 else (nI k))))) : Int32) (fun p8 => p8)))
def gl_250_136 (I : WI) (x3 : Int32) (a4 : Int32) (N : Nat) : Prop := (∀ k, k < N → bx (lp_250_136 I x3 a4 k) (fun p7 => (¬ (¬ ((nI k) &&& (x3 ^^^ (-1))) = 0) → (((p7 = (-1)) → (g_252 I (nI k))) ∧ (¬ (p7 = (-1)) → ((g_251 (nI k)) ∧ ((g_251 p7) ∧ (¬ ((v_251 p7) ≤ (v_251 (nI k))) → (g_252 I (nI k))))))))))
theorem lw_250_136 {l : LX} {d : Nat} {P : RP} {I : WI} {F : WF} {L : WL} {t : Nat} {x2 : Int32} {x3 : Int32} {a4 : Int32} (hgl : gl_250_136 I x3 a4 ((1 <<< ((I 74 18) &&& 31)).toNatClampNeg)) (hx : ∀ p7 : Int32, p7 = lp_250_136 I x3 a4 ((1 <<< ((I 74 18) &&& 31)).toNatClampNeg) → Wp l 250 (d + 4) 0 0 P 0 0 194 [(2, .int x2), (4, .int p7)] [] SH (I, F, L, RT t)) : Wp l 250 (d + 4) 0 0 P 0 0 136 [(0, .ref 74), (2, .int x2), (3, .int x3), (4, .int a4), (5, .int 0)] [] SH (I, F, L, RT t) := by
  have hin := hgl
  have loop : ∀ m k, k + m = (1 <<< ((I 74 18) &&& 31)).toNatClampNeg → ∀ p7 : Int32, p7 = lp_250_136 I x3 a4 k → Wp l 250 (d + 4) 0 0 P 0 0 136 [(0, .ref 74), (2, .int x2), (3, .int x3), (4, .int p7), (5, .int (nI k))] [] SH (I, F, L, RT t) := by
    intro m
    induction m with
    | zero =>
      intro k hk p7 hs
      obtain rfl : k = (1 <<< ((I 74 18) &&& 31)).toNatClampNeg := by omega
      exact bk_250_136  (fun _ => hx _ hs) (fun h => absurd ((le_cl (Nat.le_refl _)).mpr rfl) h)
    | succ m ih =>
      intro k hk p7 hs
      have hk2 : k < (1 <<< ((I 74 18) &&& 31)).toNatClampNeg := by omega
      have ih := ih (k + 1) (by omega)
      rw [nI_succ] at ih
      have he := bx_eq hs (lp_250_136.eq_2 ..).symm
      have hg := bx_un hs (hin k hk2)
      refine bk_250_136  (fun h => absurd ((le_cl (E := (1 <<< ((I 74 18) &&& 31))) (i := k) (by omega)).mp h) (by omega)) (fun _ => ?_)
      have hgX := hg
      obtain ⟨X3, hX3⟩ : ∃ r : Int32, r = (if ¬ ((nI k) &&& (x3 ^^^ (-1))) = 0 then p7 else (if p7 = (-1) then (if (v_252 I (nI k)) = 0 then p7 else (nI k)) else (if (v_251 p7) ≤ (v_251 (nI k)) then p7 else (if (v_252 I (nI k)) = 0 then p7 else (nI k))))) := ⟨_, rfl⟩
      have J3 : ∀ p8 : Int32, p8 = X3 → Wp l 250 (d + 4) 0 0 P 0 0 188 [(0, .ref 74), (2, .int x2), (3, .int x3), (4, .int p8), (5, .int (nI k))] [] SH (I, F, L, RT t) := by
        intro p8 hr
        have hr := hr.trans hX3
        have he := bx_eq hr he
        refine bk_250_188 ?_
        exact ih p8 he
      have he := hX3.symm
      have hg := hgX
      refine bk_250_147 (fun h14 => ?_) (fun h14 => ?_)
      · have he := ite_p h14 he
        exact J3 p7 he
      · have he := ite_n h14 he
        have hg := hg h14
        refine bk_250_156 (fun h15 => ?_) (fun h15 => ?_)
        · have he := ite_p h15 he
          have hg := hg.1 h15
          have k16 := hg
          refine bk_250_175 (cc_252 (d := d + 2)  k16) ?_
          refine bk_250_181 (fun h17 => ?_) (fun h17 => ?_)
          · have he := ite_p h17 he
            exact J3 p7 he
          · have he := ite_n h17 he
            refine bk_250_184 ?_
            exact J3 (nI k) he
        · have he := ite_n h15 he
          have hg := hg.2 h15
          obtain ⟨k18, hg⟩ := hg
          refine bk_250_162 (cc_251 (d := d + 3)  k18) ?_
          obtain ⟨k19, hg⟩ := hg
          refine bk_250_167 (cc_251 (d := d + 3)  k19) ?_
          refine bk_250_172 (fun h20 => ?_) (fun h20 => ?_)
          · have he := ite_p h20 he
            exact J3 p7 he
          · have he := ite_n h20 he
            have hg := hg h20
            have k21 := hg
            refine bk_250_175 (cc_252 (d := d + 2)  k21) ?_
            refine bk_250_181 (fun h22 => ?_) (fun h22 => ?_)
            · have he := ite_p h22 he
              exact J3 p7 he
            · have he := ite_n h22 he
              refine bk_250_184 ?_
              exact J3 (nI k) he
  exact loop _ 0 (Nat.zero_add _) _ rfl
/-- VectorShelfModel.cover(II)I -/
def v_250 (I : WI) (x1 : Int32) (x2 : Int32) : Int32 × WI := (if (v_170 (Int32.toInt64 x1) (0 : Int64) (999999999 : Int64)) = 0 then ((-2), I) else (if ¬ (v_170 (Int32.toInt64 x2) (0 : Int64) (1 : Int64)) = 0 then (bx ((lp_250_30 I x1 (0 : Int32) ((I 74 18).toNatClampNeg)) : Int32 × WI) (fun p6 => (bx ((lp_250_136 p6.2 p6.1 ((-1) : Int32) ((1 <<< ((p6.2 74 18) &&& 31)).toNatClampNeg)) : Int32) (fun p9 => (if ¬ p9 = (-1) then (if ¬ x2 = 0 then (p9, p6.2) else ((v_251 p9), p6.2)) else ((-1), p6.2)))))) else ((-2), I)))
def g_250 (I : WI) (x1 : Int32) (x2 : Int32) : Prop := (¬ ((v_170 (Int32.toInt64 x1) (0 : Int64) (999999999 : Int64)) = 0) → ((¬ (v_170 (Int32.toInt64 x2) (0 : Int64) (1 : Int64)) = 0) → ((gl_250_30 I x1 (0 : Int32) ((I 74 18).toNatClampNeg)) ∧ (bx ((lp_250_30 I x1 (0 : Int32) ((I 74 18).toNatClampNeg)) : Int32 × WI) (fun p6 => ((gl_250_136 p6.2 p6.1 ((-1) : Int32) ((1 <<< ((p6.2 74 18) &&& 31)).toNatClampNeg)) ∧ (bx ((lp_250_136 p6.2 p6.1 ((-1) : Int32) ((1 <<< ((p6.2 74 18) &&& 31)).toNatClampNeg)) : Int32) (fun p9 => ((¬ p9 = (-1)) → (¬ (¬ x2 = 0) → (g_251 p9)))))))))))
theorem cc_250 {l : LX} {d : Nat} {I : WI} {F : WF} {L : WL} {t : Nat} {x1 : Int32} {x2 : Int32} (hg : g_250 I x1 x2) : Con l 250 (d + 4) 0 0 [.ref 74, .int x1, .int x2] SH (I, F, L, RT t) (po_I_I F L t (v_250 I x1 x2)) := by
  refine cn_250 ?_
  obtain ⟨T1, hT1⟩ : ∃ r : Int32 × WI, r = (v_250 I x1 x2) := ⟨_, rfl⟩
  rw [← hT1]
  have he := (hT1.trans (v_250.eq_1 ..)).symm
  have hg := Eq.mp (g_250.eq_1 ..) hg
  refine bk_250_0 (cc_170 (d := d + 3) ) ?_
  refine bk_250_9 (fun h2 => ?_) (fun h2 => ?_)
  · have he := ite_p h2 he
    exact bk_250_22 (rl_I_I he)
  · have he := ite_n h2 he
    have hg := hg h2
    refine bk_250_12 (cc_170 (d := d + 3) ) ?_
    refine bk_250_19 (fun h4 => ?_) (fun h4 => ?_)
    · have he := ite_p h4 he
      have hg := hg h4
      refine bk_250_25 ?_
      obtain ⟨hgX, hg⟩ := hg
      refine lw_250_30 (d := d)  hgX (fun p6 hr => ?_)
      have he := bx_eq hr he
      have hg := bx_un hr hg
      refine bk_250_130 ?_
      obtain ⟨hgX, hg⟩ := hg
      refine lw_250_136 (d := d)  hgX (fun p9 hr => ?_)
      have he := bx_eq hr he
      have hg := bx_un hr hg
      refine bk_250_194 (fun h23 => ?_) (fun h23 => ?_)
      · have he := ite_p h23 he
        have hg := hg h23
        refine bk_250_204 (fun h24 => ?_) (fun h24 => ?_)
        · have he := ite_p h24 he
          refine bk_250_216 ?_
          exact bk_250_218 (rl_I_I he)
        · have he := ite_n h24 he
          have hg := hg h24
          have k25 := hg
          refine bk_250_208 (cc_251 (d := d + 3)  k25) ?_
          refine bk_250_213 ?_
          exact bk_250_218 (rl_I_I he)
      · have he := ite_n h23 he
        refine bk_250_200 ?_
        exact bk_250_218 (rl_I_I he)
    · have he := ite_n h4 he
      exact bk_250_22 (rl_I_I he)
/-- the loop at 55 of VectorShelfModel.two -/
def lp_253_55 (I : WI) (x5 : Int32) (x6 : Int32) (a7 : Int32) : Nat → Int32
  | 0 => a7
  | k + 1 => bx (lp_253_55 I x5 x6 a7 k) (fun p3 => (bx ((if (v_180 I (nI k)) = 0 then 0 else (v_249 I (nI k) ((1 <<< (x5 &&& 31)) ||| (1 <<< (x6 &&& 31))))) : Int32) (fun p4 => (p3 + p4))))
def gl_253_55 (I : WI) (x5 : Int32) (x6 : Int32) (a7 : Int32) (N : Nat) : Prop := (∀ k, k < N → bx (lp_253_55 I x5 x6 a7 k) (fun p3 => ((g_180 I (nI k)) ∧ (¬ ((v_180 I (nI k)) = 0) → (g_249 I (nI k) ((1 <<< (x5 &&& 31)) ||| (1 <<< (x6 &&& 31))))))))
theorem lw_253_55 {l : LX} {d : Nat} {P : RP} {I : WI} {F : WF} {L : WL} {t : Nat} {x1 : Int32} {x2 : Int32} {x3 : Int32} {x4 : Int32} {x5 : Int32} {x6 : Int32} {a7 : Int32} (hgl : gl_253_55 I x5 x6 a7 ((I 74 18).toNatClampNeg)) (hx : ∀ p3 : Int32, p3 = lp_253_55 I x5 x6 a7 ((I 74 18).toNatClampNeg) → Wp l 253 (d + 5) 0 0 P 0 0 103 [(0, .ref 74), (1, .int x1), (2, .int x2), (3, .int x3), (4, .int x4), (5, .int x5), (6, .int x6), (7, .int p3)] [] SH (I, F, L, RT t)) : Wp l 253 (d + 5) 0 0 P 0 0 55 [(0, .ref 74), (1, .int x1), (2, .int x2), (3, .int x3), (4, .int x4), (5, .int x5), (6, .int x6), (7, .int a7), (8, .int 0)] [] SH (I, F, L, RT t) := by
  have hin := hgl
  have loop : ∀ m k, k + m = (I 74 18).toNatClampNeg → ∀ p3 : Int32, p3 = lp_253_55 I x5 x6 a7 k → Wp l 253 (d + 5) 0 0 P 0 0 55 [(0, .ref 74), (1, .int x1), (2, .int x2), (3, .int x3), (4, .int x4), (5, .int x5), (6, .int x6), (7, .int p3), (8, .int (nI k))] [] SH (I, F, L, RT t) := by
    intro m
    induction m with
    | zero =>
      intro k hk p3 hs
      obtain rfl : k = (I 74 18).toNatClampNeg := by omega
      exact bk_253_55  (fun _ => hx _ hs) (fun h => absurd ((le_cl (Nat.le_refl _)).mpr rfl) h)
    | succ m ih =>
      intro k hk p3 hs
      have hk2 : k < (I 74 18).toNatClampNeg := by omega
      have ih := ih (k + 1) (by omega)
      rw [nI_succ] at ih
      have he := bx_eq hs (lp_253_55.eq_2 ..).symm
      have hg := bx_un hs (hin k hk2)
      refine bk_253_55  (fun h => absurd ((le_cl (E := (I 74 18)) (i := k) (by omega)).mp h) (by omega)) (fun _ => ?_)
      obtain ⟨k3, hg⟩ := hg
      refine bk_253_64 (cc_180 (d := d + 4)  k3) ?_
      have hgX := hg
      obtain ⟨X1, hX1⟩ : ∃ r : Int32, r = (if (v_180 I (nI k)) = 0 then 0 else (v_249 I (nI k) ((1 <<< (x5 &&& 31)) ||| (1 <<< (x6 &&& 31))))) := ⟨_, rfl⟩
      have J1 : ∀ p4 : Int32, p4 = X1 → Wp l 253 (d + 5) 0 0 P 0 0 94 [(0, .ref 74), (1, .int x1), (2, .int x2), (3, .int x3), (4, .int x4), (5, .int x5), (6, .int x6), (8, .int (nI k))] [.int p4, .int p3] SH (I, F, L, RT t) := by
        intro p4 hr
        have hr := hr.trans hX1
        have he := bx_eq hr he
        refine bk_253_94 ?_
        exact ih (p3 + p4) he
      have he := hX1.symm
      have hg := hgX
      refine bk_253_72 (fun h4 => ?_) (fun h4 => ?_)
      · have he := ite_p h4 he
        refine bk_253_93 ?_
        exact J1 0 he
      · have he := ite_n h4 he
        have hg := hg h4
        have k5 := hg
        refine bk_253_75 (cc_249 (d := d + 0)  k5) ?_
        refine bk_253_90 ?_
        exact J1 (v_249 I (nI k) ((1 <<< (x5 &&& 31)) ||| (1 <<< (x6 &&& 31)))) he
  exact loop _ 0 (Nat.zero_add _) _ rfl
/-- the loop at 40 of VectorShelfModel.two -/
def lp_253_40s (I : WI) (x5 : Int32) (a6 : Int32) (a2 : Int32) (a3 : Int32) (a4 : Int32) : Nat → Int32 × Int32 × Int32
  | 0 => (a2, a3, a4)
  | k + 1 => bx (lp_253_40s I x5 a6 a2 a3 a4 k) (fun p2 => (bx ((lp_253_55 I x5 (a6 + nI k) (0 : Int32) ((I 74 18).toNatClampNeg)) : Int32) (fun p5 => (bx ((if (v_180 I x5) = 0 then (p2.1, p2.2.1, p2.2.2) else (if (v_180 I (a6 + nI k)) = 0 then (p2.1, p2.2.1, p2.2.2) else (if p2.1 = (-1) then (x5, (a6 + nI k), p5) else (if p2.2.2 ≤ p5 then (p2.1, p2.2.1, p2.2.2) else (x5, (a6 + nI k), p5))))) : Int32 × Int32 × Int32) (fun p6 => (p6.1, p6.2.1, p6.2.2))))))
def gl_253_40s (I : WI) (x5 : Int32) (a6 : Int32) (a2 : Int32) (a3 : Int32) (a4 : Int32) (N : Nat) : Prop := (∀ k, k < N → bx (lp_253_40s I x5 a6 a2 a3 a4 k) (fun p2 => ((gl_253_55 I x5 (a6 + nI k) (0 : Int32) ((I 74 18).toNatClampNeg)) ∧ (bx ((lp_253_55 I x5 (a6 + nI k) (0 : Int32) ((I 74 18).toNatClampNeg)) : Int32) (fun p5 => ((g_180 I x5) ∧ (¬ ((v_180 I x5) = 0) → (g_180 I (a6 + nI k)))))))))
theorem lw_253_40s {l : LX} {d : Nat} {P : RP} {I : WI} {F : WF} {L : WL} {t : Nat} {x1 : Int32} {x5 : Int32} {a6 : Int32} {a2 : Int32} {a3 : Int32} {a4 : Int32} (hgl : gl_253_40s I x5 a6 a2 a3 a4 (((I 74 18).toInt - a6.toInt).toNat)) (hx : ∀ p2 : Int32 × Int32 × Int32, p2 = lp_253_40s I x5 a6 a2 a3 a4 (((I 74 18).toInt - a6.toInt).toNat) → Wp l 253 (d + 5) 0 0 P 0 0 149 [(0, .ref 74), (1, .int x1), (2, .int p2.1), (3, .int p2.2.1), (4, .int p2.2.2), (5, .int x5)] [] SH (I, F, L, RT t)) : Wp l 253 (d + 5) 0 0 P 0 0 40 [(0, .ref 74), (1, .int x1), (2, .int a2), (3, .int a3), (4, .int a4), (5, .int x5), (6, .int a6)] [] SH (I, F, L, RT t) := by
  have hin := hgl
  have loop : ∀ m k, k + m = ((I 74 18).toInt - a6.toInt).toNat → ∀ p2 : Int32 × Int32 × Int32, p2 = lp_253_40s I x5 a6 a2 a3 a4 k → Wp l 253 (d + 5) 0 0 P 0 0 40 [(0, .ref 74), (1, .int x1), (2, .int p2.1), (3, .int p2.2.1), (4, .int p2.2.2), (5, .int x5), (6, .int (a6 + nI k))] [] SH (I, F, L, RT t) := by
    intro m
    induction m with
    | zero =>
      intro k hk p2 hs
      obtain rfl : k = ((I 74 18).toInt - a6.toInt).toNat := by omega
      exact bk_253_40  (fun _ => hx _ hs) (fun h => absurd ((cl_ge (Nat.le_refl _)).mpr rfl) h)
    | succ m ih =>
      intro k hk p2 hs
      have hk2 : k < ((I 74 18).toInt - a6.toInt).toNat := by omega
      have ih := ih (k + 1) (by omega)
      rw [nI_succ, ← Int32.add_assoc] at ih
      have he := bx_eq hs (lp_253_40s.eq_2 ..).symm
      have hg := bx_un hs (hin k hk2)
      refine bk_253_40  (fun h => absurd ((cl_ge (E := (I 74 18)) (a := a6) (k := k) (by omega)).mp h) (by omega)) (fun _ => ?_)
      refine bk_253_49 ?_
      obtain ⟨hgX, hg⟩ := hg
      refine lw_253_55 (d := d)  hgX (fun p5 hr => ?_)
      have he := bx_eq hr he
      have hg := bx_un hr hg
      obtain ⟨k6, hg⟩ := hg
      refine bk_253_103 (cc_180 (d := d + 4)  k6) ?_
      have hgX := hg
      obtain ⟨X2, hX2⟩ : ∃ r : Int32 × Int32 × Int32, r = (if (v_180 I x5) = 0 then (p2.1, p2.2.1, p2.2.2) else (if (v_180 I (a6 + nI k)) = 0 then (p2.1, p2.2.1, p2.2.2) else (if p2.1 = (-1) then (x5, (a6 + nI k), p5) else (if p2.2.2 ≤ p5 then (p2.1, p2.2.1, p2.2.2) else (x5, (a6 + nI k), p5))))) := ⟨_, rfl⟩
      have J2 : ∀ p6 : Int32 × Int32 × Int32, p6 = X2 → Wp l 253 (d + 5) 0 0 P 0 0 143 [(0, .ref 74), (1, .int x1), (2, .int p6.1), (3, .int p6.2.1), (4, .int p6.2.2), (5, .int x5), (6, .int (a6 + nI k))] [] SH (I, F, L, RT t) := by
        intro p6 hr
        have hr := hr.trans hX2
        have he := bx_eq hr he
        refine bk_253_143 ?_
        exact ih (p6.1, p6.2.1, p6.2.2) he
      have he := hX2.symm
      have hg := hgX
      refine bk_253_109 (fun h7 => ?_) (fun h7 => ?_)
      · have he := ite_p h7 he
        exact J2 (p2.1, p2.2.1, p2.2.2) he
      · have he := ite_n h7 he
        have hg := hg h7
        have k8 := hg
        refine bk_253_112 (cc_180 (d := d + 4)  k8) ?_
        refine bk_253_118 (fun h9 => ?_) (fun h9 => ?_)
        · have he := ite_p h9 he
          exact J2 (p2.1, p2.2.1, p2.2.2) he
        · have he := ite_n h9 he
          refine bk_253_121 (fun h10 => ?_) (fun h10 => ?_)
          · have he := ite_p h10 he
            refine bk_253_133 ?_
            exact J2 (x5, (a6 + nI k), p5) he
          · have he := ite_n h10 he
            refine bk_253_126 (fun h11 => ?_) (fun h11 => ?_)
            · have he := ite_p h11 he
              exact J2 (p2.1, p2.2.1, p2.2.2) he
            · have he := ite_n h11 he
              refine bk_253_133 ?_
              exact J2 (x5, (a6 + nI k), p5) he
  have h0 := loop _ 0 (Nat.zero_add _) _ rfl
  rw [show a6 + nI 0 = a6 from by rw [nI_0, Int32.add_zero]] at h0
  exact h0
/-- the loop at 25 of VectorShelfModel.two -/
def lp_253_25 (I : WI) (a2 : Int32) (a3 : Int32) (a4 : Int32) : Nat → Int32 × Int32 × Int32
  | 0 => (a2, a3, a4)
  | k + 1 => bx (lp_253_25 I a2 a3 a4 k) (fun p1 => (bx ((lp_253_40s I (nI k) ((nI k) + 1) p1.1 p1.2.1 p1.2.2 (((I 74 18).toInt - ((nI k) + 1).toInt).toNat)) : Int32 × Int32 × Int32) (fun p7 => (p7.1, p7.2.1, p7.2.2))))
def gl_253_25 (I : WI) (a2 : Int32) (a3 : Int32) (a4 : Int32) (N : Nat) : Prop := (∀ k, k < N → bx (lp_253_25 I a2 a3 a4 k) (fun p1 => (gl_253_40s I (nI k) ((nI k) + 1) p1.1 p1.2.1 p1.2.2 (((I 74 18).toInt - ((nI k) + 1).toInt).toNat))))
theorem lw_253_25 {l : LX} {d : Nat} {P : RP} {I : WI} {F : WF} {L : WL} {t : Nat} {x1 : Int32} {a2 : Int32} {a3 : Int32} {a4 : Int32} (hgl : gl_253_25 I a2 a3 a4 ((I 74 18).toNatClampNeg)) (hx : ∀ p1 : Int32 × Int32 × Int32, p1 = lp_253_25 I a2 a3 a4 ((I 74 18).toNatClampNeg) → Wp l 253 (d + 5) 0 0 P 0 0 155 [(1, .int x1), (2, .int p1.1), (3, .int p1.2.1), (4, .int p1.2.2)] [] SH (I, F, L, RT t)) : Wp l 253 (d + 5) 0 0 P 0 0 25 [(0, .ref 74), (1, .int x1), (2, .int a2), (3, .int a3), (4, .int a4), (5, .int 0)] [] SH (I, F, L, RT t) := by
  have hin := hgl
  have loop : ∀ m k, k + m = (I 74 18).toNatClampNeg → ∀ p1 : Int32 × Int32 × Int32, p1 = lp_253_25 I a2 a3 a4 k → Wp l 253 (d + 5) 0 0 P 0 0 25 [(0, .ref 74), (1, .int x1), (2, .int p1.1), (3, .int p1.2.1), (4, .int p1.2.2), (5, .int (nI k))] [] SH (I, F, L, RT t) := by
    intro m
    induction m with
    | zero =>
      intro k hk p1 hs
      obtain rfl : k = (I 74 18).toNatClampNeg := by omega
      exact bk_253_25  (fun _ => hx _ hs) (fun h => absurd ((le_cl (Nat.le_refl _)).mpr rfl) h)
    | succ m ih =>
      intro k hk p1 hs
      have hk2 : k < (I 74 18).toNatClampNeg := by omega
      have ih := ih (k + 1) (by omega)
      rw [nI_succ] at ih
      have he := bx_eq hs (lp_253_25.eq_2 ..).symm
      have hg := bx_un hs (hin k hk2)
      refine bk_253_25  (fun h => absurd ((le_cl (E := (I 74 18)) (i := k) (by omega)).mp h) (by omega)) (fun _ => ?_)
      refine bk_253_34 ?_
      have hgX := hg
      refine lw_253_40s (d := d)  hgX (fun p7 hr => ?_)
      have he := bx_eq hr he
      refine bk_253_149 ?_
      exact ih (p7.1, p7.2.1, p7.2.2) he
  exact loop _ 0 (Nat.zero_add _) _ rfl
/-- VectorShelfModel.two(I)I -/
def v_253 (I : WI) (x1 : Int32) : Int32 := (if ¬ (v_170 (Int32.toInt64 x1) (0 : Int64) (2 : Int64)) = 0 then (bx ((lp_253_25 I ((-1) : Int32) ((-1) : Int32) ((-1) : Int32) ((I 74 18).toNatClampNeg)) : Int32 × Int32 × Int32) (fun p8 => (if ¬ x1 = 0 then (if ¬ x1 = 1 then p8.2.2 else p8.2.1) else p8.1))) else (-2))
def g_253 (I : WI) (x1 : Int32) : Prop := ((¬ (v_170 (Int32.toInt64 x1) (0 : Int64) (2 : Int64)) = 0) → (gl_253_25 I ((-1) : Int32) ((-1) : Int32) ((-1) : Int32) ((I 74 18).toNatClampNeg)))
theorem cc_253 {l : LX} {d : Nat} {I : WI} {F : WF} {L : WL} {t : Nat} {x1 : Int32} (hg : g_253 I x1) : Con l 253 (d + 5) 0 0 [.ref 74, .int x1] SH (I, F, L, RT t) (rI (v_253 I x1) (I, F, L, RT t)) := by
  refine cn_253 ?_
  obtain ⟨T1, hT1⟩ : ∃ r : Int32, r = (v_253 I x1) := ⟨_, rfl⟩
  rw [← hT1]
  have he := (hT1.trans (v_253.eq_1 ..)).symm
  have hg := Eq.mp (g_253.eq_1 ..) hg
  refine bk_253_0 (cc_170 (d := d + 4) ) ?_
  refine bk_253_9 (fun h2 => ?_) (fun h2 => ?_)
  · have he := ite_p h2 he
    have hg := hg h2
    refine bk_253_15 ?_
    have hgX := hg
    refine lw_253_25 (d := d)  hgX (fun p8 hr => ?_)
    have he := bx_eq hr he
    refine bk_253_155 (fun h12 => ?_) (fun h12 => ?_)
    · have he := ite_p h12 he
      refine bk_253_163 (fun h13 => ?_) (fun h13 => ?_)
      · have he := ite_p h13 he
        refine bk_253_172 ?_
        exact bk_253_174 (rl_p_I he)
      · have he := ite_n h13 he
        refine bk_253_168 ?_
        exact bk_253_174 (rl_p_I he)
    · have he := ite_n h12 he
      refine bk_253_159 ?_
      exact bk_253_174 (rl_p_I he)
  · have he := ite_n h2 he
    exact bk_253_12 (rl_p_I he)
/-- the loop at 26 of VectorShelf$Company.spreadAt -/
def lp_5_26 (I : WI) (r1 : Nat) (a3 : Int32) (a4 : Int32) : Nat → Int32 × Int32
  | 0 => (a3, a4)
  | k + 1 => bx (lp_5_26 I r1 a3 a4 k) (fun p1 => ((v_6 I r1 (p1.2 ||| (1 <<< (p1.1 &&& 31)))), (p1.2 ||| (1 <<< (p1.1 &&& 31)))))
def gl_5_26 (I : WI) (r1 : Nat) (a3 : Int32) (a4 : Int32) (N : Nat) : Prop := (∀ k, k < N → bx (lp_5_26 I r1 a3 a4 k) (fun p1 => (g_6 I r1 (p1.2 ||| (1 <<< (p1.1 &&& 31))))))
theorem lw_5_26 {l : LX} {d : Nat} {P : RP} {I : WI} {F : WF} {L : WL} {t : Nat} {r1 : Nat} {x2 : Int32} {a3 : Int32} {a4 : Int32} (hr1 : isS r1) (hgl : gl_5_26 I r1 a3 a4 x2.toNatClampNeg) (hx : ∀ p1 : Int32 × Int32, p1 = lp_5_26 I r1 a3 a4 x2.toNatClampNeg → Wp l 5 (d + 5) 0 0 P 0 0 54 [(3, .int p1.1)] [] SH (I, F, L, RT t)) : Wp l 5 (d + 5) 0 0 P 0 0 26 [(0, .ref 42), (1, .ref r1), (2, .int x2), (3, .int a3), (4, .int a4), (5, .int 0)] [] SH (I, F, L, RT t) := by
  have hin := hgl
  have loop : ∀ m k, k + m = x2.toNatClampNeg → ∀ p1 : Int32 × Int32, p1 = lp_5_26 I r1 a3 a4 k → Wp l 5 (d + 5) 0 0 P 0 0 26 [(0, .ref 42), (1, .ref r1), (2, .int x2), (3, .int p1.1), (4, .int p1.2), (5, .int (nI k))] [] SH (I, F, L, RT t) := by
    intro m
    induction m with
    | zero =>
      intro k hk p1 hs
      obtain rfl : k = x2.toNatClampNeg := by omega
      exact bk_5_26  (fun _ => hx _ hs) (fun h => absurd ((le_cl (Nat.le_refl _)).mpr rfl) h)
    | succ m ih =>
      intro k hk p1 hs
      have hk2 : k < x2.toNatClampNeg := by omega
      have ih := ih (k + 1) (by omega)
      rw [nI_succ] at ih
      have he := bx_eq hs (lp_5_26.eq_2 ..).symm
      have hg := bx_un hs (hin k hk2)
      refine bk_5_26  (fun h => absurd ((le_cl (E := x2) (i := k) (by omega)).mp h) (by omega)) (fun _ => ?_)
      have k4 := hg
      refine bk_5_32 (cc_6 (d := d + 0) hr1 k4) ?_
      refine bk_5_47 ?_
      exact ih ((v_6 I r1 (p1.2 ||| (1 <<< (p1.1 &&& 31)))), (p1.2 ||| (1 <<< (p1.1 &&& 31)))) he
  exact loop _ 0 (Nat.zero_add _) _ rfl
/-- VectorShelf$Company.spreadAt(LVectorShelf$Shelf;I)I -/
def v_5 (I : WI) (r1 : Nat) (x2 : Int32) : Int32 := (if x2 < (v_286 (I r1 12)) then (bx ((lp_5_26 I r1 (v_6 I r1 (0 : Int32)) (0 : Int32) x2.toNatClampNeg) : Int32 × Int32) (fun p2 => p2.1)) else (-1))
def g_5 (I : WI) (r1 : Nat) (x2 : Int32) : Prop := ((x2 < (v_286 (I r1 12))) → ((g_6 I r1 (0 : Int32)) ∧ (gl_5_26 I r1 (v_6 I r1 (0 : Int32)) (0 : Int32) x2.toNatClampNeg)))
theorem cc_5 {l : LX} {d : Nat} {I : WI} {F : WF} {L : WL} {t : Nat} {r1 : Nat} {x2 : Int32} (hr1 : isS r1) (hg : g_5 I r1 x2) : Con l 5 (d + 5) 0 0 [.ref 42, .ref r1, .int x2] SH (I, F, L, RT t) (rI (v_5 I r1 x2) (I, F, L, RT t)) := by
  refine cn_5 ?_
  obtain ⟨T1, hT1⟩ : ∃ r : Int32, r = (v_5 I r1 x2) := ⟨_, rfl⟩
  rw [← hT1]
  have he := (hT1.trans (v_5.eq_1 ..)).symm
  have hg := Eq.mp (g_5.eq_1 ..) hg
  refine bk_5_0 hr1 (cc_286 (d := d + 4) ) ?_
  refine bk_5_8 (fun h2 => ?_) (fun h2 => ?_)
  · have he := ite_p h2 he
    have hg := hg h2
    obtain ⟨k3, hg⟩ := hg
    refine bk_5_13 (cc_6 (d := d + 0) hr1 k3) ?_
    refine bk_5_19 ?_
    have hgX := hg
    refine lw_5_26 (d := d) hr1 hgX (fun p2 hr => ?_)
    have he := bx_eq hr he
    exact bk_5_54 (rl_p_I he)
  · have he := ite_n h2 he
    exact bk_5_11 (rl_p_I he)
/-- the loop at 30 of VectorShelf$Reading.readFor -/
def lp_35_30 (F : WF) (x1 : Int32) (r2 : Nat) : Nat → Int32 → Int32 → WI → WI × WF
  | 0, x4, x5, I => (I, F)
  | k + 1, x4, x5, I => (if 4 ≤ x5 then (I, F) else (if x4 = 0 then (I, F) else (if (v_38 I (F 39 (v_37 F x4).toNatClampNeg) x1) = 0 then (bx ((v_39 (up2 I 38 6 ((I 38 6) + 1)) (v_37 F x4) x1 r2) : WI) (fun p2 => (lp_35_30 F x1 r2 k (x4 &&& ((1 <<< ((v_37 F x4) &&& 31)) ^^^ (-1))) (x5 + 1) p2))) else (I, F))))
def gl_35_30 (F : WF) (x1 : Int32) (r2 : Nat) : Nat → Int32 → Int32 → WI → Prop
  | 0, _, _, _ => False
  | k + 1, x4, x5, I => (¬ (4 ≤ x5) → (¬ (x4 = 0) → ((g_37 F x4) ∧ ((vp_in (v_37 F x4) 4) ∧ ((g_38 I x1) ∧ (((v_38 I (F 39 (v_37 F x4).toNatClampNeg) x1) = 0) → ((g_39 (up2 I 38 6 ((I 38 6) + 1)) (v_37 F x4) x1 r2) ∧ (bx ((v_39 (up2 I 38 6 ((I 38 6) + 1)) (v_37 F x4) x1 r2) : WI) (fun p2 => (gl_35_30 F x1 r2 k (x4 &&& ((1 <<< ((v_37 F x4) &&& 31)) ^^^ (-1))) (x5 + 1) p2))))))))))
theorem lw_35_30 {l : LX} {d : Nat} {F : WF} {L : WL} {t : Nat} {x1 : Int32} {r2 : Nat} (hr2 : isS r2) : ∀ k : Nat, ∀ (x4 : Int32) (x5 : Int32) (I : WI), gl_35_30 F x1 r2 k x4 x5 I → Wp l 35 (d + 5) 0 0 (po_V_IF L t (lp_35_30 F x1 r2 k x4 x5 I)) 0 0 30 [(0, .ref 38), (1, .int x1), (2, .ref r2), (3, .ref 35), (4, .int x4), (5, .int x5)] [] SH (I, F, L, RT t) := by
  intro k
  induction k with
  | zero =>
    intro x4 x5 I hg
    exact hg.elim
  | succ k ih =>
    intro x4 x5 I hg
    have hg := Eq.mp (gl_35_30.eq_2 ..) hg
    obtain ⟨T1, hT1⟩ : ∃ r : WI × WF, r = lp_35_30 F x1 r2 (k + 1) x4 x5 I := ⟨_, rfl⟩
    rw [← hT1]
    have he := (hT1.trans (lp_35_30.eq_2 ..)).symm
    refine bk_35_30 (fun h2 => ?_) (fun h2 => ?_)
    · have he := ite_p h2 he
      exact bk_35_101 (rl_V_IF he)
    · have he := ite_n h2 he
      have hg := hg h2
      refine bk_35_36 (fun h3 => ?_) (fun h3 => ?_)
      · have he := ite_p h3 he
        exact bk_35_101 (rl_V_IF he)
      · have he := ite_n h3 he
        have hg := hg h3
        obtain ⟨k4, hg⟩ := hg
        refine bk_35_41 (cc_37 (d := d + 3)  k4) ?_
        obtain ⟨k5, k6, hg⟩ := hg
        refine bk_35_47 k5 (cc_38 (d := d + 3)  k6) ?_
        refine bk_35_61 (fun h7 => ?_) (fun h7 => ?_)
        · have he := ite_p h7 he
          have hg := hg h7
          obtain ⟨k8, hg⟩ := hg
          refine bk_35_65 (cq_V_I (cc_39 (d := d + 0) hr2 k8)) ?_
          rintro _ _ _ _ ⟨p2, hr, rfl, rfl, rfl, rfl⟩
          have he := bx_eq hr he
          have hg := bx_un hr hg
          refine bk_35_95 ?_
          exact Wp_eq (post := fun r => (po_V_IF L t r)) he (ih (x4 &&& ((1 <<< ((v_37 F x4) &&& 31)) ^^^ (-1))) (x5 + 1) p2 hg)
        · have he := ite_n h7 he
          exact bk_35_64 (rl_V_IF he)
/-- VectorShelf$Reading.readFor(ILVectorShelf$Shelf;LVectorShelf$Judge;)V -/
def v_35 (I : WI) (F : WF) (x1 : Int32) (r2 : Nat) : WI × WF := (bx ((v_36 (up2 (up2 (up2 (up2 I 38 3 0) 38 4 0) 38 5 0) 38 6 0) F r2) : Int32 × WF) (fun p1 => (lp_35_30 p1.2 x1 r2 400 p1.1 (0 : Int32) (up2 (up2 (up2 (up2 I 38 3 0) 38 4 0) 38 5 0) 38 6 0))))
def g_35 (I : WI) (F : WF) (x1 : Int32) (r2 : Nat) : Prop := ((g_36 (up2 (up2 (up2 (up2 I 38 3 0) 38 4 0) 38 5 0) 38 6 0) F r2) ∧ (bx ((v_36 (up2 (up2 (up2 (up2 I 38 3 0) 38 4 0) 38 5 0) 38 6 0) F r2) : Int32 × WF) (fun p1 => (gl_35_30 p1.2 x1 r2 400 p1.1 (0 : Int32) (up2 (up2 (up2 (up2 I 38 3 0) 38 4 0) 38 5 0) 38 6 0)))))
theorem cc_35 {l : LX} {d : Nat} {I : WI} {F : WF} {L : WL} {t : Nat} {x1 : Int32} {r2 : Nat} (hr2 : isS r2) (hg : g_35 I F x1 r2) : Con l 35 (d + 5) 0 0 [.ref 38, .int x1, .ref r2, .ref 35] SH (I, F, L, RT t) (po_V_IF L t (v_35 I F x1 r2)) := by
  refine cn_35 ?_
  obtain ⟨T1, hT1⟩ : ∃ r : WI × WF, r = (v_35 I F x1 r2) := ⟨_, rfl⟩
  rw [← hT1]
  have he := (hT1.trans (v_35.eq_1 ..)).symm
  have hg := Eq.mp (g_35.eq_1 ..) hg
  obtain ⟨k1, hg⟩ := hg
  refine bk_35_0 (cq_I_F (cc_36 (d := d + 1) hr2 k1)) ?_
  rintro _ _ _ _ _ ⟨p1, hr, rfl, rfl, rfl, rfl, rfl⟩
  have he := bx_eq hr he
  have hg := bx_un hr hg
  refine bk_35_25 ?_
  exact Wp_eq (post := fun r => (po_V_IF L t r)) he (lw_35_30 (d := d) hr2 400 p1.1 (0 : Int32) (up2 (up2 (up2 (up2 I 38 3 0) 38 4 0) 38 5 0) 38 6 0) hg)
/-- VectorShelf.told(II)I -/
def v_113 (I : WI) (x1 : Int32) (x2 : Int32) : Int32 × WI := (if (v_110 I x1) = 0 then ((-99999), I) else (if ¬ (v_107 x2 (0 : Int32) (12 : Int32)) = 0 then (if 3 ≤ x2 then (bx ((if (I 10 x1.toNatClampNeg) = (-1) then 0 else 1) : Int32) (fun p1 => (if x2 = 3 then ((I 9 x1.toNatClampNeg), I) else (if x2 = 4 then (if (v_61 I 1 x1) = 0 then (1, I) else (0, I)) else (if x2 = 5 then ((I 10 x1.toNatClampNeg), I) else (if x2 = 6 then (if p1 = 0 then ((-99999), I) else ((v_62 I 1 x1 (x2 - 6)), I)) else (if x2 = 7 then (if p1 = 0 then ((-99999), I) else ((v_62 I 1 x1 (x2 - 6)), I)) else (if x2 = 8 then (if p1 = 0 then ((-99999), I) else ((v_62 I 1 x1 (x2 - 6)), I)) else (if x2 = 9 then (bx ((v_114 I x1 x2) : Int32 × WI) (fun p2 => (p2.1, p2.2))) else (if x2 = 10 then (bx ((v_114 I x1 x2) : Int32 × WI) (fun p3 => (p3.1, p3.2))) else (if x2 = 11 then (bx ((v_114 I x1 x2) : Int32 × WI) (fun p4 => (p4.1, p4.2))) else (if x2 = 12 then (if p1 = 0 then ((-99999), I) else ((FP.f2i (v_63 I 1 x1)), I)) else (bx ((v_114 I x1 x2) : Int32 × WI) (fun p5 => (p5.1, p5.2))))))))))))))) else ((I 8 ((3 * x1) + x2).toNatClampNeg), I)) else ((-99999), I)))
def g_113 (I : WI) (x1 : Int32) (x2 : Int32) : Prop := (¬ ((v_110 I x1) = 0) → ((¬ (v_107 x2 (0 : Int32) (12 : Int32)) = 0) → (((3 ≤ x2) → ((vp_in x1 12) ∧ (bx ((if (I 10 x1.toNatClampNeg) = (-1) then 0 else 1) : Int32) (fun p1 => ((x2 = 3 → (vp_in x1 12)) ∧ (¬ (x2 = 3) → ((x2 = 4 → True) ∧ (¬ (x2 = 4) → ((x2 = 5 → (vp_in x1 12)) ∧ (¬ (x2 = 5) → ((x2 = 6 → (¬ (p1 = 0) → (g_62 I 1 x1 (x2 - 6)))) ∧ (¬ (x2 = 6) → ((x2 = 7 → (¬ (p1 = 0) → (g_62 I 1 x1 (x2 - 6)))) ∧ (¬ (x2 = 7) → ((x2 = 8 → (¬ (p1 = 0) → (g_62 I 1 x1 (x2 - 6)))) ∧ (¬ (x2 = 8) → ((x2 = 9 → (g_114 I x1 x2)) ∧ (¬ (x2 = 9) → ((x2 = 10 → (g_114 I x1 x2)) ∧ (¬ (x2 = 10) → ((x2 = 11 → (g_114 I x1 x2)) ∧ (¬ (x2 = 11) → ((x2 = 12 → (¬ (p1 = 0) → (g_63 I 1 x1))) ∧ (¬ (x2 = 12) → (g_114 I x1 x2))))))))))))))))))))))))) ∧ (¬ (3 ≤ x2) → (vp_in ((3 * x1) + x2) 36)))))
theorem cc_113 {l : LX} {d : Nat} {I : WI} {F : WF} {L : WL} {t : Nat} {x1 : Int32} {x2 : Int32} (hg : g_113 I x1 x2) : Con l 113 (d + 6) 0 0 [.ref 0, .int x1, .int x2] SH (I, F, L, RT t) (po_I_I F L t (v_113 I x1 x2)) := by
  refine cn_113 ?_
  obtain ⟨T1, hT1⟩ : ∃ r : Int32 × WI, r = (v_113 I x1 x2) := ⟨_, rfl⟩
  rw [← hT1]
  have he := (hT1.trans (v_113.eq_1 ..)).symm
  have hg := Eq.mp (g_113.eq_1 ..) hg
  refine bk_113_0 (cc_110 (d := d + 4) ) ?_
  refine bk_113_5 (fun h2 => ?_) (fun h2 => ?_)
  · have he := ite_p h2 he
    exact bk_113_18 (rl_I_I he)
  · have he := ite_n h2 he
    have hg := hg h2
    refine bk_113_8 (cc_107 (d := d + 5) ) ?_
    refine bk_113_15 (fun h4 => ?_) (fun h4 => ?_)
    · have he := ite_p h4 he
      have hg := hg h4
      refine bk_113_21 (fun h5 => ?_) (fun h5 => ?_)
      · have he := ite_p h5 he
        have hg := hg.1 h5
        obtain ⟨k6, hg⟩ := hg
        obtain ⟨X1, hX1⟩ : ∃ r : Int32, r = (if (I 10 x1.toNatClampNeg) = (-1) then 0 else 1) := ⟨_, rfl⟩
        have J1 : ∀ p1 : Int32, p1 = X1 → Wp l 113 (d + 6) 0 0 (po_I_I F L t T1) 0 0 58 [(0, .ref 0), (1, .int x1), (2, .int x2)] [.int p1] SH (I, F, L, RT t) := by
          intro p1 hr
          have hr := hr.trans hX1
          have he := bx_eq hr he
          have hg := bx_un hr hg
          refine bk_113_58 (fun h8 => ?_) (fun h8 => ?_) (fun h8 => ?_) (fun h8 => ?_) (fun h8 => ?_) (fun h8 => ?_) (fun h8 => ?_) (fun h8 => ?_) (fun h8 => ?_) (fun h8 => ?_) (fun h8x0 h8x1 h8x2 h8x3 h8x4 h8x5 h8x6 h8x7 h8x8 h8x9 => ?_)
          · have he := ite_p h8 he
            have hg := hg.1 h8
            have k9 := hg
            exact bk_113_116 k9 (rl_I_I he)
          · have he := ite_n (show ¬ x2 = 3 from fun e => absurd (h8.symm.trans e) (by decide)) he
            have hg := hg.2 (show ¬ x2 = 3 from fun e => absurd (h8.symm.trans e) (by decide))
            have he := ite_p h8 he
            refine bk_113_126 (cc_61 (d := d + 4) (by first | decide | (unfold isS; decide) | (unfold isS; omega))) ?_
            refine bk_113_134 (fun h11 => ?_) (fun h11 => ?_)
            · have he := ite_p h11 he
              refine bk_113_141 ?_
              exact bk_113_142 (rl_I_I he)
            · have he := ite_n h11 he
              refine bk_113_137 ?_
              exact bk_113_142 (rl_I_I he)
          · have he := ite_n (show ¬ x2 = 3 from fun e => absurd (h8.symm.trans e) (by decide)) he
            have hg := hg.2 (show ¬ x2 = 3 from fun e => absurd (h8.symm.trans e) (by decide))
            have he := ite_n (show ¬ x2 = 4 from fun e => absurd (h8.symm.trans e) (by decide)) he
            have hg := hg.2 (show ¬ x2 = 4 from fun e => absurd (h8.symm.trans e) (by decide))
            have he := ite_p h8 he
            have hg := hg.1 h8
            have k12 := hg
            exact bk_113_143 k12 (rl_I_I he)
          · have he := ite_n (show ¬ x2 = 3 from fun e => absurd (h8.symm.trans e) (by decide)) he
            have hg := hg.2 (show ¬ x2 = 3 from fun e => absurd (h8.symm.trans e) (by decide))
            have he := ite_n (show ¬ x2 = 4 from fun e => absurd (h8.symm.trans e) (by decide)) he
            have hg := hg.2 (show ¬ x2 = 4 from fun e => absurd (h8.symm.trans e) (by decide))
            have he := ite_n (show ¬ x2 = 5 from fun e => absurd (h8.symm.trans e) (by decide)) he
            have hg := hg.2 (show ¬ x2 = 5 from fun e => absurd (h8.symm.trans e) (by decide))
            have he := ite_p h8 he
            have hg := hg.1 h8
            refine bk_113_153 (fun h13 => ?_) (fun h13 => ?_)
            · have he := ite_p h13 he
              refine bk_113_172 ?_
              exact bk_113_174 (rl_I_I he)
            · have he := ite_n h13 he
              have hg := hg h13
              have k14 := hg
              refine bk_113_157 (cc_62 (d := d + 4) (by first | decide | (unfold isS; decide) | (unfold isS; omega)) k14) ?_
              refine bk_113_169 ?_
              exact bk_113_174 (rl_I_I he)
          · have he := ite_n (show ¬ x2 = 3 from fun e => absurd (h8.symm.trans e) (by decide)) he
            have hg := hg.2 (show ¬ x2 = 3 from fun e => absurd (h8.symm.trans e) (by decide))
            have he := ite_n (show ¬ x2 = 4 from fun e => absurd (h8.symm.trans e) (by decide)) he
            have hg := hg.2 (show ¬ x2 = 4 from fun e => absurd (h8.symm.trans e) (by decide))
            have he := ite_n (show ¬ x2 = 5 from fun e => absurd (h8.symm.trans e) (by decide)) he
            have hg := hg.2 (show ¬ x2 = 5 from fun e => absurd (h8.symm.trans e) (by decide))
            have he := ite_n (show ¬ x2 = 6 from fun e => absurd (h8.symm.trans e) (by decide)) he
            have hg := hg.2 (show ¬ x2 = 6 from fun e => absurd (h8.symm.trans e) (by decide))
            have he := ite_p h8 he
            have hg := hg.1 h8
            refine bk_113_153 (fun h15 => ?_) (fun h15 => ?_)
            · have he := ite_p h15 he
              refine bk_113_172 ?_
              exact bk_113_174 (rl_I_I he)
            · have he := ite_n h15 he
              have hg := hg h15
              have k16 := hg
              refine bk_113_157 (cc_62 (d := d + 4) (by first | decide | (unfold isS; decide) | (unfold isS; omega)) k16) ?_
              refine bk_113_169 ?_
              exact bk_113_174 (rl_I_I he)
          · have he := ite_n (show ¬ x2 = 3 from fun e => absurd (h8.symm.trans e) (by decide)) he
            have hg := hg.2 (show ¬ x2 = 3 from fun e => absurd (h8.symm.trans e) (by decide))
            have he := ite_n (show ¬ x2 = 4 from fun e => absurd (h8.symm.trans e) (by decide)) he
            have hg := hg.2 (show ¬ x2 = 4 from fun e => absurd (h8.symm.trans e) (by decide))
            have he := ite_n (show ¬ x2 = 5 from fun e => absurd (h8.symm.trans e) (by decide)) he
            have hg := hg.2 (show ¬ x2 = 5 from fun e => absurd (h8.symm.trans e) (by decide))
            have he := ite_n (show ¬ x2 = 6 from fun e => absurd (h8.symm.trans e) (by decide)) he
            have hg := hg.2 (show ¬ x2 = 6 from fun e => absurd (h8.symm.trans e) (by decide))
            have he := ite_n (show ¬ x2 = 7 from fun e => absurd (h8.symm.trans e) (by decide)) he
            have hg := hg.2 (show ¬ x2 = 7 from fun e => absurd (h8.symm.trans e) (by decide))
            have he := ite_p h8 he
            have hg := hg.1 h8
            refine bk_113_153 (fun h17 => ?_) (fun h17 => ?_)
            · have he := ite_p h17 he
              refine bk_113_172 ?_
              exact bk_113_174 (rl_I_I he)
            · have he := ite_n h17 he
              have hg := hg h17
              have k18 := hg
              refine bk_113_157 (cc_62 (d := d + 4) (by first | decide | (unfold isS; decide) | (unfold isS; omega)) k18) ?_
              refine bk_113_169 ?_
              exact bk_113_174 (rl_I_I he)
          · have he := ite_n (show ¬ x2 = 3 from fun e => absurd (h8.symm.trans e) (by decide)) he
            have hg := hg.2 (show ¬ x2 = 3 from fun e => absurd (h8.symm.trans e) (by decide))
            have he := ite_n (show ¬ x2 = 4 from fun e => absurd (h8.symm.trans e) (by decide)) he
            have hg := hg.2 (show ¬ x2 = 4 from fun e => absurd (h8.symm.trans e) (by decide))
            have he := ite_n (show ¬ x2 = 5 from fun e => absurd (h8.symm.trans e) (by decide)) he
            have hg := hg.2 (show ¬ x2 = 5 from fun e => absurd (h8.symm.trans e) (by decide))
            have he := ite_n (show ¬ x2 = 6 from fun e => absurd (h8.symm.trans e) (by decide)) he
            have hg := hg.2 (show ¬ x2 = 6 from fun e => absurd (h8.symm.trans e) (by decide))
            have he := ite_n (show ¬ x2 = 7 from fun e => absurd (h8.symm.trans e) (by decide)) he
            have hg := hg.2 (show ¬ x2 = 7 from fun e => absurd (h8.symm.trans e) (by decide))
            have he := ite_n (show ¬ x2 = 8 from fun e => absurd (h8.symm.trans e) (by decide)) he
            have hg := hg.2 (show ¬ x2 = 8 from fun e => absurd (h8.symm.trans e) (by decide))
            have he := ite_p h8 he
            have hg := hg.1 h8
            have k19 := hg
            refine bk_113_194 (cq_I_I (cc_114 (d := d + 0)  k19)) ?_
            rintro _ _ _ _ _ ⟨p2, hr, rfl, rfl, rfl, rfl, rfl⟩
            have he := bx_eq hr he
            exact bk_113_200 (rl_I_I he)
          · have he := ite_n (show ¬ x2 = 3 from fun e => absurd (h8.symm.trans e) (by decide)) he
            have hg := hg.2 (show ¬ x2 = 3 from fun e => absurd (h8.symm.trans e) (by decide))
            have he := ite_n (show ¬ x2 = 4 from fun e => absurd (h8.symm.trans e) (by decide)) he
            have hg := hg.2 (show ¬ x2 = 4 from fun e => absurd (h8.symm.trans e) (by decide))
            have he := ite_n (show ¬ x2 = 5 from fun e => absurd (h8.symm.trans e) (by decide)) he
            have hg := hg.2 (show ¬ x2 = 5 from fun e => absurd (h8.symm.trans e) (by decide))
            have he := ite_n (show ¬ x2 = 6 from fun e => absurd (h8.symm.trans e) (by decide)) he
            have hg := hg.2 (show ¬ x2 = 6 from fun e => absurd (h8.symm.trans e) (by decide))
            have he := ite_n (show ¬ x2 = 7 from fun e => absurd (h8.symm.trans e) (by decide)) he
            have hg := hg.2 (show ¬ x2 = 7 from fun e => absurd (h8.symm.trans e) (by decide))
            have he := ite_n (show ¬ x2 = 8 from fun e => absurd (h8.symm.trans e) (by decide)) he
            have hg := hg.2 (show ¬ x2 = 8 from fun e => absurd (h8.symm.trans e) (by decide))
            have he := ite_n (show ¬ x2 = 9 from fun e => absurd (h8.symm.trans e) (by decide)) he
            have hg := hg.2 (show ¬ x2 = 9 from fun e => absurd (h8.symm.trans e) (by decide))
            have he := ite_p h8 he
            have hg := hg.1 h8
            have k20 := hg
            refine bk_113_194 (cq_I_I (cc_114 (d := d + 0)  k20)) ?_
            rintro _ _ _ _ _ ⟨p3, hr, rfl, rfl, rfl, rfl, rfl⟩
            have he := bx_eq hr he
            exact bk_113_200 (rl_I_I he)
          · have he := ite_n (show ¬ x2 = 3 from fun e => absurd (h8.symm.trans e) (by decide)) he
            have hg := hg.2 (show ¬ x2 = 3 from fun e => absurd (h8.symm.trans e) (by decide))
            have he := ite_n (show ¬ x2 = 4 from fun e => absurd (h8.symm.trans e) (by decide)) he
            have hg := hg.2 (show ¬ x2 = 4 from fun e => absurd (h8.symm.trans e) (by decide))
            have he := ite_n (show ¬ x2 = 5 from fun e => absurd (h8.symm.trans e) (by decide)) he
            have hg := hg.2 (show ¬ x2 = 5 from fun e => absurd (h8.symm.trans e) (by decide))
            have he := ite_n (show ¬ x2 = 6 from fun e => absurd (h8.symm.trans e) (by decide)) he
            have hg := hg.2 (show ¬ x2 = 6 from fun e => absurd (h8.symm.trans e) (by decide))
            have he := ite_n (show ¬ x2 = 7 from fun e => absurd (h8.symm.trans e) (by decide)) he
            have hg := hg.2 (show ¬ x2 = 7 from fun e => absurd (h8.symm.trans e) (by decide))
            have he := ite_n (show ¬ x2 = 8 from fun e => absurd (h8.symm.trans e) (by decide)) he
            have hg := hg.2 (show ¬ x2 = 8 from fun e => absurd (h8.symm.trans e) (by decide))
            have he := ite_n (show ¬ x2 = 9 from fun e => absurd (h8.symm.trans e) (by decide)) he
            have hg := hg.2 (show ¬ x2 = 9 from fun e => absurd (h8.symm.trans e) (by decide))
            have he := ite_n (show ¬ x2 = 10 from fun e => absurd (h8.symm.trans e) (by decide)) he
            have hg := hg.2 (show ¬ x2 = 10 from fun e => absurd (h8.symm.trans e) (by decide))
            have he := ite_p h8 he
            have hg := hg.1 h8
            have k21 := hg
            refine bk_113_194 (cq_I_I (cc_114 (d := d + 0)  k21)) ?_
            rintro _ _ _ _ _ ⟨p4, hr, rfl, rfl, rfl, rfl, rfl⟩
            have he := bx_eq hr he
            exact bk_113_200 (rl_I_I he)
          · have he := ite_n (show ¬ x2 = 3 from fun e => absurd (h8.symm.trans e) (by decide)) he
            have hg := hg.2 (show ¬ x2 = 3 from fun e => absurd (h8.symm.trans e) (by decide))
            have he := ite_n (show ¬ x2 = 4 from fun e => absurd (h8.symm.trans e) (by decide)) he
            have hg := hg.2 (show ¬ x2 = 4 from fun e => absurd (h8.symm.trans e) (by decide))
            have he := ite_n (show ¬ x2 = 5 from fun e => absurd (h8.symm.trans e) (by decide)) he
            have hg := hg.2 (show ¬ x2 = 5 from fun e => absurd (h8.symm.trans e) (by decide))
            have he := ite_n (show ¬ x2 = 6 from fun e => absurd (h8.symm.trans e) (by decide)) he
            have hg := hg.2 (show ¬ x2 = 6 from fun e => absurd (h8.symm.trans e) (by decide))
            have he := ite_n (show ¬ x2 = 7 from fun e => absurd (h8.symm.trans e) (by decide)) he
            have hg := hg.2 (show ¬ x2 = 7 from fun e => absurd (h8.symm.trans e) (by decide))
            have he := ite_n (show ¬ x2 = 8 from fun e => absurd (h8.symm.trans e) (by decide)) he
            have hg := hg.2 (show ¬ x2 = 8 from fun e => absurd (h8.symm.trans e) (by decide))
            have he := ite_n (show ¬ x2 = 9 from fun e => absurd (h8.symm.trans e) (by decide)) he
            have hg := hg.2 (show ¬ x2 = 9 from fun e => absurd (h8.symm.trans e) (by decide))
            have he := ite_n (show ¬ x2 = 10 from fun e => absurd (h8.symm.trans e) (by decide)) he
            have hg := hg.2 (show ¬ x2 = 10 from fun e => absurd (h8.symm.trans e) (by decide))
            have he := ite_n (show ¬ x2 = 11 from fun e => absurd (h8.symm.trans e) (by decide)) he
            have hg := hg.2 (show ¬ x2 = 11 from fun e => absurd (h8.symm.trans e) (by decide))
            have he := ite_p h8 he
            have hg := hg.1 h8
            refine bk_113_175 (fun h22 => ?_) (fun h22 => ?_)
            · have he := ite_p h22 he
              refine bk_113_191 ?_
              exact bk_113_193 (rl_I_I he)
            · have he := ite_n h22 he
              have hg := hg h22
              have k23 := hg
              refine bk_113_179 (cc_63 (d := d + 2) (by first | decide | (unfold isS; decide) | (unfold isS; omega)) k23) ?_
              refine bk_113_187 ?_
              exact bk_113_193 (rl_I_I he)
          · have he := ite_n h8x0 he
            have hg := hg.2 h8x0
            have he := ite_n h8x1 he
            have hg := hg.2 h8x1
            have he := ite_n h8x2 he
            have hg := hg.2 h8x2
            have he := ite_n h8x3 he
            have hg := hg.2 h8x3
            have he := ite_n h8x4 he
            have hg := hg.2 h8x4
            have he := ite_n h8x5 he
            have hg := hg.2 h8x5
            have he := ite_n h8x6 he
            have hg := hg.2 h8x6
            have he := ite_n h8x7 he
            have hg := hg.2 h8x7
            have he := ite_n h8x8 he
            have hg := hg.2 h8x8
            have he := ite_n h8x9 he
            have hg := hg.2 h8x9
            have k24 := hg
            refine bk_113_194 (cq_I_I (cc_114 (d := d + 0)  k24)) ?_
            rintro _ _ _ _ _ ⟨p5, hr, rfl, rfl, rfl, rfl, rfl⟩
            have he := bx_eq hr he
            exact bk_113_200 (rl_I_I he)
        have he := hX1.symm
        refine bk_113_40 k6 (fun h7 => ?_) (fun h7 => ?_)
        · have he := ite_p h7 he
          refine bk_113_57 ?_
          exact J1 0 he
        · have he := ite_n h7 he
          refine bk_113_53 ?_
          exact J1 1 he
      · have he := ite_n h5 he
        have hg := hg.2 h5
        have k25 := hg
        exact bk_113_26 k25 (rl_I_I he)
    · have he := ite_n h4 he
      exact bk_113_18 (rl_I_I he)
end
