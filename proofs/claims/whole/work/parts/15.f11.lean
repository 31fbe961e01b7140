section
/-- the loop at 8 of VectorShelf$Company.friendOf -/
def lp_1_8 (I : WI) (r1 : Nat) (x2 : Int32) (a3 : Int32) (a4 : Int32) : Nat → Int32 × Int32
  | 0 => (a3, a4)
  | k + 1 => bx (lp_1_8 I r1 x2 a3 a4 k) (fun p1 => (bx ((if (nI k) = x2 then (p1.1, p1.2) else (if (v_61 I r1 (nI k)) = 0 then (p1.1, p1.2) else (if p1.1 = (-1) then ((nI k), (v_71 I r1 x2 (nI k))) else (if p1.2 ≤ (v_71 I r1 x2 (nI k)) then (p1.1, p1.2) else ((nI k), (v_71 I r1 x2 (nI k))))))) : Int32 × Int32) (fun p2 => (p2.1, p2.2))))
def gl_1_8 (I : WI) (r1 : Nat) (x2 : Int32) (a3 : Int32) (a4 : Int32) (N : Nat) : Prop := (∀ k, k < N → bx (lp_1_8 I r1 x2 a3 a4 k) (fun p1 => (¬ ((nI k) = x2) → (¬ ((v_61 I r1 (nI k)) = 0) → (g_71 I r1 x2 (nI k))))))
theorem lw_1_8 {l : LX} {d : Nat} {P : RP} {I : WI} {F : WF} {L : WL} {t : Nat} {r1 : Nat} {x2 : Int32} {a3 : Int32} {a4 : Int32} (hr1 : isS r1) (hgl : gl_1_8 I r1 x2 a3 a4 ((I r1 8).toNatClampNeg)) (hx : ∀ p1 : Int32 × Int32, p1 = lp_1_8 I r1 x2 a3 a4 ((I r1 8).toNatClampNeg) → Wp l 1 (d + 3) 0 0 P 0 0 66 [(3, .int p1.1)] [] SH (I, F, L, RT t)) : Wp l 1 (d + 3) 0 0 P 0 0 8 [(1, .ref r1), (2, .int x2), (3, .int a3), (4, .int a4), (5, .int 0)] [] SH (I, F, L, RT t) := by
  have hin := hgl
  have loop : ∀ m k, k + m = (I r1 8).toNatClampNeg → ∀ p1 : Int32 × Int32, p1 = lp_1_8 I r1 x2 a3 a4 k → Wp l 1 (d + 3) 0 0 P 0 0 8 [(1, .ref r1), (2, .int x2), (3, .int p1.1), (4, .int p1.2), (5, .int (nI k))] [] SH (I, F, L, RT t) := by
    intro m
    induction m with
    | zero =>
      intro k hk p1 hs
      obtain rfl : k = (I r1 8).toNatClampNeg := by omega
      exact bk_1_8 hr1 (fun _ => hx _ hs) (fun h => absurd ((le_cl (Nat.le_refl _)).mpr rfl) h)
    | succ m ih =>
      intro k hk p1 hs
      have hk2 : k < (I r1 8).toNatClampNeg := by omega
      have ih := ih (k + 1) (by omega)
      rw [nI_succ] at ih
      have he := bx_eq hs (lp_1_8.eq_2 ..).symm
      have hg := bx_un hs (hin k hk2)
      refine bk_1_8 hr1 (fun h => absurd ((le_cl (E := (I r1 8)) (i := k) (by omega)).mp h) (by omega)) (fun _ => ?_)
      have hgX := hg
      obtain ⟨X1, hX1⟩ : ∃ r : Int32 × Int32, r = (if (nI k) = x2 then (p1.1, p1.2) else (if (v_61 I r1 (nI k)) = 0 then (p1.1, p1.2) else (if p1.1 = (-1) then ((nI k), (v_71 I r1 x2 (nI k))) else (if p1.2 ≤ (v_71 I r1 x2 (nI k)) then (p1.1, p1.2) else ((nI k), (v_71 I r1 x2 (nI k))))))) := ⟨_, rfl⟩
      have J1 : ∀ p2 : Int32 × Int32, p2 = X1 → Wp l 1 (d + 3) 0 0 P 0 0 60 [(1, .ref r1), (2, .int x2), (3, .int p2.1), (4, .int p2.2), (5, .int (nI k))] [] SH (I, F, L, RT t) := by
        intro p2 hr
        have hr := hr.trans hX1
        have he := bx_eq hr he
        refine bk_1_60 ?_
        exact ih (p2.1, p2.2) he
      have he := hX1.symm
      have hg := hgX
      refine bk_1_17 (fun h1 => ?_) (fun h1 => ?_)
      · have he := ite_p h1 he
        exact J1 (p1.1, p1.2) he
      · have he := ite_n h1 he
        have hg := hg h1
        refine bk_1_23 hr1 (cc_61 (d := d + 1) hr1) ?_
        refine bk_1_29 (fun h3 => ?_) (fun h3 => ?_)
        · have he := ite_p h3 he
          exact J1 (p1.1, p1.2) he
        · have he := ite_n h3 he
          have hg := hg h3
          have k4 := hg
          refine bk_1_32 hr1 (cc_71 (d := d + 0) hr1 k4) ?_
          refine bk_1_39 (fun h5 => ?_) (fun h5 => ?_)
          · have he := ite_p h5 he
            refine bk_1_53 ?_
            exact J1 ((nI k), (v_71 I r1 x2 (nI k))) he
          · have he := ite_n h5 he
            refine bk_1_46 (fun h6 => ?_) (fun h6 => ?_)
            · have he := ite_p h6 he
              exact J1 (p1.1, p1.2) he
            · have he := ite_n h6 he
              refine bk_1_53 ?_
              exact J1 ((nI k), (v_71 I r1 x2 (nI k))) he
  exact loop _ 0 (Nat.zero_add _) _ rfl
/-- VectorShelf$Company.friendOf(LVectorShelf$Shelf;I)I -/
def v_1 (I : WI) (r1 : Nat) (x2 : Int32) : Int32 := (bx ((lp_1_8 I r1 x2 ((-1) : Int32) (0 : Int32) ((I r1 8).toNatClampNeg)) : Int32 × Int32) (fun p3 => p3.1))
def g_1 (I : WI) (r1 : Nat) (x2 : Int32) : Prop := (gl_1_8 I r1 x2 ((-1) : Int32) (0 : Int32) ((I r1 8).toNatClampNeg))
theorem cc_1 {l : LX} {d : Nat} {I : WI} {F : WF} {L : WL} {t : Nat} {r1 : Nat} {x2 : Int32} (hr1 : isS r1) (hg : g_1 I r1 x2) : Con l 1 (d + 3) 0 0 [.ref 42, .ref r1, .int x2] SH (I, F, L, RT t) (rI (v_1 I r1 x2) (I, F, L, RT t)) := by
  refine cn_1 ?_
  obtain ⟨T1, hT1⟩ : ∃ r : Int32, r = (v_1 I r1 x2) := ⟨_, rfl⟩
  rw [← hT1]
  have he := (hT1.trans (v_1.eq_1 ..)).symm
  have hg := Eq.mp (g_1.eq_1 ..) hg
  refine bk_1_0 ?_
  have hgX := hg
  refine lw_1_8 (d := d) hr1 hgX (fun p3 hr => ?_)
  have he := bx_eq hr he
  exact bk_1_66 (rl_p_I he)
/-- the loop at 5 of VectorShelf$Company.friendsBy -/
def lp_2_5 (I : WI) (r1 : Nat) (x2 : Int32) (a3 : Int32) : Nat → Int32
  | 0 => a3
  | k + 1 => bx (lp_2_5 I r1 x2 a3 k) (fun p1 => (bx ((if (v_61 I r1 (nI k)) = 0 then p1 else (if ¬ (v_1 I r1 (nI k)) = x2 then p1 else (p1 ||| (1 <<< ((nI k) &&& 31))))) : Int32) (fun p2 => p2)))
def gl_2_5 (I : WI) (r1 : Nat) (x2 : Int32) (a3 : Int32) (N : Nat) : Prop := (∀ k, k < N → bx (lp_2_5 I r1 x2 a3 k) (fun p1 => (¬ ((v_61 I r1 (nI k)) = 0) → (g_1 I r1 (nI k)))))
theorem lw_2_5 {l : LX} {d : Nat} {P : RP} {I : WI} {F : WF} {L : WL} {t : Nat} {r1 : Nat} {x2 : Int32} {a3 : Int32} (hr1 : isS r1) (hgl : gl_2_5 I r1 x2 a3 ((I r1 8).toNatClampNeg)) (hx : ∀ p1 : Int32, p1 = lp_2_5 I r1 x2 a3 ((I r1 8).toNatClampNeg) → Wp l 2 (d + 4) 0 0 P 0 0 47 [(3, .int p1)] [] SH (I, F, L, RT t)) : Wp l 2 (d + 4) 0 0 P 0 0 5 [(0, .ref 42), (1, .ref r1), (2, .int x2), (3, .int a3), (4, .int 0)] [] SH (I, F, L, RT t) := by
  have hin := hgl
  have loop : ∀ m k, k + m = (I r1 8).toNatClampNeg → ∀ p1 : Int32, p1 = lp_2_5 I r1 x2 a3 k → Wp l 2 (d + 4) 0 0 P 0 0 5 [(0, .ref 42), (1, .ref r1), (2, .int x2), (3, .int p1), (4, .int (nI k))] [] SH (I, F, L, RT t) := by
    intro m
    induction m with
    | zero =>
      intro k hk p1 hs
      obtain rfl : k = (I r1 8).toNatClampNeg := by omega
      exact bk_2_5 hr1 (fun _ => hx _ hs) (fun h => absurd ((le_cl (Nat.le_refl _)).mpr rfl) h)
    | succ m ih =>
      intro k hk p1 hs
      have hk2 : k < (I r1 8).toNatClampNeg := by omega
      have ih := ih (k + 1) (by omega)
      rw [nI_succ] at ih
      have he := bx_eq hs (lp_2_5.eq_2 ..).symm
      have hg := bx_un hs (hin k hk2)
      refine bk_2_5 hr1 (fun h => absurd ((le_cl (E := (I r1 8)) (i := k) (by omega)).mp h) (by omega)) (fun _ => ?_)
      refine bk_2_14 hr1 (cc_61 (d := d + 2) hr1) ?_
      have hgX := hg
      obtain ⟨X1, hX1⟩ : ∃ r : Int32, r = (if (v_61 I r1 (nI k)) = 0 then p1 else (if ¬ (v_1 I r1 (nI k)) = x2 then p1 else (p1 ||| (1 <<< ((nI k) &&& 31))))) := ⟨_, rfl⟩
      have J1 : ∀ p2 : Int32, p2 = X1 → Wp l 2 (d + 4) 0 0 P 0 0 41 [(0, .ref 42), (1, .ref r1), (2, .int x2), (3, .int p2), (4, .int (nI k))] [] SH (I, F, L, RT t) := by
        intro p2 hr
        have hr := hr.trans hX1
        have he := bx_eq hr he
        refine bk_2_41 ?_
        exact ih p2 he
      have he := hX1.symm
      have hg := hgX
      refine bk_2_20 (fun h2 => ?_) (fun h2 => ?_)
      · have he := ite_p h2 he
        exact J1 p1 he
      · have he := ite_n h2 he
        have hg := hg h2
        have k3 := hg
        refine bk_2_23 (cc_1 (d := d + 0) hr1 k3) ?_
        refine bk_2_30 (fun h4 => ?_) (fun h4 => ?_)
        · have he := ite_p h4 he
          exact J1 p1 he
        · have he := ite_n h4 he
          refine bk_2_34 ?_
          exact J1 (p1 ||| (1 <<< ((nI k) &&& 31))) he
  exact loop _ 0 (Nat.zero_add _) _ rfl
/-- VectorShelf$Company.friendsBy(LVectorShelf$Shelf;I)I -/
def v_2 (I : WI) (r1 : Nat) (x2 : Int32) : Int32 := (bx ((lp_2_5 I r1 x2 (0 : Int32) ((I r1 8).toNatClampNeg)) : Int32) (fun p3 => p3))
def g_2 (I : WI) (r1 : Nat) (x2 : Int32) : Prop := (gl_2_5 I r1 x2 (0 : Int32) ((I r1 8).toNatClampNeg))
theorem cc_2 {l : LX} {d : Nat} {I : WI} {F : WF} {L : WL} {t : Nat} {r1 : Nat} {x2 : Int32} (hr1 : isS r1) (hg : g_2 I r1 x2) : Con l 2 (d + 4) 0 0 [.ref 42, .ref r1, .int x2] SH (I, F, L, RT t) (rI (v_2 I r1 x2) (I, F, L, RT t)) := by
  refine cn_2 ?_
  obtain ⟨T1, hT1⟩ : ∃ r : Int32, r = (v_2 I r1 x2) := ⟨_, rfl⟩
  rw [← hT1]
  have he := (hT1.trans (v_2.eq_1 ..)).symm
  have hg := Eq.mp (g_2.eq_1 ..) hg
  refine bk_2_0 ?_
  have hgX := hg
  refine lw_2_5 (d := d) hr1 hgX (fun p3 hr => ?_)
  have he := bx_eq hr he
  exact bk_2_47 (rl_p_I he)
/-- the loop at 18 of VectorShelf$Company.priceOf -/
def lp_4_18 (I : WI) (r1 : Nat) (x2 : Int32) (x3 : Int32) (a5 : Int32) : Nat → Int32
  | 0 => a5
  | k + 1 => bx (lp_4_18 I r1 x2 x3 a5 k) (fun p1 => (bx ((if (v_61 I r1 (nI k)) = 0 then p1 else (p1 + (v_282 (v_71 I r1 (nI k) x2) (v_71 I r1 (nI k) x3)))) : Int32) (fun p2 => p2)))
def gl_4_18 (I : WI) (r1 : Nat) (x2 : Int32) (x3 : Int32) (a5 : Int32) (N : Nat) : Prop := (∀ k, k < N → bx (lp_4_18 I r1 x2 x3 a5 k) (fun p1 => (¬ ((v_61 I r1 (nI k)) = 0) → ((g_71 I r1 (nI k) x2) ∧ (g_71 I r1 (nI k) x3)))))
theorem lw_4_18 {l : LX} {d : Nat} {P : RP} {I : WI} {F : WF} {L : WL} {t : Nat} {r1 : Nat} {x2 : Int32} {x3 : Int32} {a5 : Int32} (hr1 : isS r1) (hgl : gl_4_18 I r1 x2 x3 a5 ((I r1 8).toNatClampNeg)) (hx : ∀ p1 : Int32, p1 = lp_4_18 I r1 x2 x3 a5 ((I r1 8).toNatClampNeg) → Wp l 4 (d + 3) 0 0 P 0 0 64 [(5, .int p1)] [] SH (I, F, L, RT t)) : Wp l 4 (d + 3) 0 0 P 0 0 18 [(1, .ref r1), (2, .int x2), (3, .int x3), (5, .int a5), (6, .int 0)] [] SH (I, F, L, RT t) := by
  have hin := hgl
  have loop : ∀ m k, k + m = (I r1 8).toNatClampNeg → ∀ p1 : Int32, p1 = lp_4_18 I r1 x2 x3 a5 k → Wp l 4 (d + 3) 0 0 P 0 0 18 [(1, .ref r1), (2, .int x2), (3, .int x3), (5, .int p1), (6, .int (nI k))] [] SH (I, F, L, RT t) := by
    intro m
    induction m with
    | zero =>
      intro k hk p1 hs
      obtain rfl : k = (I r1 8).toNatClampNeg := by omega
      exact bk_4_18 hr1 (fun _ => hx _ hs) (fun h => absurd ((le_cl (Nat.le_refl _)).mpr rfl) h)
    | succ m ih =>
      intro k hk p1 hs
      have hk2 : k < (I r1 8).toNatClampNeg := by omega
      have ih := ih (k + 1) (by omega)
      rw [nI_succ] at ih
      have he := bx_eq hs (lp_4_18.eq_2 ..).symm
      have hg := bx_un hs (hin k hk2)
      refine bk_4_18 hr1 (fun h => absurd ((le_cl (E := (I r1 8)) (i := k) (by omega)).mp h) (by omega)) (fun _ => ?_)
      refine bk_4_27 hr1 (cc_61 (d := d + 1) hr1) ?_
      have hgX := hg
      obtain ⟨X1, hX1⟩ : ∃ r : Int32, r = (if (v_61 I r1 (nI k)) = 0 then p1 else (p1 + (v_282 (v_71 I r1 (nI k) x2) (v_71 I r1 (nI k) x3)))) := ⟨_, rfl⟩
      have J1 : ∀ p2 : Int32, p2 = X1 → Wp l 4 (d + 3) 0 0 P 0 0 58 [(1, .ref r1), (2, .int x2), (3, .int x3), (5, .int p2), (6, .int (nI k))] [] SH (I, F, L, RT t) := by
        intro p2 hr
        have hr := hr.trans hX1
        have he := bx_eq hr he
        refine bk_4_58 ?_
        exact ih p2 he
      have he := hX1.symm
      have hg := hgX
      refine bk_4_33 (fun h3 => ?_) (fun h3 => ?_)
      · have he := ite_p h3 he
        exact J1 p1 he
      · have he := ite_n h3 he
        have hg := hg h3
        obtain ⟨k4, hg⟩ := hg
        refine bk_4_36 hr1 (cc_71 (d := d + 0) hr1 k4) ?_
        have k5 := hg
        refine bk_4_45 hr1 (cc_71 (d := d + 0) hr1 k5) ?_
        refine bk_4_52 (cc_282 (d := d + 2) ) ?_
        refine bk_4_55 ?_
        exact J1 (p1 + (v_282 (v_71 I r1 (nI k) x2) (v_71 I r1 (nI k) x3))) he
  exact loop _ 0 (Nat.zero_add _) _ rfl
/-- VectorShelf$Company.priceOf(LVectorShelf$Shelf;IIZ)I -/
def v_4 (I : WI) (r1 : Nat) (x2 : Int32) (x3 : Int32) (x4 : Int32) : Int32 := (if ¬ x4 = 0 then (bx ((lp_4_18 I r1 x2 x3 (0 : Int32) ((I r1 8).toNatClampNeg)) : Int32) (fun p3 => p3)) else (v_71 I r1 x2 x3))
def g_4 (I : WI) (r1 : Nat) (x2 : Int32) (x3 : Int32) (x4 : Int32) : Prop := (((¬ x4 = 0) → (gl_4_18 I r1 x2 x3 (0 : Int32) ((I r1 8).toNatClampNeg))) ∧ (¬ (¬ x4 = 0) → (g_71 I r1 x2 x3)))
theorem cc_4 {l : LX} {d : Nat} {I : WI} {F : WF} {L : WL} {t : Nat} {r1 : Nat} {x2 : Int32} {x3 : Int32} {x4 : Int32} (hr1 : isS r1) (hg : g_4 I r1 x2 x3 x4) : Con l 4 (d + 3) 0 0 [.ref 42, .ref r1, .int x2, .int x3, .int x4] SH (I, F, L, RT t) (rI (v_4 I r1 x2 x3 x4) (I, F, L, RT t)) := by
  refine cn_4 ?_
  obtain ⟨T1, hT1⟩ : ∃ r : Int32, r = (v_4 I r1 x2 x3 x4) := ⟨_, rfl⟩
  rw [← hT1]
  have he := (hT1.trans (v_4.eq_1 ..)).symm
  have hg := Eq.mp (g_4.eq_1 ..) hg
  refine bk_4_0 (fun h1 => ?_) (fun h1 => ?_)
  · have he := ite_p h1 he
    have hg := hg.1 h1
    refine bk_4_12 ?_
    have hgX := hg
    refine lw_4_18 (d := d) hr1 hgX (fun p3 hr => ?_)
    have he := bx_eq hr he
    exact bk_4_64 (rl_p_I he)
  · have he := ite_n h1 he
    have hg := hg.2 h1
    have k7 := hg
    refine bk_4_5 hr1 (cc_71 (d := d + 0) hr1 k7) ?_
    exact bk_4_11 (rl_p_I he)
/-- the loop at 7 of VectorShelf$Company.nearestAmong -/
def lp_7_7 (I : WI) (r1 : Nat) (x2 : Int32) (x3 : Int32) (a4 : Int32) : Nat → Int32
  | 0 => a4
  | k + 1 => bx (lp_7_7 I r1 x2 x3 a4 k) (fun p1 => (bx ((if (v_111 x3 (nI k)) = 0 then p1 else (v_282 p1 (v_71 I r1 x2 (nI k)))) : Int32) (fun p2 => p2)))
def gl_7_7 (I : WI) (r1 : Nat) (x2 : Int32) (x3 : Int32) (a4 : Int32) (N : Nat) : Prop := (∀ k, k < N → bx (lp_7_7 I r1 x2 x3 a4 k) (fun p1 => (¬ ((v_111 x3 (nI k)) = 0) → (g_71 I r1 x2 (nI k)))))
theorem lw_7_7 {l : LX} {d : Nat} {P : RP} {I : WI} {F : WF} {L : WL} {t : Nat} {r1 : Nat} {x2 : Int32} {x3 : Int32} {a4 : Int32} (hr1 : isS r1) (hgl : gl_7_7 I r1 x2 x3 a4 ((I r1 8).toNatClampNeg)) (hx : ∀ p1 : Int32, p1 = lp_7_7 I r1 x2 x3 a4 ((I r1 8).toNatClampNeg) → Wp l 7 (d + 3) 0 0 P 0 0 45 [(4, .int p1)] [] SH (I, F, L, RT t)) : Wp l 7 (d + 3) 0 0 P 0 0 7 [(1, .ref r1), (2, .int x2), (3, .int x3), (4, .int a4), (5, .int 0)] [] SH (I, F, L, RT t) := by
  have hin := hgl
  have loop : ∀ m k, k + m = (I r1 8).toNatClampNeg → ∀ p1 : Int32, p1 = lp_7_7 I r1 x2 x3 a4 k → Wp l 7 (d + 3) 0 0 P 0 0 7 [(1, .ref r1), (2, .int x2), (3, .int x3), (4, .int p1), (5, .int (nI k))] [] SH (I, F, L, RT t) := by
    intro m
    induction m with
    | zero =>
      intro k hk p1 hs
      obtain rfl : k = (I r1 8).toNatClampNeg := by omega
      exact bk_7_7 hr1 (fun _ => hx _ hs) (fun h => absurd ((le_cl (Nat.le_refl _)).mpr rfl) h)
    | succ m ih =>
      intro k hk p1 hs
      have hk2 : k < (I r1 8).toNatClampNeg := by omega
      have ih := ih (k + 1) (by omega)
      rw [nI_succ] at ih
      have he := bx_eq hs (lp_7_7.eq_2 ..).symm
      have hg := bx_un hs (hin k hk2)
      refine bk_7_7 hr1 (fun h => absurd ((le_cl (E := (I r1 8)) (i := k) (by omega)).mp h) (by omega)) (fun _ => ?_)
      refine bk_7_16 (cc_111 (d := d + 2) ) ?_
      have hgX := hg
      obtain ⟨X1, hX1⟩ : ∃ r : Int32, r = (if (v_111 x3 (nI k)) = 0 then p1 else (v_282 p1 (v_71 I r1 x2 (nI k)))) := ⟨_, rfl⟩
      have J1 : ∀ p2 : Int32, p2 = X1 → Wp l 7 (d + 3) 0 0 P 0 0 39 [(1, .ref r1), (2, .int x2), (3, .int x3), (4, .int p2), (5, .int (nI k))] [] SH (I, F, L, RT t) := by
        intro p2 hr
        have hr := hr.trans hX1
        have he := bx_eq hr he
        refine bk_7_39 ?_
        exact ih p2 he
      have he := hX1.symm
      have hg := hgX
      refine bk_7_22 (fun h2 => ?_) (fun h2 => ?_)
      · have he := ite_p h2 he
        exact J1 p1 he
      · have he := ite_n h2 he
        have hg := hg h2
        have k3 := hg
        refine bk_7_25 hr1 (cc_71 (d := d + 0) hr1 k3) ?_
        refine bk_7_34 (cc_282 (d := d + 2) ) ?_
        refine bk_7_37 ?_
        exact J1 (v_282 p1 (v_71 I r1 x2 (nI k))) he
  exact loop _ 0 (Nat.zero_add _) _ rfl
/-- VectorShelf$Company.nearestAmong(LVectorShelf$Shelf;II)I -/
def v_7 (I : WI) (r1 : Nat) (x2 : Int32) (x3 : Int32) : Int32 := (bx ((lp_7_7 I r1 x2 x3 (999999999 : Int32) ((I r1 8).toNatClampNeg)) : Int32) (fun p3 => p3))
def g_7 (I : WI) (r1 : Nat) (x2 : Int32) (x3 : Int32) : Prop := (gl_7_7 I r1 x2 x3 (999999999 : Int32) ((I r1 8).toNatClampNeg))
theorem cc_7 {l : LX} {d : Nat} {I : WI} {F : WF} {L : WL} {t : Nat} {r1 : Nat} {x2 : Int32} {x3 : Int32} (hr1 : isS r1) (hg : g_7 I r1 x2 x3) : Con l 7 (d + 3) 0 0 [.ref 42, .ref r1, .int x2, .int x3] SH (I, F, L, RT t) (rI (v_7 I r1 x2 x3) (I, F, L, RT t)) := by
  refine cn_7 ?_
  obtain ⟨T1, hT1⟩ : ∃ r : Int32, r = (v_7 I r1 x2 x3) := ⟨_, rfl⟩
  rw [← hT1]
  have he := (hT1.trans (v_7.eq_1 ..)).symm
  have hg := Eq.mp (g_7.eq_1 ..) hg
  refine bk_7_0 ?_
  have hgX := hg
  refine lw_7_7 (d := d) hr1 hgX (fun p3 hr => ?_)
  have he := bx_eq hr he
  exact bk_7_45 (rl_p_I he)
/-- the loop at 6 of VectorShelf$Company.coveredBy -/
def lp_9_6 (I : WI) (r1 : Nat) (x2 : Int32) (x3 : Int32) (a4 : Int32) : Nat → Int32
  | 0 => a4
  | k + 1 => bx (lp_9_6 I r1 x2 x3 a4 k) (fun p1 => (bx ((if x3 < (v_71 I r1 x2 (nI k)) then p1 else (p1 ||| (1 <<< ((nI k) &&& 31)))) : Int32) (fun p2 => p2)))
def gl_9_6 (I : WI) (r1 : Nat) (x2 : Int32) (x3 : Int32) (a4 : Int32) (N : Nat) : Prop := (∀ k, k < N → bx (lp_9_6 I r1 x2 x3 a4 k) (fun p1 => (g_71 I r1 x2 (nI k))))
theorem lw_9_6 {l : LX} {d : Nat} {P : RP} {I : WI} {F : WF} {L : WL} {t : Nat} {r1 : Nat} {x2 : Int32} {x3 : Int32} {a4 : Int32} (hr1 : isS r1) (hgl : gl_9_6 I r1 x2 x3 a4 ((I r1 8).toNatClampNeg)) (hx : ∀ p1 : Int32, p1 = lp_9_6 I r1 x2 x3 a4 ((I r1 8).toNatClampNeg) → Wp l 9 (d + 3) 0 0 P 0 0 41 [(4, .int p1)] [] SH (I, F, L, RT t)) : Wp l 9 (d + 3) 0 0 P 0 0 6 [(1, .ref r1), (2, .int x2), (3, .int x3), (4, .int a4), (5, .int 0)] [] SH (I, F, L, RT t) := by
  have hin := hgl
  have loop : ∀ m k, k + m = (I r1 8).toNatClampNeg → ∀ p1 : Int32, p1 = lp_9_6 I r1 x2 x3 a4 k → Wp l 9 (d + 3) 0 0 P 0 0 6 [(1, .ref r1), (2, .int x2), (3, .int x3), (4, .int p1), (5, .int (nI k))] [] SH (I, F, L, RT t) := by
    intro m
    induction m with
    | zero =>
      intro k hk p1 hs
      obtain rfl : k = (I r1 8).toNatClampNeg := by omega
      exact bk_9_6 hr1 (fun _ => hx _ hs) (fun h => absurd ((le_cl (Nat.le_refl _)).mpr rfl) h)
    | succ m ih =>
      intro k hk p1 hs
      have hk2 : k < (I r1 8).toNatClampNeg := by omega
      have ih := ih (k + 1) (by omega)
      rw [nI_succ] at ih
      have he := bx_eq hs (lp_9_6.eq_2 ..).symm
      have hg := bx_un hs (hin k hk2)
      refine bk_9_6 hr1 (fun h => absurd ((le_cl (E := (I r1 8)) (i := k) (by omega)).mp h) (by omega)) (fun _ => ?_)
      have k1 := hg
      refine bk_9_15 hr1 (cc_71 (d := d + 0) hr1 k1) ?_
      obtain ⟨X1, hX1⟩ : ∃ r : Int32, r = (if x3 < (v_71 I r1 x2 (nI k)) then p1 else (p1 ||| (1 <<< ((nI k) &&& 31)))) := ⟨_, rfl⟩
      have J1 : ∀ p2 : Int32, p2 = X1 → Wp l 9 (d + 3) 0 0 P 0 0 35 [(1, .ref r1), (2, .int x2), (3, .int x3), (4, .int p2), (5, .int (nI k))] [] SH (I, F, L, RT t) := by
        intro p2 hr
        have hr := hr.trans hX1
        have he := bx_eq hr he
        refine bk_9_35 ?_
        exact ih p2 he
      have he := hX1.symm
      refine bk_9_22 (fun h2 => ?_) (fun h2 => ?_)
      · have he := ite_p h2 he
        exact J1 p1 he
      · have he := ite_n h2 he
        refine bk_9_26 ?_
        exact J1 (p1 ||| (1 <<< ((nI k) &&& 31))) he
  exact loop _ 0 (Nat.zero_add _) _ rfl
/-- VectorShelf$Company.coveredBy(LVectorShelf$Shelf;II)I -/
def v_9 (I : WI) (r1 : Nat) (x2 : Int32) (x3 : Int32) : Int32 := (bx ((lp_9_6 I r1 x2 x3 (0 : Int32) ((I r1 8).toNatClampNeg)) : Int32) (fun p3 => p3))
def g_9 (I : WI) (r1 : Nat) (x2 : Int32) (x3 : Int32) : Prop := (gl_9_6 I r1 x2 x3 (0 : Int32) ((I r1 8).toNatClampNeg))
theorem cc_9 {l : LX} {d : Nat} {I : WI} {F : WF} {L : WL} {t : Nat} {r1 : Nat} {x2 : Int32} {x3 : Int32} (hr1 : isS r1) (hg : g_9 I r1 x2 x3) : Con l 9 (d + 3) 0 0 [.ref 42, .ref r1, .int x2, .int x3] SH (I, F, L, RT t) (rI (v_9 I r1 x2 x3) (I, F, L, RT t)) := by
  refine cn_9 ?_
  obtain ⟨T1, hT1⟩ : ∃ r : Int32, r = (v_9 I r1 x2 x3) := ⟨_, rfl⟩
  rw [← hT1]
  have he := (hT1.trans (v_9.eq_1 ..)).symm
  have hg := Eq.mp (g_9.eq_1 ..) hg
  refine bk_9_0 ?_
  have hgX := hg
  refine lw_9_6 (d := d) hr1 hgX (fun p3 hr => ?_)
  have he := bx_eq hr he
  exact bk_9_41 (rl_p_I he)
/-- the loop at 8 of VectorShelf$Judge.valueOf -/
def lp_13_8 (r1 : Nat) (x3 : Int32) (r4 : Nat) (x5 : Int32) : Nat → Int32 → WI → WI
  | 0, x6, I => I
  | k + 1, x6, I => (if x3 ≤ x6 then I else (if 160 ≤ x6 then I else (bx ((if (I (r1 + 1) x6.toNatClampNeg) < 0 then (if (I (r1 + 1) x6.toNatClampNeg) < (-6) then (if (I (r1 + 1) x6.toNatClampNeg) < (-8) then (bx ((v_18 I (I (r1 + 1) x6.toNatClampNeg)) : WI) (fun p1 => p1)) else (bx ((v_16 I (I (r1 + 1) x6.toNatClampNeg)) : WI) (fun p2 => p2))) else (bx ((v_14 I (v_15 I (I (r1 + 1) x6.toNatClampNeg) r4 x5)) : WI) (fun p3 => p3))) else (bx ((v_14 I (I (r1 + 1) x6.toNatClampNeg)) : WI) (fun p4 => p4))) : WI) (fun p5 => (lp_13_8 r1 x3 r4 x5 k (x6 + 1) p5)))))
def gl_13_8 (r1 : Nat) (x3 : Int32) (r4 : Nat) (x5 : Int32) : Nat → Int32 → WI → Prop
  | 0, _, _ => False
  | k + 1, x6, I => (¬ (x3 ≤ x6) → (¬ (160 ≤ x6) → ((vp_in x6 160) ∧ (((((I (r1 + 1) x6.toNatClampNeg) < 0) → ((((I (r1 + 1) x6.toNatClampNeg) < (-6)) → ((((I (r1 + 1) x6.toNatClampNeg) < (-8)) → (g_18 I)) ∧ (¬ ((I (r1 + 1) x6.toNatClampNeg) < (-8)) → (g_16 I (I (r1 + 1) x6.toNatClampNeg))))) ∧ (¬ ((I (r1 + 1) x6.toNatClampNeg) < (-6)) → ((g_15 (I (r1 + 1) x6.toNatClampNeg) x5) ∧ (g_14 I))))) ∧ (¬ ((I (r1 + 1) x6.toNatClampNeg) < 0) → (g_14 I))) ∧ (bx ((if (I (r1 + 1) x6.toNatClampNeg) < 0 then (if (I (r1 + 1) x6.toNatClampNeg) < (-6) then (if (I (r1 + 1) x6.toNatClampNeg) < (-8) then (bx ((v_18 I (I (r1 + 1) x6.toNatClampNeg)) : WI) (fun p1 => p1)) else (bx ((v_16 I (I (r1 + 1) x6.toNatClampNeg)) : WI) (fun p2 => p2))) else (bx ((v_14 I (v_15 I (I (r1 + 1) x6.toNatClampNeg) r4 x5)) : WI) (fun p3 => p3))) else (bx ((v_14 I (I (r1 + 1) x6.toNatClampNeg)) : WI) (fun p4 => p4))) : WI) (fun p5 => (gl_13_8 r1 x3 r4 x5 k (x6 + 1) p5)))))))
theorem lw_13_8 {l : LX} {d : Nat} {P : RP} {F : WF} {L : WL} {t : Nat} {r1 : Nat} {x3 : Int32} {r4 : Nat} {x5 : Int32} (hr1 : isT r1) (hr4 : isS r4) : ∀ k : Nat, ∀ (x6 : Int32) (I : WI), gl_13_8 r1 x3 r4 x5 k x6 I → (∀ r : WI, r = lp_13_8 r1 x3 r4 x5 k x6 I → Wp l 13 (d + 3) 0 0 P 0 0 98 [(0, .ref 35)] [] SH (r, F, L, RT t)) → Wp l 13 (d + 3) 0 0 P 0 0 8 [(0, .ref 35), (1, .ref r1), (3, .int x3), (4, .ref r4), (5, .int x5), (6, .int x6)] [] SH (I, F, L, RT t) := by
  intro k
  induction k with
  | zero =>
    intro x6 I hg hx
    exact hg.elim
  | succ k ih =>
    intro x6 I hg hx
    have hg := Eq.mp (gl_13_8.eq_2 ..) hg
    obtain ⟨T1, hT1⟩ : ∃ r : WI, r = lp_13_8 r1 x3 r4 x5 (k + 1) x6 I := ⟨_, rfl⟩
    have hx : ∀ r : WI, r = T1 → Wp l 13 (d + 3) 0 0 P 0 0 98 [(0, .ref 35)] [] SH (r, F, L, RT t) := fun r hr => hx r (hr.trans hT1)
    have he := (hT1.trans (lp_13_8.eq_2 ..)).symm
    refine bk_13_8 (fun h1 => ?_) (fun h1 => ?_)
    · have he := ite_p h1 he
      exact hx I he
    · have he := ite_n h1 he
      have hg := hg h1
      refine bk_13_14 hr1 (fun h2 => ?_) (fun h2 => ?_)
      · have he := ite_p h2 he
        exact hx I he
      · have he := ite_n h2 he
        have hg := hg h2
        obtain ⟨k3, hg⟩ := hg
        obtain ⟨hgX, hg⟩ := hg
        obtain ⟨X1, hX1⟩ : ∃ r : WI, r = (if (I (r1 + 1) x6.toNatClampNeg) < 0 then (if (I (r1 + 1) x6.toNatClampNeg) < (-6) then (if (I (r1 + 1) x6.toNatClampNeg) < (-8) then (bx ((v_18 I (I (r1 + 1) x6.toNatClampNeg)) : WI) (fun p1 => p1)) else (bx ((v_16 I (I (r1 + 1) x6.toNatClampNeg)) : WI) (fun p2 => p2))) else (bx ((v_14 I (v_15 I (I (r1 + 1) x6.toNatClampNeg) r4 x5)) : WI) (fun p3 => p3))) else (bx ((v_14 I (I (r1 + 1) x6.toNatClampNeg)) : WI) (fun p4 => p4))) := ⟨_, rfl⟩
        have J1 : ∀ p5 : WI, p5 = X1 → Wp l 13 (d + 3) 0 0 P 0 0 92 [(0, .ref 35), (1, .ref r1), (3, .int x3), (4, .ref r4), (5, .int x5), (6, .int x6)] [] SH (p5, F, L, RT t) := by
          intro p5 hr
          have hr := hr.trans hX1
          have he := bx_eq hr he
          have hg := bx_un hr hg
          refine bk_13_92 ?_
          exact ih (x6 + 1) p5 hg (fun r hr => hx r (hr.trans he))
        have he := hX1.symm
        have hg := hgX
        refine bk_13_24 hr1 k3 (fun h4 => ?_) (fun h4 => ?_)
        · have he := ite_p h4 he
          have hg := hg.1 h4
          refine bk_13_47 (fun h5 => ?_) (fun h5 => ?_)
          · have he := ite_p h5 he
            have hg := hg.1 h5
            refine bk_13_70 (fun h6 => ?_) (fun h6 => ?_)
            · have he := ite_p h6 he
              have hg := hg.1 h6
              have k7 := hg
              refine bk_13_86 (cq_V_I (cc_18 (d := d + 0)  k7)) ?_
              rintro _ _ _ _ ⟨p1, hr, rfl, rfl, rfl, rfl⟩
              have he := bx_eq hr he
              exact J1 p1 he
            · have he := ite_n h6 he
              have hg := hg.2 h6
              have k8 := hg
              refine bk_13_77 (cq_V_I (cc_16 (d := d + 1)  k8)) ?_
              rintro _ _ _ _ ⟨p2, hr, rfl, rfl, rfl, rfl⟩
              have he := bx_eq hr he
              refine bk_13_83 ?_
              exact J1 p2 he
          · have he := ite_n h5 he
            have hg := hg.2 h5
            obtain ⟨k9, hg⟩ := hg
            refine bk_13_54 (cc_15 (d := d + 2) hr4 k9) ?_
            have k10 := hg
            refine bk_13_64 (cq_V_I (cc_14 (d := d + 2)  k10)) ?_
            rintro _ _ _ _ ⟨p3, hr, rfl, rfl, rfl, rfl⟩
            have he := bx_eq hr he
            refine bk_13_67 ?_
            exact J1 p3 he
        · have he := ite_n h4 he
          have hg := hg.2 h4
          have k11 := hg
          refine bk_13_38 (cq_V_I (cc_14 (d := d + 2)  k11)) ?_
          rintro _ _ _ _ ⟨p4, hr, rfl, rfl, rfl, rfl⟩
          have he := bx_eq hr he
          refine bk_13_44 ?_
          exact J1 p4 he
/-- VectorShelf$Judge.valueOf(LVectorShelf$Text;IILVectorShelf$Shelf;I)I -/
def v_13 (I : WI) (r1 : Nat) (x2 : Int32) (x3 : Int32) (r4 : Nat) (x5 : Int32) : Int32 × WI := (bx ((lp_13_8 r1 x3 r4 x5 400 x2 (up2 I 35 1 0)) : WI) (fun p6 => (if (p6 35 1) ≤ 0 then (0, p6) else ((p6 36 0), p6))))
def g_13 (I : WI) (r1 : Nat) (x2 : Int32) (x3 : Int32) (r4 : Nat) (x5 : Int32) : Prop := (gl_13_8 r1 x3 r4 x5 400 x2 (up2 I 35 1 0))
theorem cc_13 {l : LX} {d : Nat} {I : WI} {F : WF} {L : WL} {t : Nat} {r1 : Nat} {x2 : Int32} {x3 : Int32} {r4 : Nat} {x5 : Int32} (hr1 : isT r1) (hr4 : isS r4) (hg : g_13 I r1 x2 x3 r4 x5) : Con l 13 (d + 3) 0 0 [.ref 35, .ref r1, .int x2, .int x3, .ref r4, .int x5] SH (I, F, L, RT t) (po_I_I F L t (v_13 I r1 x2 x3 r4 x5)) := by
  refine cn_13 ?_
  obtain ⟨T1, hT1⟩ : ∃ r : Int32 × WI, r = (v_13 I r1 x2 x3 r4 x5) := ⟨_, rfl⟩
  rw [← hT1]
  have he := (hT1.trans (v_13.eq_1 ..)).symm
  have hg := Eq.mp (g_13.eq_1 ..) hg
  refine bk_13_0 ?_
  have hgX := hg
  refine lw_13_8 (d := d) hr1 hr4 400 x2 (up2 I 35 1 0) hgX (fun p6 hr => ?_)
  have he := bx_eq hr he
  refine bk_13_98 (fun h12 => ?_) (fun h12 => ?_)
  · have he := ite_p h12 he
    refine bk_13_114 ?_
    exact bk_13_115 (rl_I_I he)
  · have he := ite_n h12 he
    refine bk_13_105 ?_
    exact bk_13_115 (rl_I_I he)
/-- VectorShelf$Judge.far(LVectorShelf$Shelf;I)I -/
def v_22 (I : WI) (r1 : Nat) (x2 : Int32) : Int32 := (bx ((v_29 I (r1 + 1) (v_285 ((I (r1 + 7) (3 * x2).toNatClampNeg) - (I (r1 + 3) 0))) (v_285 ((I (r1 + 7) ((3 * x2) + 1).toNatClampNeg) - (I (r1 + 3) 1))) (v_285 ((I (r1 + 7) ((3 * x2) + 2).toNatClampNeg) - (I (r1 + 3) 2)))) : Int32) (fun p1 => (p1 + (I 37 x2.toNatClampNeg))))
def g_22 (I : WI) (r1 : Nat) (x2 : Int32) : Prop := ((vp_in (3 * x2) 36) ∧ ((vp_in ((3 * x2) + 1) 36) ∧ ((vp_in ((3 * x2) + 2) 36) ∧ ((g_29 I (r1 + 1) (v_285 ((I (r1 + 7) (3 * x2).toNatClampNeg) - (I (r1 + 3) 0))) (v_285 ((I (r1 + 7) ((3 * x2) + 1).toNatClampNeg) - (I (r1 + 3) 1))) (v_285 ((I (r1 + 7) ((3 * x2) + 2).toNatClampNeg) - (I (r1 + 3) 2)))) ∧ (bx ((v_29 I (r1 + 1) (v_285 ((I (r1 + 7) (3 * x2).toNatClampNeg) - (I (r1 + 3) 0))) (v_285 ((I (r1 + 7) ((3 * x2) + 1).toNatClampNeg) - (I (r1 + 3) 1))) (v_285 ((I (r1 + 7) ((3 * x2) + 2).toNatClampNeg) - (I (r1 + 3) 2)))) : Int32) (fun p1 => (vp_in x2 12)))))))
theorem cc_22 {l : LX} {d : Nat} {I : WI} {F : WF} {L : WL} {t : Nat} {r1 : Nat} {x2 : Int32} (hr1 : isS r1) (hg : g_22 I r1 x2) : Con l 22 (d + 2) 0 0 [.ref 35, .ref r1, .int x2] SH (I, F, L, RT t) (rI (v_22 I r1 x2) (I, F, L, RT t)) := by
  refine cn_22 ?_
  obtain ⟨T1, hT1⟩ : ∃ r : Int32, r = (v_22 I r1 x2) := ⟨_, rfl⟩
  rw [← hT1]
  have he := (hT1.trans (v_22.eq_1 ..)).symm
  have hg := Eq.mp (g_22.eq_1 ..) hg
  obtain ⟨k1, hg⟩ := hg
  refine bk_22_0 hr1 k1 (cc_285 (d := d + 1) ) ?_
  obtain ⟨k3, hg⟩ := hg
  refine bk_22_24 hr1 k3 (cc_285 (d := d + 1) ) ?_
  obtain ⟨k5, hg⟩ := hg
  refine bk_22_42 hr1 k5 (cc_285 (d := d + 1) ) ?_
  obtain ⟨k7, hg⟩ := hg
  obtain ⟨p1, hr⟩ : ∃ q : Int32, q = (v_29 I (r1 + 1) (v_285 ((I (r1 + 7) (3 * x2).toNatClampNeg) - (I (r1 + 3) 0))) (v_285 ((I (r1 + 7) ((3 * x2) + 1).toNatClampNeg) - (I (r1 + 3) 1))) (v_285 ((I (r1 + 7) ((3 * x2) + 2).toNatClampNeg) - (I (r1 + 3) 2)))) := ⟨_, rfl⟩
  have he := bx_eq hr he
  have hg := bx_un hr hg
  refine bk_22_60 hr1 (show Con l 29 _ 0 0 _ SH _ (rI p1 _) from by rw [hr]; exact (cc_29 (d := d + 0) (isM_S hr1) k7)) ?_
  have k8 := hg
  exact bk_22_63 k8 (rl_p_I he)
/-- the loop at 14 of VectorShelf$Judge.first -/
def lp_23_14 (I : WI) (r1 : Nat) (x2 : Int32) (a3 : Int32) (a4 : Int32) : Nat → Int32 × Int32
  | 0 => (a3, a4)
  | k + 1 => bx (lp_23_14 I r1 x2 a3 a4 k) (fun p1 => (bx ((if (v_111 x2 (nI k)) = 0 then (p1.1, p1.2) else (if p1.1 = (-1) then ((nI k), (v_22 I r1 (nI k))) else (if p1.2 ≤ (v_22 I r1 (nI k)) then (p1.1, p1.2) else ((nI k), (v_22 I r1 (nI k)))))) : Int32 × Int32) (fun p2 => (p2.1, p2.2))))
def gl_23_14 (I : WI) (r1 : Nat) (x2 : Int32) (a3 : Int32) (a4 : Int32) (N : Nat) : Prop := (∀ k, k < N → bx (lp_23_14 I r1 x2 a3 a4 k) (fun p1 => (¬ ((v_111 x2 (nI k)) = 0) → (g_22 I r1 (nI k)))))
theorem lw_23_14 {l : LX} {d : Nat} {P : RP} {I : WI} {F : WF} {L : WL} {t : Nat} {r1 : Nat} {x2 : Int32} {a3 : Int32} {a4 : Int32} (hr1 : isS r1) (hgl : gl_23_14 I r1 x2 a3 a4 ((I r1 8).toNatClampNeg)) (hx : ∀ p1 : Int32 × Int32, p1 = lp_23_14 I r1 x2 a3 a4 ((I r1 8).toNatClampNeg) → Wp l 23 (d + 3) 0 0 P 0 0 66 [(3, .int p1.1)] [] SH (I, F, L, RT t)) : Wp l 23 (d + 3) 0 0 P 0 0 14 [(0, .ref 35), (1, .ref r1), (2, .int x2), (3, .int a3), (4, .int a4), (5, .int 0)] [] SH (I, F, L, RT t) := by
  have hin := hgl
  have loop : ∀ m k, k + m = (I r1 8).toNatClampNeg → ∀ p1 : Int32 × Int32, p1 = lp_23_14 I r1 x2 a3 a4 k → Wp l 23 (d + 3) 0 0 P 0 0 14 [(0, .ref 35), (1, .ref r1), (2, .int x2), (3, .int p1.1), (4, .int p1.2), (5, .int (nI k))] [] SH (I, F, L, RT t) := by
    intro m
    induction m with
    | zero =>
      intro k hk p1 hs
      obtain rfl : k = (I r1 8).toNatClampNeg := by omega
      exact bk_23_14 hr1 (fun _ => hx _ hs) (fun h => absurd ((le_cl (Nat.le_refl _)).mpr rfl) h)
    | succ m ih =>
      intro k hk p1 hs
      have hk2 : k < (I r1 8).toNatClampNeg := by omega
      have ih := ih (k + 1) (by omega)
      rw [nI_succ] at ih
      have he := bx_eq hs (lp_23_14.eq_2 ..).symm
      have hg := bx_un hs (hin k hk2)
      refine bk_23_14 hr1 (fun h => absurd ((le_cl (E := (I r1 8)) (i := k) (by omega)).mp h) (by omega)) (fun _ => ?_)
      refine bk_23_23 (cc_111 (d := d + 2) ) ?_
      have hgX := hg
      obtain ⟨X1, hX1⟩ : ∃ r : Int32 × Int32, r = (if (v_111 x2 (nI k)) = 0 then (p1.1, p1.2) else (if p1.1 = (-1) then ((nI k), (v_22 I r1 (nI k))) else (if p1.2 ≤ (v_22 I r1 (nI k)) then (p1.1, p1.2) else ((nI k), (v_22 I r1 (nI k)))))) := ⟨_, rfl⟩
      have J1 : ∀ p2 : Int32 × Int32, p2 = X1 → Wp l 23 (d + 3) 0 0 P 0 0 60 [(0, .ref 35), (1, .ref r1), (2, .int x2), (3, .int p2.1), (4, .int p2.2), (5, .int (nI k))] [] SH (I, F, L, RT t) := by
        intro p2 hr
        have hr := hr.trans hX1
        have he := bx_eq hr he
        refine bk_23_60 ?_
        exact ih (p2.1, p2.2) he
      have he := hX1.symm
      have hg := hgX
      refine bk_23_29 (fun h3 => ?_) (fun h3 => ?_)
      · have he := ite_p h3 he
        exact J1 (p1.1, p1.2) he
      · have he := ite_n h3 he
        have hg := hg h3
        have k4 := hg
        refine bk_23_32 (cc_22 (d := d + 0) hr1 k4) ?_
        refine bk_23_39 (fun h5 => ?_) (fun h5 => ?_)
        · have he := ite_p h5 he
          refine bk_23_53 ?_
          exact J1 ((nI k), (v_22 I r1 (nI k))) he
        · have he := ite_n h5 he
          refine bk_23_46 (fun h6 => ?_) (fun h6 => ?_)
          · have he := ite_p h6 he
            exact J1 (p1.1, p1.2) he
          · have he := ite_n h6 he
            refine bk_23_53 ?_
            exact J1 ((nI k), (v_22 I r1 (nI k))) he
  exact loop _ 0 (Nat.zero_add _) _ rfl
/-- VectorShelf$Judge.first(LVectorShelf$Shelf;)I -/
def v_23 (I : WI) (r1 : Nat) : Int32 := (bx ((lp_23_14 I r1 (v_21 I r1) ((-1) : Int32) (0 : Int32) ((I r1 8).toNatClampNeg)) : Int32 × Int32) (fun p3 => p3.1))
def g_23 (I : WI) (r1 : Nat) : Prop := (gl_23_14 I r1 (v_21 I r1) ((-1) : Int32) (0 : Int32) ((I r1 8).toNatClampNeg))
theorem cc_23 {l : LX} {d : Nat} {I : WI} {F : WF} {L : WL} {t : Nat} {r1 : Nat} (hr1 : isS r1) (hg : g_23 I r1) : Con l 23 (d + 3) 0 0 [.ref 35, .ref r1] SH (I, F, L, RT t) (rI (v_23 I r1) (I, F, L, RT t)) := by
  refine cn_23 ?_
  obtain ⟨T1, hT1⟩ : ∃ r : Int32, r = (v_23 I r1) := ⟨_, rfl⟩
  rw [← hT1]
  have he := (hT1.trans (v_23.eq_1 ..)).symm
  have hg := Eq.mp (g_23.eq_1 ..) hg
  refine bk_23_0 (cc_21 (d := d + 2) hr1) ?_
  refine bk_23_5 ?_
  have hgX := hg
  refine lw_23_14 (d := d) hr1 hgX (fun p3 hr => ?_)
  have he := bx_eq hr he
  exact bk_23_66 (rl_p_I he)
/-- the loop at 4 of VectorShelf$Reading.boxedCells -/
def lp_36_4 (I : WI) (F : WF) (r1 : Nat) (a2 : Int32) : Nat → Int32 × WF
  | 0 => (a2, F)
  | k + 1 => bx (lp_36_4 I F r1 a2 k) (fun p1 => (bx ((if ¬ (v_67 I r1 (nI k)) = 0 then (p1.1, p1.2) else ((p1.1 ||| (1 <<< ((nI k) &&& 31))), (up2 p1.2 39 (nI k).toNatClampNeg (v_68 I r1 (nI k))))) : Int32 × WF) (fun p2 => (p2.1, p2.2))))
def gl_36_4 (I : WI) (F : WF) (r1 : Nat) (a2 : Int32) (N : Nat) : Prop := (∀ k, k < N → bx (lp_36_4 I F r1 a2 k) (fun p1 => ((g_67 (nI k)) ∧ (¬ (¬ (v_67 I r1 (nI k)) = 0) → ((g_68 I r1 (nI k)) ∧ (vp_in (nI k) 4))))))
theorem lw_36_4 {l : LX} {d : Nat} {P : RP} {I : WI} {F : WF} {L : WL} {t : Nat} {r1 : Nat} {a2 : Int32} (hr1 : isS r1) (hgl : gl_36_4 I F r1 a2 ((I r1 4).toNatClampNeg)) (hx : ∀ p1 : Int32 × WF, p1 = lp_36_4 I F r1 a2 ((I r1 4).toNatClampNeg) → Wp l 36 (d + 3) 0 0 P 0 0 43 [(2, .int p1.1)] [] SH (I, p1.2, L, RT t)) : Wp l 36 (d + 3) 0 0 P 0 0 4 [(0, .ref 38), (1, .ref r1), (2, .int a2), (3, .int 0)] [] SH (I, F, L, RT t) := by
  have hin := hgl
  have loop : ∀ m k, k + m = (I r1 4).toNatClampNeg → ∀ p1 : Int32 × WF, p1 = lp_36_4 I F r1 a2 k → Wp l 36 (d + 3) 0 0 P 0 0 4 [(0, .ref 38), (1, .ref r1), (2, .int p1.1), (3, .int (nI k))] [] SH (I, p1.2, L, RT t) := by
    intro m
    induction m with
    | zero =>
      intro k hk p1 hs
      obtain rfl : k = (I r1 4).toNatClampNeg := by omega
      exact bk_36_4 hr1 (fun _ => hx _ hs) (fun h => absurd ((le_cl (Nat.le_refl _)).mpr rfl) h)
    | succ m ih =>
      intro k hk p1 hs
      have hk2 : k < (I r1 4).toNatClampNeg := by omega
      have ih := ih (k + 1) (by omega)
      rw [nI_succ] at ih
      have he := bx_eq hs (lp_36_4.eq_2 ..).symm
      have hg := bx_un hs (hin k hk2)
      refine bk_36_4 hr1 (fun h => absurd ((le_cl (E := (I r1 4)) (i := k) (by omega)).mp h) (by omega)) (fun _ => ?_)
      obtain ⟨k1, hg⟩ := hg
      refine bk_36_12 hr1 (cc_67 (d := d + 2) hr1 k1) ?_
      have hgX := hg
      obtain ⟨X1, hX1⟩ : ∃ r : Int32 × WF, r = (if ¬ (v_67 I r1 (nI k)) = 0 then (p1.1, p1.2) else ((p1.1 ||| (1 <<< ((nI k) &&& 31))), (up2 p1.2 39 (nI k).toNatClampNeg (v_68 I r1 (nI k))))) := ⟨_, rfl⟩
      have J1 : ∀ p2 : Int32 × WF, p2 = X1 → Wp l 36 (d + 3) 0 0 P 0 0 37 [(0, .ref 38), (1, .ref r1), (2, .int p2.1), (3, .int (nI k))] [] SH (I, p2.2, L, RT t) := by
        intro p2 hr
        have hr := hr.trans hX1
        have he := bx_eq hr he
        refine bk_36_37 ?_
        exact ih (p2.1, p2.2) he
      have he := hX1.symm
      have hg := hgX
      refine bk_36_17 (fun h2 => ?_) (fun h2 => ?_)
      · have he := ite_p h2 he
        exact J1 (p1.1, p1.2) he
      · have he := ite_n h2 he
        have hg := hg h2
        obtain ⟨k3, hg⟩ := hg
        refine bk_36_20 hr1 (cc_68 (d := d + 0) hr1 k3) ?_
        have k4 := hg
        refine bk_36_30 k4 ?_
        exact J1 ((p1.1 ||| (1 <<< ((nI k) &&& 31))), (up2 p1.2 39 (nI k).toNatClampNeg (v_68 I r1 (nI k)))) he
  exact loop _ 0 (Nat.zero_add _) _ rfl
/-- VectorShelf$Reading.boxedCells(LVectorShelf$Shelf;)I -/
def v_36 (I : WI) (F : WF) (r1 : Nat) : Int32 × WF := (bx ((lp_36_4 I F r1 (0 : Int32) ((I r1 4).toNatClampNeg)) : Int32 × WF) (fun p3 => (p3.1, p3.2)))
def g_36 (I : WI) (F : WF) (r1 : Nat) : Prop := (gl_36_4 I F r1 (0 : Int32) ((I r1 4).toNatClampNeg))
theorem cc_36 {l : LX} {d : Nat} {I : WI} {F : WF} {L : WL} {t : Nat} {r1 : Nat} (hr1 : isS r1) (hg : g_36 I F r1) : Con l 36 (d + 3) 0 0 [.ref 38, .ref r1] SH (I, F, L, RT t) (po_I_F I L t (v_36 I F r1)) := by
  refine cn_36 ?_
  obtain ⟨T1, hT1⟩ : ∃ r : Int32 × WF, r = (v_36 I F r1) := ⟨_, rfl⟩
  rw [← hT1]
  have he := (hT1.trans (v_36.eq_1 ..)).symm
  have hg := Eq.mp (g_36.eq_1 ..) hg
  refine bk_36_0 ?_
  have hgX := hg
  refine lw_36_4 (d := d) hr1 hgX (fun p3 hr => ?_)
  have he := bx_eq hr he
  exact bk_36_43 (rl_I_F he)
/-- VectorShelf$Shelf.putAt(IIII)V -/
def v_57 (I : WI) (b : Nat) (x1 : Int32) (x2 : Int32) (x3 : Int32) (x4 : Int32) : WI := (bx ((v_60 (up2 (up2 (up2 I (b + 7) (3 * x1).toNatClampNeg x2) (b + 7) ((3 * x1) + 1).toNatClampNeg x3) (b + 7) ((3 * x1) + 2).toNatClampNeg x4) b x1 (v_58 (up2 (up2 (up2 I (b + 7) (3 * x1).toNatClampNeg x2) (b + 7) ((3 * x1) + 1).toNatClampNeg x3) (b + 7) ((3 * x1) + 2).toNatClampNeg x4) b x1)) : WI) (fun p1 => p1))
def g_57 (I : WI) (b : Nat) (x1 : Int32) (x2 : Int32) (x3 : Int32) (x4 : Int32) : Prop := ((vp_in (3 * x1) 36) ∧ ((vp_in ((3 * x1) + 1) 36) ∧ ((vp_in ((3 * x1) + 2) 36) ∧ ((g_58 (up2 (up2 (up2 I (b + 7) (3 * x1).toNatClampNeg x2) (b + 7) ((3 * x1) + 1).toNatClampNeg x3) (b + 7) ((3 * x1) + 2).toNatClampNeg x4) b x1) ∧ (g_60 (up2 (up2 (up2 I (b + 7) (3 * x1).toNatClampNeg x2) (b + 7) ((3 * x1) + 1).toNatClampNeg x3) (b + 7) ((3 * x1) + 2).toNatClampNeg x4) b x1 (v_58 (up2 (up2 (up2 I (b + 7) (3 * x1).toNatClampNeg x2) (b + 7) ((3 * x1) + 1).toNatClampNeg x3) (b + 7) ((3 * x1) + 2).toNatClampNeg x4) b x1))))))
theorem cc_57 {l : LX} {d : Nat} {I : WI} {F : WF} {L : WL} {t : Nat} {b : Nat} {x1 : Int32} {x2 : Int32} {x3 : Int32} {x4 : Int32} (hb : isS b) (hg : g_57 I b x1 x2 x3 x4) : Con l 57 (d + 2) 0 0 [.ref b, .int x1, .int x2, .int x3, .int x4] SH (I, F, L, RT t) (po_V_I F L t (v_57 I b x1 x2 x3 x4)) := by
  refine cn_57 ?_
  obtain ⟨T1, hT1⟩ : ∃ r : WI, r = (v_57 I b x1 x2 x3 x4) := ⟨_, rfl⟩
  rw [← hT1]
  have he := (hT1.trans (v_57.eq_1 ..)).symm
  have hg := Eq.mp (g_57.eq_1 ..) hg
  obtain ⟨k1, k2, k3, k4, hg⟩ := hg
  refine bk_57_0 hb k1 k2 k3 (cc_58 (d := d + 0) hb k4) ?_
  have k5 := hg
  refine bk_57_39 hb (cq_V_I (cc_60 (d := d + 0) hb k5)) ?_
  rintro _ _ _ _ ⟨p1, hr, rfl, rfl, rfl, rfl⟩
  have he := bx_eq hr he
  exact bk_57_42 (rl_V_I he)
/-- VectorShelf$Shelf.lowOfVector(I)F -/
def v_63 (I : WI) (b : Nat) (x1 : Int32) : UInt32 := (v_25 I (b + 1) (v_64 I b x1 (0 : Int32)) (v_64 I b x1 (1 : Int32)) (v_64 I b x1 (2 : Int32)))
def g_63 (I : WI) (b : Nat) (x1 : Int32) : Prop := ((g_64 I b x1 (0 : Int32)) ∧ ((g_64 I b x1 (1 : Int32)) ∧ ((g_64 I b x1 (2 : Int32)) ∧ (g_25 I (b + 1) (v_64 I b x1 (0 : Int32)) (v_64 I b x1 (1 : Int32)) (v_64 I b x1 (2 : Int32))))))
theorem cc_63 {l : LX} {d : Nat} {I : WI} {F : WF} {L : WL} {t : Nat} {b : Nat} {x1 : Int32} (hb : isS b) (hg : g_63 I b x1) : Con l 63 (d + 3) 0 0 [.ref b, .int x1] SH (I, F, L, RT t) (rF (v_63 I b x1) (I, F, L, RT t)) := by
  refine cn_63 ?_
  obtain ⟨T1, hT1⟩ : ∃ r : UInt32, r = (v_63 I b x1) := ⟨_, rfl⟩
  rw [← hT1]
  have he := (hT1.trans (v_63.eq_1 ..)).symm
  have hg := Eq.mp (g_63.eq_1 ..) hg
  obtain ⟨k1, hg⟩ := hg
  refine bk_63_0 hb (cc_64 (d := d + 0) hb k1) ?_
  obtain ⟨k2, hg⟩ := hg
  refine bk_63_10 hb (cc_64 (d := d + 0) hb k2) ?_
  obtain ⟨k3, hg⟩ := hg
  refine bk_63_16 hb (cc_64 (d := d + 0) hb k3) ?_
  have k4 := hg
  refine bk_63_22 hb (cc_25 (d := d + 1) (isM_S hb) k4) ?_
  exact bk_63_25 (rl_p_F he)
end
