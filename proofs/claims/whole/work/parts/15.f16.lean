section
/-- the loop at 55 of VectorShelfModel.two -/
def lp_253_55 (I : WI) (x5 : Int32) (x6 : Int32) (a7 : Int32) : Nat → Int32
  | 0 => a7
  | k + 1 => bx (lp_253_55 I x5 x6 a7 k) (fun p3 => (bx ((if (v_180 I (nI k)) = 0 then 0 else (v_249 I (nI k) ((1 <<< (x5 &&& 31)) ||| (1 <<< (x6 &&& 31))))) : Int32) (fun p4 => (p3 + p4))))
def gl_253_55 (I : WI) (x5 : Int32) (x6 : Int32) (a7 : Int32) (N : Nat) : Prop := (∀ k, k < N → bx (lp_253_55 I x5 x6 a7 k) (fun p3 => ((g_180 I (nI k)) ∧ (¬ ((v_180 I (nI k)) = 0) → (g_249 I (nI k) ((1 <<< (x5 &&& 31)) ||| (1 <<< (x6 &&& 31))))))))
theorem lw_253_55 {l : LX} {d : Nat} {P : RP} {I : WI} {F : WF} {L : WL} {t : Nat} {x1 : Int32} {x2 : Int32} {x3 : Int32} {x4 : Int32} {x5 : Int32} {x6 : Int32} {a7 : Int32} (hgl : gl_253_55 I x5 x6 a7 ((I 74 18).toNatClampNeg)) (hx : ∀ p3 : Int32, p3 = lp_253_55 I x5 x6 a7 ((I 74 18).toNatClampNeg) → Wp l 253 (d + 5) 0 0 P 0 0 103 [(0, .ref 74), (1, .int x1), (2, .int x2), (3, .int x3), (4, .int x4), (5, .int x5), (6, .int x6), (7, .int p3)] [] SH (I, F, L, RT t)) : Wp l 253 (d + 5) 0 0 P 0 0 55 [(0, .ref 74), (1, .int x1), (2, .int x2), (3, .int x3), (4, .int x4), (5, .int x5), (6, .int x6), (7, .int a7), (8, .int 0)] [] SH (I, F, L, RT t) := by
  have hin := hgl
  have loop : ∀ m k, k + m = (I 74 18).toNatClampNeg → ∀ p3 : Int32, p3 = lp_253_55 I x5 x6 a7 k → Wp l 253 (d + 5) 0 0 P 0 0 55 [(0, .ref 74), (1, .int x1), (2, .int x2), (3, .int x3), (4, .int x4), (5, .int x5), (6, .int x6), (7, .int p3), (8, .int (nI k))] [] SH (I, F, L, RT t) := by
    intro m
    induction m with
    | zero =>
      intro k hk p3 hs
      obtain rfl : k = (I 74 18).toNatClampNeg := by omega
      exact bk_253_55  (fun _ => hx _ hs) (fun h => absurd ((le_cl (Nat.le_refl _)).mpr rfl) h)
    | succ m ih =>
      intro k hk p3 hs
      have hk2 : k < (I 74 18).toNatClampNeg := by omega
      have ih := ih (k + 1) (by omega)
      rw [nI_succ] at ih
      have he := bx_eq hs (lp_253_55.eq_2 ..).symm
      have hg := bx_un hs (hin k hk2)
      refine bk_253_55  (fun h => absurd ((le_cl (by omega)).mp h) (by omega)) (fun _ => ?_)
      obtain ⟨k3, hg⟩ := hg
      refine bk_253_64 (cc_180 (d := d + 4)  k3) ?_
      have hgX := hg
      obtain ⟨X1, hX1⟩ : ∃ r : Int32, r = (if (v_180 I (nI k)) = 0 then 0 else (v_249 I (nI k) ((1 <<< (x5 &&& 31)) ||| (1 <<< (x6 &&& 31))))) := ⟨_, rfl⟩
      have J1 : ∀ p4 : Int32, p4 = X1 → Wp l 253 (d + 5) 0 0 P 0 0 94 [(0, .ref 74), (1, .int x1), (2, .int x2), (3, .int x3), (4, .int x4), (5, .int x5), (6, .int x6), (8, .int (nI k))] [.int p4, .int p3] SH (I, F, L, RT t) := by
        intro p4 hr
        have hr := hr.trans hX1
        have he := bx_eq hr he
        refine bk_253_94 ?_
        exact ih _ he
      have he := hX1.symm
      have hg := hgX
      refine bk_253_72 (fun h4 => ?_) (fun h4 => ?_)
      · have he := ite_p h4 he
        refine bk_253_93 ?_
        exact J1 _ he
      · have he := ite_n h4 he
        have hg := hg h4
        have k5 := hg
        refine bk_253_75 (cc_249 (d := d + 0)  k5) ?_
        refine bk_253_90 ?_
        exact J1 _ he
  exact loop _ 0 (by omega) _ rfl
/-- the loop at 40 of VectorShelfModel.two -/
def lp_253_40s (I : WI) (x5 : Int32) (a6 : Int32) (a2 : Int32) (a3 : Int32) (a4 : Int32) : Nat → Int32 × Int32 × Int32
  | 0 => (a2, a3, a4)
  | k + 1 => bx (lp_253_40s I x5 a6 a2 a3 a4 k) (fun p2 => (bx ((lp_253_55 I x5 (a6 + nI k) (0 : Int32) ((I 74 18).toNatClampNeg)) : Int32) (fun p5 => (bx ((if (v_180 I x5) = 0 then (p2.1, p2.2.1, p2.2.2) else (if (v_180 I (a6 + nI k)) = 0 then (p2.1, p2.2.1, p2.2.2) else (if p2.1 = (-1) then (x5, (a6 + nI k), p5) else (if p2.2.2 ≤ p5 then (p2.1, p2.2.1, p2.2.2) else (x5, (a6 + nI k), p5))))) : Int32 × Int32 × Int32) (fun p6 => (p6.1, p6.2.1, p6.2.2))))))
def gl_253_40s (I : WI) (x5 : Int32) (a6 : Int32) (a2 : Int32) (a3 : Int32) (a4 : Int32) (N : Nat) : Prop := (∀ k, k < N → bx (lp_253_40s I x5 a6 a2 a3 a4 k) (fun p2 => ((gl_253_55 I x5 (a6 + nI k) (0 : Int32) ((I 74 18).toNatClampNeg)) ∧ (bx ((lp_253_55 I x5 (a6 + nI k) (0 : Int32) ((I 74 18).toNatClampNeg)) : Int32) (fun p5 => ((g_180 I x5) ∧ (¬ ((v_180 I x5) = 0) → (g_180 I (a6 + nI k)))))))))
theorem lw_253_40s {l : LX} {d : Nat} {P : RP} {I : WI} {F : WF} {L : WL} {t : Nat} {x1 : Int32} {x5 : Int32} {a6 : Int32} {a2 : Int32} {a3 : Int32} {a4 : Int32} (hgl : gl_253_40s I x5 a6 a2 a3 a4 (((I 74 18).toInt - a6.toInt).toNat)) (hx : ∀ p2 : Int32 × Int32 × Int32, p2 = lp_253_40s I x5 a6 a2 a3 a4 (((I 74 18).toInt - a6.toInt).toNat) → Wp l 253 (d + 5) 0 0 P 0 0 149 [(0, .ref 74), (1, .int x1), (2, .int p2.1), (3, .int p2.2.1), (4, .int p2.2.2), (5, .int x5)] [] SH (I, F, L, RT t)) : Wp l 253 (d + 5) 0 0 P 0 0 40 [(0, .ref 74), (1, .int x1), (2, .int a2), (3, .int a3), (4, .int a4), (5, .int x5), (6, .int a6)] [] SH (I, F, L, RT t) := by
  have hin := hgl
  have loop : ∀ m k, k + m = ((I 74 18).toInt - a6.toInt).toNat → ∀ p2 : Int32 × Int32 × Int32, p2 = lp_253_40s I x5 a6 a2 a3 a4 k → Wp l 253 (d + 5) 0 0 P 0 0 40 [(0, .ref 74), (1, .int x1), (2, .int p2.1), (3, .int p2.2.1), (4, .int p2.2.2), (5, .int x5), (6, .int (a6 + nI k))] [] SH (I, F, L, RT t) := by
    intro m
    induction m with
    | zero =>
      intro k hk p2 hs
      obtain rfl : k = ((I 74 18).toInt - a6.toInt).toNat := by omega
      exact bk_253_40  (fun _ => hx _ hs) (fun h => absurd ((cl_ge (Nat.le_refl _)).mpr rfl) h)
    | succ m ih =>
      intro k hk p2 hs
      have hk2 : k < ((I 74 18).toInt - a6.toInt).toNat := by omega
      have ih := ih (k + 1) (by omega)
      rw [nI_succ, ← Int32.add_assoc] at ih
      have he := bx_eq hs (lp_253_40s.eq_2 ..).symm
      have hg := bx_un hs (hin k hk2)
      refine bk_253_40  (fun h => absurd ((cl_ge (by omega)).mp h) (by omega)) (fun _ => ?_)
      refine bk_253_49 ?_
      obtain ⟨hgX, hg⟩ := hg
      refine lw_253_55 (d := d)  hgX (fun p5 hr => ?_)
      have he := bx_eq hr he
      have hg := bx_un hr hg
      obtain ⟨k6, hg⟩ := hg
      refine bk_253_103 (cc_180 (d := d + 4)  k6) ?_
      have hgX := hg
      obtain ⟨X2, hX2⟩ : ∃ r : Int32 × Int32 × Int32, r = (if (v_180 I x5) = 0 then (p2.1, p2.2.1, p2.2.2) else (if (v_180 I (a6 + nI k)) = 0 then (p2.1, p2.2.1, p2.2.2) else (if p2.1 = (-1) then (x5, (a6 + nI k), p5) else (if p2.2.2 ≤ p5 then (p2.1, p2.2.1, p2.2.2) else (x5, (a6 + nI k), p5))))) := ⟨_, rfl⟩
      have J2 : ∀ p6 : Int32 × Int32 × Int32, p6 = X2 → Wp l 253 (d + 5) 0 0 P 0 0 143 [(0, .ref 74), (1, .int x1), (2, .int p6.1), (3, .int p6.2.1), (4, .int p6.2.2), (5, .int x5), (6, .int (a6 + nI k))] [] SH (I, F, L, RT t) := by
        intro p6 hr
        have hr := hr.trans hX2
        have he := bx_eq hr he
        refine bk_253_143 ?_
        exact ih _ he
      have he := hX2.symm
      have hg := hgX
      refine bk_253_109 (fun h7 => ?_) (fun h7 => ?_)
      · have he := ite_p h7 he
        exact J2 _ he
      · have he := ite_n h7 he
        have hg := hg h7
        have k8 := hg
        refine bk_253_112 (cc_180 (d := d + 4)  k8) ?_
        refine bk_253_118 (fun h9 => ?_) (fun h9 => ?_)
        · have he := ite_p h9 he
          exact J2 _ he
        · have he := ite_n h9 he
          refine bk_253_121 (fun h10 => ?_) (fun h10 => ?_)
          · have he := ite_p h10 he
            refine bk_253_133 ?_
            exact J2 _ he
          · have he := ite_n h10 he
            refine bk_253_126 (fun h11 => ?_) (fun h11 => ?_)
            · have he := ite_p h11 he
              exact J2 _ he
            · have he := ite_n h11 he
              refine bk_253_133 ?_
              exact J2 _ he
  have h0 := loop _ 0 (by omega) _ rfl
  rw [show a6 + nI 0 = a6 from by rw [nI_0, Int32.add_zero]] at h0
  exact h0
/-- the loop at 25 of VectorShelfModel.two -/
def lp_253_25 (I : WI) (a2 : Int32) (a3 : Int32) (a4 : Int32) : Nat → Int32 × Int32 × Int32
  | 0 => (a2, a3, a4)
  | k + 1 => bx (lp_253_25 I a2 a3 a4 k) (fun p1 => (bx ((lp_253_40s I (nI k) ((nI k) + 1) p1.1 p1.2.1 p1.2.2 (((I 74 18).toInt - ((nI k) + 1).toInt).toNat)) : Int32 × Int32 × Int32) (fun p7 => (p7.1, p7.2.1, p7.2.2))))
def gl_253_25 (I : WI) (a2 : Int32) (a3 : Int32) (a4 : Int32) (N : Nat) : Prop := (∀ k, k < N → bx (lp_253_25 I a2 a3 a4 k) (fun p1 => (gl_253_40s I (nI k) ((nI k) + 1) p1.1 p1.2.1 p1.2.2 (((I 74 18).toInt - ((nI k) + 1).toInt).toNat))))
theorem lw_253_25 {l : LX} {d : Nat} {P : RP} {I : WI} {F : WF} {L : WL} {t : Nat} {x1 : Int32} {a2 : Int32} {a3 : Int32} {a4 : Int32} (hgl : gl_253_25 I a2 a3 a4 ((I 74 18).toNatClampNeg)) (hx : ∀ p1 : Int32 × Int32 × Int32, p1 = lp_253_25 I a2 a3 a4 ((I 74 18).toNatClampNeg) → Wp l 253 (d + 5) 0 0 P 0 0 155 [(1, .int x1), (2, .int p1.1), (3, .int p1.2.1), (4, .int p1.2.2)] [] SH (I, F, L, RT t)) : Wp l 253 (d + 5) 0 0 P 0 0 25 [(0, .ref 74), (1, .int x1), (2, .int a2), (3, .int a3), (4, .int a4), (5, .int 0)] [] SH (I, F, L, RT t) := by
  have hin := hgl
  have loop : ∀ m k, k + m = (I 74 18).toNatClampNeg → ∀ p1 : Int32 × Int32 × Int32, p1 = lp_253_25 I a2 a3 a4 k → Wp l 253 (d + 5) 0 0 P 0 0 25 [(0, .ref 74), (1, .int x1), (2, .int p1.1), (3, .int p1.2.1), (4, .int p1.2.2), (5, .int (nI k))] [] SH (I, F, L, RT t) := by
    intro m
    induction m with
    | zero =>
      intro k hk p1 hs
      obtain rfl : k = (I 74 18).toNatClampNeg := by omega
      exact bk_253_25  (fun _ => hx _ hs) (fun h => absurd ((le_cl (Nat.le_refl _)).mpr rfl) h)
    | succ m ih =>
      intro k hk p1 hs
      have hk2 : k < (I 74 18).toNatClampNeg := by omega
      have ih := ih (k + 1) (by omega)
      rw [nI_succ] at ih
      have he := bx_eq hs (lp_253_25.eq_2 ..).symm
      have hg := bx_un hs (hin k hk2)
      refine bk_253_25  (fun h => absurd ((le_cl (by omega)).mp h) (by omega)) (fun _ => ?_)
      refine bk_253_34 ?_
      have hgX := hg
      refine lw_253_40s (d := d)  hgX (fun p7 hr => ?_)
      have he := bx_eq hr he
      refine bk_253_149 ?_
      exact ih _ he
  exact loop _ 0 (by omega) _ rfl
/-- VectorShelfModel.two(I)I -/
def v_253 (I : WI) (x1 : Int32) : Int32 := (if ¬ (v_170 (Int32.toInt64 x1) (0 : Int64) (2 : Int64)) = 0 then (bx ((lp_253_25 I ((-1) : Int32) ((-1) : Int32) ((-1) : Int32) ((I 74 18).toNatClampNeg)) : Int32 × Int32 × Int32) (fun p8 => (if ¬ x1 = 0 then (if ¬ x1 = 1 then p8.2.2 else p8.2.1) else p8.1))) else (-2))
def g_253 (I : WI) (x1 : Int32) : Prop := ((¬ (v_170 (Int32.toInt64 x1) (0 : Int64) (2 : Int64)) = 0) → (gl_253_25 I ((-1) : Int32) ((-1) : Int32) ((-1) : Int32) ((I 74 18).toNatClampNeg)))
theorem cc_253 {l : LX} {d : Nat} {I : WI} {F : WF} {L : WL} {t : Nat} {x1 : Int32} (hg : g_253 I x1) : Con l 253 (d + 5) 0 0 [.ref 74, .int x1] SH (I, F, L, RT t) (rI (v_253 I x1) (I, F, L, RT t)) := by
  refine cn_253 ?_
  obtain ⟨T1, hT1⟩ : ∃ r : Int32, r = (v_253 I x1) := ⟨_, rfl⟩
  rw [← hT1]
  have he := (hT1.trans (v_253.eq_1 ..)).symm
  have hg := Eq.mp (g_253.eq_1 ..) hg
  refine bk_253_0 (cc_170 (d := d + 4) ) ?_
  refine bk_253_9 (fun h2 => ?_) (fun h2 => ?_)
  · have he := ite_p h2 he
    have hg := hg h2
    refine bk_253_15 ?_
    have hgX := hg
    refine lw_253_25 (d := d)  hgX (fun p8 hr => ?_)
    have he := bx_eq hr he
    refine bk_253_155 (fun h12 => ?_) (fun h12 => ?_)
    · have he := ite_p h12 he
      refine bk_253_163 (fun h13 => ?_) (fun h13 => ?_)
      · have he := ite_p h13 he
        refine bk_253_172 ?_
        exact bk_253_174 (rl_p_I he)
      · have he := ite_n h13 he
        refine bk_253_168 ?_
        exact bk_253_174 (rl_p_I he)
    · have he := ite_n h12 he
      refine bk_253_159 ?_
      exact bk_253_174 (rl_p_I he)
  · have he := ite_n h2 he
    exact bk_253_12 (rl_p_I he)
/-- the loop at 26 of VectorShelf$Company.spreadAt -/
def lp_5_26 (I : WI) (r1 : Nat) (a3 : Int32) (a4 : Int32) : Nat → Int32 × Int32
  | 0 => (a3, a4)
  | k + 1 => bx (lp_5_26 I r1 a3 a4 k) (fun p1 => ((v_6 I r1 (p1.2 ||| (1 <<< (p1.1 &&& 31)))), (p1.2 ||| (1 <<< (p1.1 &&& 31)))))
def gl_5_26 (I : WI) (r1 : Nat) (a3 : Int32) (a4 : Int32) (N : Nat) : Prop := (∀ k, k < N → bx (lp_5_26 I r1 a3 a4 k) (fun p1 => (g_6 I r1 (p1.2 ||| (1 <<< (p1.1 &&& 31))))))
theorem lw_5_26 {l : LX} {d : Nat} {P : RP} {I : WI} {F : WF} {L : WL} {t : Nat} {r1 : Nat} {x2 : Int32} {a3 : Int32} {a4 : Int32} (hr1 : isS r1) (hgl : gl_5_26 I r1 a3 a4 x2.toNatClampNeg) (hx : ∀ p1 : Int32 × Int32, p1 = lp_5_26 I r1 a3 a4 x2.toNatClampNeg → Wp l 5 (d + 5) 0 0 P 0 0 54 [(3, .int p1.1)] [] SH (I, F, L, RT t)) : Wp l 5 (d + 5) 0 0 P 0 0 26 [(0, .ref 42), (1, .ref r1), (2, .int x2), (3, .int a3), (4, .int a4), (5, .int 0)] [] SH (I, F, L, RT t) := by
  have hin := hgl
  have loop : ∀ m k, k + m = x2.toNatClampNeg → ∀ p1 : Int32 × Int32, p1 = lp_5_26 I r1 a3 a4 k → Wp l 5 (d + 5) 0 0 P 0 0 26 [(0, .ref 42), (1, .ref r1), (2, .int x2), (3, .int p1.1), (4, .int p1.2), (5, .int (nI k))] [] SH (I, F, L, RT t) := by
    intro m
    induction m with
    | zero =>
      intro k hk p1 hs
      obtain rfl : k = x2.toNatClampNeg := by omega
      exact bk_5_26  (fun _ => hx _ hs) (fun h => absurd ((le_cl (Nat.le_refl _)).mpr rfl) h)
    | succ m ih =>
      intro k hk p1 hs
      have hk2 : k < x2.toNatClampNeg := by omega
      have ih := ih (k + 1) (by omega)
      rw [nI_succ] at ih
      have he := bx_eq hs (lp_5_26.eq_2 ..).symm
      have hg := bx_un hs (hin k hk2)
      refine bk_5_26  (fun h => absurd ((le_cl (by omega)).mp h) (by omega)) (fun _ => ?_)
      have k4 := hg
      refine bk_5_32 (cc_6 (d := d + 0) hr1 k4) ?_
      refine bk_5_47 ?_
      exact ih _ he
  exact loop _ 0 (by omega) _ rfl
/-- VectorShelf$Company.spreadAt(LVectorShelf$Shelf;I)I -/
def v_5 (I : WI) (r1 : Nat) (x2 : Int32) : Int32 := (if x2 < (v_286 (I r1 12)) then (bx ((lp_5_26 I r1 (v_6 I r1 (0 : Int32)) (0 : Int32) x2.toNatClampNeg) : Int32 × Int32) (fun p2 => p2.1)) else (-1))
def g_5 (I : WI) (r1 : Nat) (x2 : Int32) : Prop := ((x2 < (v_286 (I r1 12))) → ((g_6 I r1 (0 : Int32)) ∧ (gl_5_26 I r1 (v_6 I r1 (0 : Int32)) (0 : Int32) x2.toNatClampNeg)))
theorem cc_5 {l : LX} {d : Nat} {I : WI} {F : WF} {L : WL} {t : Nat} {r1 : Nat} {x2 : Int32} (hr1 : isS r1) (hg : g_5 I r1 x2) : Con l 5 (d + 5) 0 0 [.ref 42, .ref r1, .int x2] SH (I, F, L, RT t) (rI (v_5 I r1 x2) (I, F, L, RT t)) := by
  refine cn_5 ?_
  obtain ⟨T1, hT1⟩ : ∃ r : Int32, r = (v_5 I r1 x2) := ⟨_, rfl⟩
  rw [← hT1]
  have he := (hT1.trans (v_5.eq_1 ..)).symm
  have hg := Eq.mp (g_5.eq_1 ..) hg
  refine bk_5_0 hr1 (cc_286 (d := d + 4) ) ?_
  refine bk_5_8 (fun h2 => ?_) (fun h2 => ?_)
  · have he := ite_p h2 he
    have hg := hg h2
    obtain ⟨k3, hg⟩ := hg
    refine bk_5_13 (cc_6 (d := d + 0) hr1 k3) ?_
    refine bk_5_19 ?_
    have hgX := hg
    refine lw_5_26 (d := d) hr1 hgX (fun p2 hr => ?_)
    have he := bx_eq hr he
    exact bk_5_54 (rl_p_I he)
  · have he := ite_n h2 he
    exact bk_5_11 (rl_p_I he)
/-- the loop at 30 of VectorShelf$Reading.readFor -/
def lp_35_30 (F : WF) (x1 : Int32) (r2 : Nat) : Nat → Int32 → Int32 → WI → WI × WF
  | 0, x4, x5, I => (I, F)
  | k + 1, x4, x5, I => (if 4 ≤ x5 then (I, F) else (if x4 = 0 then (I, F) else (if (v_38 I (F 39 (v_37 F x4).toNatClampNeg) x1) = 0 then (bx ((v_39 (up2 I 38 6 ((I 38 6) + 1)) (v_37 F x4) x1 r2) : WI) (fun p2 => (lp_35_30 F x1 r2 k (x4 &&& ((1 <<< ((v_37 F x4) &&& 31)) ^^^ (-1))) (x5 + 1) p2))) else (I, F))))
def gl_35_30 (F : WF) (x1 : Int32) (r2 : Nat) : Nat → Int32 → Int32 → WI → Prop
  | 0, _, _, _ => False
  | k + 1, x4, x5, I => (¬ (4 ≤ x5) → (¬ (x4 = 0) → ((g_37 F x4) ∧ ((vp_in (v_37 F x4) 4) ∧ ((g_38 I x1) ∧ (((v_38 I (F 39 (v_37 F x4).toNatClampNeg) x1) = 0) → ((g_39 (up2 I 38 6 ((I 38 6) + 1)) (v_37 F x4) x1 r2) ∧ (bx ((v_39 (up2 I 38 6 ((I 38 6) + 1)) (v_37 F x4) x1 r2) : WI) (fun p2 => (gl_35_30 F x1 r2 k (x4 &&& ((1 <<< ((v_37 F x4) &&& 31)) ^^^ (-1))) (x5 + 1) p2))))))))))
theorem lw_35_30 {l : LX} {d : Nat} {F : WF} {L : WL} {t : Nat} {x1 : Int32} {r2 : Nat} (hr2 : isS r2) : ∀ k : Nat, ∀ (x4 : Int32) (x5 : Int32) (I : WI), gl_35_30 F x1 r2 k x4 x5 I → Wp l 35 (d + 5) 0 0 (po_V_IF L t (lp_35_30 F x1 r2 k x4 x5 I)) 0 0 30 [(0, .ref 38), (1, .int x1), (2, .ref r2), (3, .ref 35), (4, .int x4), (5, .int x5)] [] SH (I, F, L, RT t) := by
  intro k
  induction k with
  | zero =>
    intro x4 x5 I hg
    exact hg.elim
  | succ k ih =>
    intro x4 x5 I hg
    have hg := Eq.mp (gl_35_30.eq_2 ..) hg
    obtain ⟨T1, hT1⟩ : ∃ r : WI × WF, r = lp_35_30 F x1 r2 (k + 1) x4 x5 I := ⟨_, rfl⟩
    rw [← hT1]
    have he := (hT1.trans (lp_35_30.eq_2 ..)).symm
    refine bk_35_30 (fun h2 => ?_) (fun h2 => ?_)
    · have he := ite_p h2 he
      exact bk_35_101 (rl_V_IF he)
    · have he := ite_n h2 he
      have hg := hg h2
      refine bk_35_36 (fun h3 => ?_) (fun h3 => ?_)
      · have he := ite_p h3 he
        exact bk_35_101 (rl_V_IF he)
      · have he := ite_n h3 he
        have hg := hg h3
        obtain ⟨k4, hg⟩ := hg
        refine bk_35_41 (cc_37 (d := d + 3)  k4) ?_
        obtain ⟨k5, k6, hg⟩ := hg
        refine bk_35_47 k5 (cc_38 (d := d + 3)  k6) ?_
        refine bk_35_61 (fun h7 => ?_) (fun h7 => ?_)
        · have he := ite_p h7 he
          have hg := hg h7
          obtain ⟨k8, hg⟩ := hg
          refine bk_35_65 (cq_V_I (cc_39 (d := d + 0) hr2 k8)) ?_
          rintro _ _ _ _ ⟨p2, hr, rfl, rfl, rfl, rfl⟩
          have he := bx_eq hr he
          have hg := bx_un hr hg
          refine bk_35_95 ?_
          exact Wp_eq (post := fun r => (po_V_IF L t r)) he (ih _ _ _ hg)
        · have he := ite_n h7 he
          exact bk_35_64 (rl_V_IF he)
/-- VectorShelf$Reading.readFor(ILVectorShelf$Shelf;LVectorShelf$Judge;)V -/
def v_35 (I : WI) (F : WF) (x1 : Int32) (r2 : Nat) : WI × WF := (bx ((v_36 (up2 (up2 (up2 (up2 I 38 3 0) 38 4 0) 38 5 0) 38 6 0) F r2) : Int32 × WF) (fun p1 => (lp_35_30 p1.2 x1 r2 400 p1.1 (0 : Int32) (up2 (up2 (up2 (up2 I 38 3 0) 38 4 0) 38 5 0) 38 6 0))))
def g_35 (I : WI) (F : WF) (x1 : Int32) (r2 : Nat) : Prop := ((g_36 (up2 (up2 (up2 (up2 I 38 3 0) 38 4 0) 38 5 0) 38 6 0) F r2) ∧ (bx ((v_36 (up2 (up2 (up2 (up2 I 38 3 0) 38 4 0) 38 5 0) 38 6 0) F r2) : Int32 × WF) (fun p1 => (gl_35_30 p1.2 x1 r2 400 p1.1 (0 : Int32) (up2 (up2 (up2 (up2 I 38 3 0) 38 4 0) 38 5 0) 38 6 0)))))
theorem cc_35 {l : LX} {d : Nat} {I : WI} {F : WF} {L : WL} {t : Nat} {x1 : Int32} {r2 : Nat} (hr2 : isS r2) (hg : g_35 I F x1 r2) : Con l 35 (d + 5) 0 0 [.ref 38, .int x1, .ref r2, .ref 35] SH (I, F, L, RT t) (po_V_IF L t (v_35 I F x1 r2)) := by
  refine cn_35 ?_
  obtain ⟨T1, hT1⟩ : ∃ r : WI × WF, r = (v_35 I F x1 r2) := ⟨_, rfl⟩
  rw [← hT1]
  have he := (hT1.trans (v_35.eq_1 ..)).symm
  have hg := Eq.mp (g_35.eq_1 ..) hg
  obtain ⟨k1, hg⟩ := hg
  refine bk_35_0 (cq_I_F (cc_36 (d := d + 1) hr2 k1)) ?_
  rintro _ _ _ _ _ ⟨p1, hr, rfl, rfl, rfl, rfl, rfl⟩
  have he := bx_eq hr he
  have hg := bx_un hr hg
  refine bk_35_25 ?_
  exact Wp_eq (post := fun r => (po_V_IF L t r)) he (lw_35_30 (d := d) hr2 400 _ _ _ hg)
/-- VectorShelf.told(II)I -/
def v_113 (I : WI) (x1 : Int32) (x2 : Int32) : Int32 × WI := (if (v_110 I x1) = 0 then ((-99999), I) else (if ¬ (v_107 x2 (0 : Int32) (12 : Int32)) = 0 then (if 3 ≤ x2 then (bx ((if (I 10 x1.toNatClampNeg) = (-1) then 0 else 1) : Int32) (fun p1 => (if x2 = 3 then ((I 9 x1.toNatClampNeg), I) else (if x2 = 4 then (if (v_61 I 1 x1) = 0 then (1, I) else (0, I)) else (if x2 = 5 then ((I 10 x1.toNatClampNeg), I) else (if x2 = 6 then (if p1 = 0 then ((-99999), I) else ((v_62 I 1 x1 (x2 - 6)), I)) else (if x2 = 7 then (if p1 = 0 then ((-99999), I) else ((v_62 I 1 x1 (x2 - 6)), I)) else (if x2 = 8 then (if p1 = 0 then ((-99999), I) else ((v_62 I 1 x1 (x2 - 6)), I)) else (if x2 = 9 then (bx ((v_114 I x1 x2) : Int32 × WI) (fun p2 => (p2.1, p2.2))) else (if x2 = 10 then (bx ((v_114 I x1 x2) : Int32 × WI) (fun p3 => (p3.1, p3.2))) else (if x2 = 11 then (bx ((v_114 I x1 x2) : Int32 × WI) (fun p4 => (p4.1, p4.2))) else (if x2 = 12 then (if p1 = 0 then ((-99999), I) else ((FP.f2i (v_63 I 1 x1)), I)) else (bx ((v_114 I x1 x2) : Int32 × WI) (fun p5 => (p5.1, p5.2))))))))))))))) else ((I 8 ((3 * x1) + x2).toNatClampNeg), I)) else ((-99999), I)))
def g_113 (I : WI) (x1 : Int32) (x2 : Int32) : Prop := (¬ ((v_110 I x1) = 0) → ((¬ (v_107 x2 (0 : Int32) (12 : Int32)) = 0) → (((3 ≤ x2) → ((vp_in x1 12) ∧ (bx ((if (I 10 x1.toNatClampNeg) = (-1) then 0 else 1) : Int32) (fun p1 => ((x2 = 3 → (vp_in x1 12)) ∧ (¬ (x2 = 3) → ((x2 = 4 → True) ∧ (¬ (x2 = 4) → ((x2 = 5 → (vp_in x1 12)) ∧ (¬ (x2 = 5) → ((x2 = 6 → (¬ (p1 = 0) → (g_62 I 1 x1 (x2 - 6)))) ∧ (¬ (x2 = 6) → ((x2 = 7 → (¬ (p1 = 0) → (g_62 I 1 x1 (x2 - 6)))) ∧ (¬ (x2 = 7) → ((x2 = 8 → (¬ (p1 = 0) → (g_62 I 1 x1 (x2 - 6)))) ∧ (¬ (x2 = 8) → ((x2 = 9 → (g_114 I x1 x2)) ∧ (¬ (x2 = 9) → ((x2 = 10 → (g_114 I x1 x2)) ∧ (¬ (x2 = 10) → ((x2 = 11 → (g_114 I x1 x2)) ∧ (¬ (x2 = 11) → ((x2 = 12 → (¬ (p1 = 0) → (g_63 I 1 x1))) ∧ (¬ (x2 = 12) → (g_114 I x1 x2))))))))))))))))))))))))) ∧ (¬ (3 ≤ x2) → (vp_in ((3 * x1) + x2) 36)))))
theorem cc_113 {l : LX} {d : Nat} {I : WI} {F : WF} {L : WL} {t : Nat} {x1 : Int32} {x2 : Int32} (hg : g_113 I x1 x2) : Con l 113 (d + 6) 0 0 [.ref 0, .int x1, .int x2] SH (I, F, L, RT t) (po_I_I F L t (v_113 I x1 x2)) := by
  refine cn_113 ?_
  obtain ⟨T1, hT1⟩ : ∃ r : Int32 × WI, r = (v_113 I x1 x2) := ⟨_, rfl⟩
  rw [← hT1]
  have he := (hT1.trans (v_113.eq_1 ..)).symm
  have hg := Eq.mp (g_113.eq_1 ..) hg
  refine bk_113_0 (cc_110 (d := d + 4) ) ?_
  refine bk_113_5 (fun h2 => ?_) (fun h2 => ?_)
  · have he := ite_p h2 he
    exact bk_113_18 (rl_I_I he)
  · have he := ite_n h2 he
    have hg := hg h2
    refine bk_113_8 (cc_107 (d := d + 5) ) ?_
    refine bk_113_15 (fun h4 => ?_) (fun h4 => ?_)
    · have he := ite_p h4 he
      have hg := hg h4
      refine bk_113_21 (fun h5 => ?_) (fun h5 => ?_)
      · have he := ite_p h5 he
        have hg := hg.1 h5
        obtain ⟨k6, hg⟩ := hg
        obtain ⟨X1, hX1⟩ : ∃ r : Int32, r = (if (I 10 x1.toNatClampNeg) = (-1) then 0 else 1) := ⟨_, rfl⟩
        have J1 : ∀ p1 : Int32, p1 = X1 → Wp l 113 (d + 6) 0 0 (po_I_I F L t T1) 0 0 58 [(0, .ref 0), (1, .int x1), (2, .int x2)] [.int p1] SH (I, F, L, RT t) := by
          intro p1 hr
          have hr := hr.trans hX1
          have he := bx_eq hr he
          have hg := bx_un hr hg
          refine bk_113_58 (fun h8 => ?_) (fun h8 => ?_) (fun h8 => ?_) (fun h8 => ?_) (fun h8 => ?_) (fun h8 => ?_) (fun h8 => ?_) (fun h8 => ?_) (fun h8 => ?_) (fun h8 => ?_) (fun h8x0 h8x1 h8x2 h8x3 h8x4 h8x5 h8x6 h8x7 h8x8 h8x9 => ?_)
          · have he := ite_p h8 he
            have hg := hg.1 h8
            have k9 := hg
            exact bk_113_116 k9 (rl_I_I he)
          · have he := ite_n (show ¬ x2 = 3 from fun e => absurd (h8.symm.trans e) (by decide)) he
            have hg := hg.2 (show ¬ x2 = 3 from fun e => absurd (h8.symm.trans e) (by decide))
            have he := ite_p h8 he
            refine bk_113_126 (cc_61 (d := d + 4) (by first | decide | (unfold isS; decide) | (unfold isS; omega))) ?_
            refine bk_113_134 (fun h11 => ?_) (fun h11 => ?_)
            · have he := ite_p h11 he
              refine bk_113_141 ?_
              exact bk_113_142 (rl_I_I he)
            · have he := ite_n h11 he
              refine bk_113_137 ?_
              exact bk_113_142 (rl_I_I he)
          · have he := ite_n (show ¬ x2 = 3 from fun e => absurd (h8.symm.trans e) (by decide)) he
            have hg := hg.2 (show ¬ x2 = 3 from fun e => absurd (h8.symm.trans e) (by decide))
            have he := ite_n (show ¬ x2 = 4 from fun e => absurd (h8.symm.trans e) (by decide)) he
            have hg := hg.2 (show ¬ x2 = 4 from fun e => absurd (h8.symm.trans e) (by decide))
            have he := ite_p h8 he
            have hg := hg.1 h8
            have k12 := hg
            exact bk_113_143 k12 (rl_I_I he)
          · have he := ite_n (show ¬ x2 = 3 from fun e => absurd (h8.symm.trans e) (by decide)) he
            have hg := hg.2 (show ¬ x2 = 3 from fun e => absurd (h8.symm.trans e) (by decide))
            have he := ite_n (show ¬ x2 = 4 from fun e => absurd (h8.symm.trans e) (by decide)) he
            have hg := hg.2 (show ¬ x2 = 4 from fun e => absurd (h8.symm.trans e) (by decide))
            have he := ite_n (show ¬ x2 = 5 from fun e => absurd (h8.symm.trans e) (by decide)) he
            have hg := hg.2 (show ¬ x2 = 5 from fun e => absurd (h8.symm.trans e) (by decide))
            have he := ite_p h8 he
            have hg := hg.1 h8
            refine bk_113_153 (fun h13 => ?_) (fun h13 => ?_)
            · have he := ite_p h13 he
              refine bk_113_172 ?_
              exact bk_113_174 (rl_I_I he)
            · have he := ite_n h13 he
              have hg := hg h13
              have k14 := hg
              refine bk_113_157 (cc_62 (d := d + 4) (by first | decide | (unfold isS; decide) | (unfold isS; omega)) k14) ?_
              refine bk_113_169 ?_
              exact bk_113_174 (rl_I_I he)
          · have he := ite_n (show ¬ x2 = 3 from fun e => absurd (h8.symm.trans e) (by decide)) he
            have hg := hg.2 (show ¬ x2 = 3 from fun e => absurd (h8.symm.trans e) (by decide))
            have he := ite_n (show ¬ x2 = 4 from fun e => absurd (h8.symm.trans e) (by decide)) he
            have hg := hg.2 (show ¬ x2 = 4 from fun e => absurd (h8.symm.trans e) (by decide))
            have he := ite_n (show ¬ x2 = 5 from fun e => absurd (h8.symm.trans e) (by decide)) he
            have hg := hg.2 (show ¬ x2 = 5 from fun e => absurd (h8.symm.trans e) (by decide))
            have he := ite_n (show ¬ x2 = 6 from fun e => absurd (h8.symm.trans e) (by decide)) he
            have hg := hg.2 (show ¬ x2 = 6 from fun e => absurd (h8.symm.trans e) (by decide))
            have he := ite_p h8 he
            have hg := hg.1 h8
            refine bk_113_153 (fun h15 => ?_) (fun h15 => ?_)
            · have he := ite_p h15 he
              refine bk_113_172 ?_
              exact bk_113_174 (rl_I_I he)
            · have he := ite_n h15 he
              have hg := hg h15
              have k16 := hg
              refine bk_113_157 (cc_62 (d := d + 4) (by first | decide | (unfold isS; decide) | (unfold isS; omega)) k16) ?_
              refine bk_113_169 ?_
              exact bk_113_174 (rl_I_I he)
          · have he := ite_n (show ¬ x2 = 3 from fun e => absurd (h8.symm.trans e) (by decide)) he
            have hg := hg.2 (show ¬ x2 = 3 from fun e => absurd (h8.symm.trans e) (by decide))
            have he := ite_n (show ¬ x2 = 4 from fun e => absurd (h8.symm.trans e) (by decide)) he
            have hg := hg.2 (show ¬ x2 = 4 from fun e => absurd (h8.symm.trans e) (by decide))
            have he := ite_n (show ¬ x2 = 5 from fun e => absurd (h8.symm.trans e) (by decide)) he
            have hg := hg.2 (show ¬ x2 = 5 from fun e => absurd (h8.symm.trans e) (by decide))
            have he := ite_n (show ¬ x2 = 6 from fun e => absurd (h8.symm.trans e) (by decide)) he
            have hg := hg.2 (show ¬ x2 = 6 from fun e => absurd (h8.symm.trans e) (by decide))
            have he := ite_n (show ¬ x2 = 7 from fun e => absurd (h8.symm.trans e) (by decide)) he
            have hg := hg.2 (show ¬ x2 = 7 from fun e => absurd (h8.symm.trans e) (by decide))
            have he := ite_p h8 he
            have hg := hg.1 h8
            refine bk_113_153 (fun h17 => ?_) (fun h17 => ?_)
            · have he := ite_p h17 he
              refine bk_113_172 ?_
              exact bk_113_174 (rl_I_I he)
            · have he := ite_n h17 he
              have hg := hg h17
              have k18 := hg
              refine bk_113_157 (cc_62 (d := d + 4) (by first | decide | (unfold isS; decide) | (unfold isS; omega)) k18) ?_
              refine bk_113_169 ?_
              exact bk_113_174 (rl_I_I he)
          · have he := ite_n (show ¬ x2 = 3 from fun e => absurd (h8.symm.trans e) (by decide)) he
            have hg := hg.2 (show ¬ x2 = 3 from fun e => absurd (h8.symm.trans e) (by decide))
            have he := ite_n (show ¬ x2 = 4 from fun e => absurd (h8.symm.trans e) (by decide)) he
            have hg := hg.2 (show ¬ x2 = 4 from fun e => absurd (h8.symm.trans e) (by decide))
            have he := ite_n (show ¬ x2 = 5 from fun e => absurd (h8.symm.trans e) (by decide)) he
            have hg := hg.2 (show ¬ x2 = 5 from fun e => absurd (h8.symm.trans e) (by decide))
            have he := ite_n (show ¬ x2 = 6 from fun e => absurd (h8.symm.trans e) (by decide)) he
            have hg := hg.2 (show ¬ x2 = 6 from fun e => absurd (h8.symm.trans e) (by decide))
            have he := ite_n (show ¬ x2 = 7 from fun e => absurd (h8.symm.trans e) (by decide)) he
            have hg := hg.2 (show ¬ x2 = 7 from fun e => absurd (h8.symm.trans e) (by decide))
            have he := ite_n (show ¬ x2 = 8 from fun e => absurd (h8.symm.trans e) (by decide)) he
            have hg := hg.2 (show ¬ x2 = 8 from fun e => absurd (h8.symm.trans e) (by decide))
            have he := ite_p h8 he
            have hg := hg.1 h8
            have k19 := hg
            refine bk_113_194 (cq_I_I (cc_114 (d := d + 0)  k19)) ?_
            rintro _ _ _ _ _ ⟨p2, hr, rfl, rfl, rfl, rfl, rfl⟩
            have he := bx_eq hr he
            exact bk_113_200 (rl_I_I he)
          · have he := ite_n (show ¬ x2 = 3 from fun e => absurd (h8.symm.trans e) (by decide)) he
            have hg := hg.2 (show ¬ x2 = 3 from fun e => absurd (h8.symm.trans e) (by decide))
            have he := ite_n (show ¬ x2 = 4 from fun e => absurd (h8.symm.trans e) (by decide)) he
            have hg := hg.2 (show ¬ x2 = 4 from fun e => absurd (h8.symm.trans e) (by decide))
            have he := ite_n (show ¬ x2 = 5 from fun e => absurd (h8.symm.trans e) (by decide)) he
            have hg := hg.2 (show ¬ x2 = 5 from fun e => absurd (h8.symm.trans e) (by decide))
            have he := ite_n (show ¬ x2 = 6 from fun e => absurd (h8.symm.trans e) (by decide)) he
            have hg := hg.2 (show ¬ x2 = 6 from fun e => absurd (h8.symm.trans e) (by decide))
            have he := ite_n (show ¬ x2 = 7 from fun e => absurd (h8.symm.trans e) (by decide)) he
            have hg := hg.2 (show ¬ x2 = 7 from fun e => absurd (h8.symm.trans e) (by decide))
            have he := ite_n (show ¬ x2 = 8 from fun e => absurd (h8.symm.trans e) (by decide)) he
            have hg := hg.2 (show ¬ x2 = 8 from fun e => absurd (h8.symm.trans e) (by decide))
            have he := ite_n (show ¬ x2 = 9 from fun e => absurd (h8.symm.trans e) (by decide)) he
            have hg := hg.2 (show ¬ x2 = 9 from fun e => absurd (h8.symm.trans e) (by decide))
            have he := ite_p h8 he
            have hg := hg.1 h8
            have k20 := hg
            refine bk_113_194 (cq_I_I (cc_114 (d := d + 0)  k20)) ?_
            rintro _ _ _ _ _ ⟨p3, hr, rfl, rfl, rfl, rfl, rfl⟩
            have he := bx_eq hr he
            exact bk_113_200 (rl_I_I he)
          · have he := ite_n (show ¬ x2 = 3 from fun e => absurd (h8.symm.trans e) (by decide)) he
            have hg := hg.2 (show ¬ x2 = 3 from fun e => absurd (h8.symm.trans e) (by decide))
            have he := ite_n (show ¬ x2 = 4 from fun e => absurd (h8.symm.trans e) (by decide)) he
            have hg := hg.2 (show ¬ x2 = 4 from fun e => absurd (h8.symm.trans e) (by decide))
            have he := ite_n (show ¬ x2 = 5 from fun e => absurd (h8.symm.trans e) (by decide)) he
            have hg := hg.2 (show ¬ x2 = 5 from fun e => absurd (h8.symm.trans e) (by decide))
            have he := ite_n (show ¬ x2 = 6 from fun e => absurd (h8.symm.trans e) (by decide)) he
            have hg := hg.2 (show ¬ x2 = 6 from fun e => absurd (h8.symm.trans e) (by decide))
            have he := ite_n (show ¬ x2 = 7 from fun e => absurd (h8.symm.trans e) (by decide)) he
            have hg := hg.2 (show ¬ x2 = 7 from fun e => absurd (h8.symm.trans e) (by decide))
            have he := ite_n (show ¬ x2 = 8 from fun e => absurd (h8.symm.trans e) (by decide)) he
            have hg := hg.2 (show ¬ x2 = 8 from fun e => absurd (h8.symm.trans e) (by decide))
            have he := ite_n (show ¬ x2 = 9 from fun e => absurd (h8.symm.trans e) (by decide)) he
            have hg := hg.2 (show ¬ x2 = 9 from fun e => absurd (h8.symm.trans e) (by decide))
            have he := ite_n (show ¬ x2 = 10 from fun e => absurd (h8.symm.trans e) (by decide)) he
            have hg := hg.2 (show ¬ x2 = 10 from fun e => absurd (h8.symm.trans e) (by decide))
            have he := ite_p h8 he
            have hg := hg.1 h8
            have k21 := hg
            refine bk_113_194 (cq_I_I (cc_114 (d := d + 0)  k21)) ?_
            rintro _ _ _ _ _ ⟨p4, hr, rfl, rfl, rfl, rfl, rfl⟩
            have he := bx_eq hr he
            exact bk_113_200 (rl_I_I he)
          · have he := ite_n (show ¬ x2 = 3 from fun e => absurd (h8.symm.trans e) (by decide)) he
            have hg := hg.2 (show ¬ x2 = 3 from fun e => absurd (h8.symm.trans e) (by decide))
            have he := ite_n (show ¬ x2 = 4 from fun e => absurd (h8.symm.trans e) (by decide)) he
            have hg := hg.2 (show ¬ x2 = 4 from fun e => absurd (h8.symm.trans e) (by decide))
            have he := ite_n (show ¬ x2 = 5 from fun e => absurd (h8.symm.trans e) (by decide)) he
            have hg := hg.2 (show ¬ x2 = 5 from fun e => absurd (h8.symm.trans e) (by decide))
            have he := ite_n (show ¬ x2 = 6 from fun e => absurd (h8.symm.trans e) (by decide)) he
            have hg := hg.2 (show ¬ x2 = 6 from fun e => absurd (h8.symm.trans e) (by decide))
            have he := ite_n (show ¬ x2 = 7 from fun e => absurd (h8.symm.trans e) (by decide)) he
            have hg := hg.2 (show ¬ x2 = 7 from fun e => absurd (h8.symm.trans e) (by decide))
            have he := ite_n (show ¬ x2 = 8 from fun e => absurd (h8.symm.trans e) (by decide)) he
            have hg := hg.2 (show ¬ x2 = 8 from fun e => absurd (h8.symm.trans e) (by decide))
            have he := ite_n (show ¬ x2 = 9 from fun e => absurd (h8.symm.trans e) (by decide)) he
            have hg := hg.2 (show ¬ x2 = 9 from fun e => absurd (h8.symm.trans e) (by decide))
            have he := ite_n (show ¬ x2 = 10 from fun e => absurd (h8.symm.trans e) (by decide)) he
            have hg := hg.2 (show ¬ x2 = 10 from fun e => absurd (h8.symm.trans e) (by decide))
            have he := ite_n (show ¬ x2 = 11 from fun e => absurd (h8.symm.trans e) (by decide)) he
            have hg := hg.2 (show ¬ x2 = 11 from fun e => absurd (h8.symm.trans e) (by decide))
            have he := ite_p h8 he
            have hg := hg.1 h8
            refine bk_113_175 (fun h22 => ?_) (fun h22 => ?_)
            · have he := ite_p h22 he
              refine bk_113_191 ?_
              exact bk_113_193 (rl_I_I he)
            · have he := ite_n h22 he
              have hg := hg h22
              have k23 := hg
              refine bk_113_179 (cc_63 (d := d + 2) (by first | decide | (unfold isS; decide) | (unfold isS; omega)) k23) ?_
              refine bk_113_187 ?_
              exact bk_113_193 (rl_I_I he)
          · have he := ite_n h8x0 he
            have hg := hg.2 h8x0
            have he := ite_n h8x1 he
            have hg := hg.2 h8x1
            have he := ite_n h8x2 he
            have hg := hg.2 h8x2
            have he := ite_n h8x3 he
            have hg := hg.2 h8x3
            have he := ite_n h8x4 he
            have hg := hg.2 h8x4
            have he := ite_n h8x5 he
            have hg := hg.2 h8x5
            have he := ite_n h8x6 he
            have hg := hg.2 h8x6
            have he := ite_n h8x7 he
            have hg := hg.2 h8x7
            have he := ite_n h8x8 he
            have hg := hg.2 h8x8
            have he := ite_n h8x9 he
            have hg := hg.2 h8x9
            have k24 := hg
            refine bk_113_194 (cq_I_I (cc_114 (d := d + 0)  k24)) ?_
            rintro _ _ _ _ _ ⟨p5, hr, rfl, rfl, rfl, rfl, rfl⟩
            have he := bx_eq hr he
            exact bk_113_200 (rl_I_I he)
        have he := hX1.symm
        refine bk_113_40 k6 (fun h7 => ?_) (fun h7 => ?_)
        · have he := ite_p h7 he
          refine bk_113_57 ?_
          exact J1 _ he
        · have he := ite_n h7 he
          refine bk_113_53 ?_
          exact J1 _ he
      · have he := ite_n h5 he
        have hg := hg.2 h5
        have k25 := hg
        exact bk_113_26 k25 (rl_I_I he)
    · have he := ite_n h4 he
      exact bk_113_18 (rl_I_I he)
/-- VectorShelf.query(III)I -/
def v_119 (I : WI) (x1 : Int32) (x2 : Int32) (x3 : Int32) : Int32 × WI := (if ¬ (v_106 x1 x2 x3) = 0 then (bx ((v_70 I 1 x1 x2 x3) : WI) (fun p1 => (bx ((v_120 p1) : Int32 × WI) (fun p2 => ((v_286 p2.1), p2.2))))) else ((-2), I))
def g_119 (I : WI) (x1 : Int32) (x2 : Int32) (x3 : Int32) : Prop := ((¬ (v_106 x1 x2 x3) = 0) → (bx ((v_70 I 1 x1 x2 x3) : WI) (fun p1 => (g_120 p1))))
theorem cc_119 {l : LX} {d : Nat} {I : WI} {F : WF} {L : WL} {t : Nat} {x1 : Int32} {x2 : Int32} {x3 : Int32} (hg : g_119 I x1 x2 x3) : Con l 119 (d + 6) 0 0 [.ref 0, .int x1, .int x2, .int x3] SH (I, F, L, RT t) (po_I_I F L t (v_119 I x1 x2 x3)) := by
  refine cn_119 ?_
  obtain ⟨T1, hT1⟩ : ∃ r : Int32 × WI, r = (v_119 I x1 x2 x3) := ⟨_, rfl⟩
  rw [← hT1]
  have he := (hT1.trans (v_119.eq_1 ..)).symm
  have hg := Eq.mp (g_119.eq_1 ..) hg
  refine bk_119_0 (cc_106 (d := d + 4) ) ?_
  refine bk_119_6 (fun h2 => ?_) (fun h2 => ?_)
  · have he := ite_p h2 he
    have hg := hg h2
    refine bk_119_12 (cq_V_I (cc_70 (d := d + 5) (by first | decide | (unfold isS; decide) | (unfold isS; omega)))) ?_
    rintro _ _ _ _ ⟨p1, hr, rfl, rfl, rfl, rfl⟩
    have he := bx_eq hr he
    have hg := bx_un hr hg
    have k4 := hg
    refine bk_119_22 (cq_I_I (cc_120 (d := d + 0)  k4)) ?_
    rintro _ _ _ _ _ ⟨p2, hr, rfl, rfl, rfl, rfl, rfl⟩
    have he := bx_eq hr he
    refine bk_119_26 (cc_286 (d := d + 5) ) ?_
    exact bk_119_29 (rl_I_I he)
  · have he := ite_n h2 he
    exact bk_119_9 (rl_I_I he)
/-- VectorShelf.near(II)I -/
def v_128 (I : WI) (F : WF) (x1 : Int32) (x2 : Int32) : Int32 × WI × WF := (if (v_107 x1 (1 : Int32) (5 : Int32)) = 0 then ((-2), I, F) else (if ¬ (v_107 x2 (0 : Int32) (9 : Int32)) = 0 then (bx ((v_115 I 1) : Nat) (fun p1 => (bx ((v_12 I 1 p1) : WI) (fun p2 => (bx ((v_35 p2 F x1 1) : WI × WF) (fun p3 => (if x2 = 5 then ((p3.1 38 4), p3.1, p3.2) else (if x2 = 6 then ((p3.1 38 5), p3.1, p3.2) else (if x2 = 7 then ((p3.1 38 6), p3.1, p3.2) else (if x2 = 8 then ((v_41 p3.1), p3.1, p3.2) else (if x2 = 9 then ((p3.1 38 3), p3.1, p3.2) else ((v_42 p3.1 x2), p3.1, p3.2)))))))))))) else ((-2), I, F)))
def g_128 (I : WI) (F : WF) (x1 : Int32) (x2 : Int32) : Prop := (¬ ((v_107 x1 (1 : Int32) (5 : Int32)) = 0) → ((¬ (v_107 x2 (0 : Int32) (9 : Int32)) = 0) → ((g_115 I 1) ∧ ((isT (v_115 I 1)) ∧ (bx ((v_115 I 1) : Nat) (fun p1 => ((g_12 I 1 p1) ∧ (bx ((v_12 I 1 p1) : WI) (fun p2 => ((g_35 p2 F x1 1) ∧ (bx ((v_35 p2 F x1 1) : WI × WF) (fun p3 => ((x2 = 5 → True) ∧ (¬ (x2 = 5) → ((x2 = 6 → True) ∧ (¬ (x2 = 6) → ((x2 = 7 → True) ∧ (¬ (x2 = 7) → ((x2 = 8 → (g_41 p3.1)) ∧ (¬ (x2 = 8) → ((x2 = 9 → True) ∧ (¬ (x2 = 9) → (g_42 p3.1 x2)))))))))))))))))))))))
theorem cc_128 {l : LX} {d : Nat} {I : WI} {F : WF} {L : WL} {t : Nat} {x1 : Int32} {x2 : Int32} (hg : g_128 I F x1 x2) : Con l 128 (d + 6) 0 0 [.ref 0, .int x1, .int x2] SH (I, F, L, RT t) (po_I_IF L t (v_128 I F x1 x2)) := by
  refine cn_128 ?_
  obtain ⟨T1, hT1⟩ : ∃ r : Int32 × WI × WF, r = (v_128 I F x1 x2) := ⟨_, rfl⟩
  rw [← hT1]
  have he := (hT1.trans (v_128.eq_1 ..)).symm
  have hg := Eq.mp (g_128.eq_1 ..) hg
  refine bk_128_0 (cc_107 (d := d + 5) ) ?_
  refine bk_128_6 (fun h2 => ?_) (fun h2 => ?_)
  · have he := ite_p h2 he
    exact bk_128_19 (rl_I_IF he)
  · have he := ite_n h2 he
    have hg := hg h2
    refine bk_128_9 (cc_107 (d := d + 5) ) ?_
    refine bk_128_16 (fun h4 => ?_) (fun h4 => ?_)
    · have he := ite_p h4 he
      have hg := hg h4
      obtain ⟨k5, hp1k, hg⟩ := hg
      obtain ⟨p1, hr⟩ : ∃ q : Nat, q = (v_115 I 1) := ⟨_, rfl⟩
      have hp1 : isT p1 := by rw [hr]; exact hp1k
      have he := bx_eq hr he
      have hg := bx_un hr hg
      refine bk_128_22 (show Con l 115 _ 0 0 _ SH _ (rR p1 _) from by rw [hr]; exact (cc_115 (d := d + 4) (by first | decide | (unfold isS; decide) | (unfold isS; omega)) k5)) ?_
      obtain ⟨k6, hg⟩ := hg
      refine bk_128_38 (cq_V_I (cc_12 (d := d + 1) (by first | decide | (unfold isS; decide) | (unfold isS; omega)) hp1 k6)) ?_
      rintro _ _ _ _ ⟨p2, hr, rfl, rfl, rfl, rfl⟩
      have he := bx_eq hr he
      have hg := bx_un hr hg
      obtain ⟨k7, hg⟩ := hg
      refine bk_128_41 (cq_V_IF (cc_35 (d := d + 0) (by first | decide | (unfold isS; decide) | (unfold isS; omega)) k7)) ?_
      rintro _ _ _ _ ⟨p3, hr, rfl, rfl, rfl, rfl⟩
      have he := bx_eq hr he
      have hg := bx_un hr hg
      refine bk_128_57 (fun h8 => ?_) (fun h8 => ?_) (fun h8 => ?_) (fun h8 => ?_) (fun h8 => ?_) (fun h8x0 h8x1 h8x2 h8x3 h8x4 => ?_)
      · have he := ite_p h8 he
        exact bk_128_92 (rl_I_IF he)
      · have he := ite_n (show ¬ x2 = 5 from fun e => absurd (h8.symm.trans e) (by decide)) he
        have hg := hg.2 (show ¬ x2 = 5 from fun e => absurd (h8.symm.trans e) (by decide))
        have he := ite_p h8 he
        exact bk_128_100 (rl_I_IF he)
      · have he := ite_n (show ¬ x2 = 5 from fun e => absurd (h8.symm.trans e) (by decide)) he
        have hg := hg.2 (show ¬ x2 = 5 from fun e => absurd (h8.symm.trans e) (by decide))
        have he := ite_n (show ¬ x2 = 6 from fun e => absurd (h8.symm.trans e) (by decide)) he
        have hg := hg.2 (show ¬ x2 = 6 from fun e => absurd (h8.symm.trans e) (by decide))
        have he := ite_p h8 he
        exact bk_128_108 (rl_I_IF he)
      · have he := ite_n (show ¬ x2 = 5 from fun e => absurd (h8.symm.trans e) (by decide)) he
        have hg := hg.2 (show ¬ x2 = 5 from fun e => absurd (h8.symm.trans e) (by decide))
        have he := ite_n (show ¬ x2 = 6 from fun e => absurd (h8.symm.trans e) (by decide)) he
        have hg := hg.2 (show ¬ x2 = 6 from fun e => absurd (h8.symm.trans e) (by decide))
        have he := ite_n (show ¬ x2 = 7 from fun e => absurd (h8.symm.trans e) (by decide)) he
        have hg := hg.2 (show ¬ x2 = 7 from fun e => absurd (h8.symm.trans e) (by decide))
        have he := ite_p h8 he
        have hg := hg.1 h8
        have k9 := hg
        refine bk_128_116 (cc_41 (d := d + 5)  k9) ?_
        exact bk_128_123 (rl_I_IF he)
      · have he := ite_n (show ¬ x2 = 5 from fun e => absurd (h8.symm.trans e) (by decide)) he
        have hg := hg.2 (show ¬ x2 = 5 from fun e => absurd (h8.symm.trans e) (by decide))
        have he := ite_n (show ¬ x2 = 6 from fun e => absurd (h8.symm.trans e) (by decide)) he
        have hg := hg.2 (show ¬ x2 = 6 from fun e => absurd (h8.symm.trans e) (by decide))
        have he := ite_n (show ¬ x2 = 7 from fun e => absurd (h8.symm.trans e) (by decide)) he
        have hg := hg.2 (show ¬ x2 = 7 from fun e => absurd (h8.symm.trans e) (by decide))
        have he := ite_n (show ¬ x2 = 8 from fun e => absurd (h8.symm.trans e) (by decide)) he
        have hg := hg.2 (show ¬ x2 = 8 from fun e => absurd (h8.symm.trans e) (by decide))
        have he := ite_p h8 he
        exact bk_128_124 (rl_I_IF he)
      · have he := ite_n h8x0 he
        have hg := hg.2 h8x0
        have he := ite_n h8x1 he
        have hg := hg.2 h8x1
        have he := ite_n h8x2 he
        have hg := hg.2 h8x2
        have he := ite_n h8x3 he
        have hg := hg.2 h8x3
        have he := ite_n h8x4 he
        have hg := hg.2 h8x4
        have k10 := hg
        refine bk_128_132 (cc_42 (d := d + 4)  k10) ?_
        exact bk_128_140 (rl_I_IF he)
    · have he := ite_n h4 he
      exact bk_128_19 (rl_I_IF he)
end
