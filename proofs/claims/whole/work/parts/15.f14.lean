section
/-- the loop at 2 of VectorShelf$Company.fewestCovering -/
def lp_8_2 (I : WI) (r1 : Nat) (x2 : Int32) : Nat → WI
  | 0 => I
  | k + 1 => bx (lp_8_2 I r1 x2 k) (fun p1 => (up2 p1 43 (nI k).toNatClampNeg (v_9 p1 r1 (nI k) x2)))
def gl_8_2 (I : WI) (r1 : Nat) (x2 : Int32) (N : Nat) : Prop := ((∀ k, k < N → bx (lp_8_2 I r1 x2 k) (fun p1 => (((p1 r1 8) = (I r1 8)) ∧ ((g_9 p1 r1 (nI k) x2) ∧ (vp_in (nI k) 12))))) ∧ (bx (lp_8_2 I r1 x2 N) (fun p1 => (p1 r1 8) = (I r1 8))))
theorem lw_8_2 {l : LX} {d : Nat} {P : RP} {I : WI} {F : WF} {L : WL} {t : Nat} {r1 : Nat} {x2 : Int32} (hr1 : isS r1) (hgl : gl_8_2 I r1 x2 ((I r1 8).toNatClampNeg)) (hx : ∀ p1 : WI, p1 = lp_8_2 I r1 x2 ((I r1 8).toNatClampNeg) → Wp l 8 (d + 4) 0 0 P 0 0 29 [(0, .ref 42), (1, .ref r1)] [] SH (p1, F, L, RT t)) : Wp l 8 (d + 4) 0 0 P 0 0 2 [(0, .ref 42), (1, .ref r1), (2, .int x2), (3, .int 0)] [] SH (I, F, L, RT t) := by
  obtain ⟨hin, hend⟩ := hgl
  have loop : ∀ m k, k + m = (I r1 8).toNatClampNeg → ∀ p1 : WI, p1 = lp_8_2 I r1 x2 k → Wp l 8 (d + 4) 0 0 P 0 0 2 [(0, .ref 42), (1, .ref r1), (2, .int x2), (3, .int (nI k))] [] SH (p1, F, L, RT t) := by
    intro m
    induction m with
    | zero =>
      intro k hk p1 hs
      obtain rfl : k = (I r1 8).toNatClampNeg := by omega
      have hE := bx_un hs hend
      exact bk_8_2 hr1 (fun _ => hx _ hs) (fun h => absurd ((show (p1 r1 8) ≤ (nI ((I r1 8).toNatClampNeg)) from by rw [show (p1 r1 8) = (I r1 8) from hE]; exact (le_cl (Nat.le_refl _)).mpr rfl)) h)
    | succ m ih =>
      intro k hk p1 hs
      have hk2 : k < (I r1 8).toNatClampNeg := by omega
      have ih := ih (k + 1) (by omega)
      rw [nI_succ] at ih
      have he := bx_eq hs (lp_8_2.eq_2 ..).symm
      have hg := bx_un hs (hin k hk2)
      have hE : (p1 r1 8) = (I r1 8) := hg.1
      have hg := hg.2
      refine bk_8_2 hr1 (fun h => absurd ((le_cl (E := (I r1 8)) (i := k) (by omega)).mp (by rw [show (p1 r1 8) = (I r1 8) from hE] at h; exact h)) (by omega)) (fun _ => ?_)
      obtain ⟨k1, hg⟩ := hg
      refine bk_8_10 (cc_9 (d := d + 0) hr1 k1) ?_
      have k2 := hg
      refine bk_8_22 k2 ?_
      exact ih (up2 p1 43 (nI k).toNatClampNeg (v_9 p1 r1 (nI k) x2)) he
  exact loop _ 0 (Nat.zero_add _) _ rfl
/-- the loop at 34 of VectorShelf$Company.fewestCovering -/
def lp_8_34 (I : WI) (r1 : Nat) (a3 : Int32) : Nat → Int32
  | 0 => a3
  | k + 1 => bx (lp_8_34 I r1 a3 k) (fun p3 => (bx ((if ¬ ((nI k) &&& ((I r1 12) ^^^ (-1))) = 0 then 0 else 1) : Int32) (fun p4 => (bx ((if p3 = (-1) then 1 else (if (v_286 p3) ≤ (v_286 (nI k)) then 0 else 1)) : Int32) (fun p5 => (bx ((if p4 = 0 then p3 else (if p5 = 0 then p3 else (if (v_10 I (nI k) (I r1 12)) = 0 then p3 else (nI k)))) : Int32) (fun p6 => p6)))))))
def gl_8_34 (I : WI) (r1 : Nat) (a3 : Int32) (N : Nat) : Prop := (((I r1 12).toInt < 2147483647) ∧ (∀ k, k < N → bx (lp_8_34 I r1 a3 k) (fun p3 => (bx ((if ¬ ((nI k) &&& ((I r1 12) ^^^ (-1))) = 0 then 0 else 1) : Int32) (fun p4 => (bx ((if p3 = (-1) then 1 else (if (v_286 p3) ≤ (v_286 (nI k)) then 0 else 1)) : Int32) (fun p5 => (¬ (p4 = 0) → (¬ (p5 = 0) → (g_10 I (nI k)))))))))))
theorem lw_8_34 {l : LX} {d : Nat} {P : RP} {I : WI} {F : WF} {L : WL} {t : Nat} {r1 : Nat} {a3 : Int32} (hr1 : isS r1) (hgl : gl_8_34 I r1 a3 (((I r1 12).toInt + 1 - (0 : Int32).toInt).toNat)) (hx : ∀ p3 : Int32, p3 = lp_8_34 I r1 a3 (((I r1 12).toInt + 1 - (0 : Int32).toInt).toNat) → Wp l 8 (d + 4) 0 0 P 0 0 118 [(3, .int p3)] [] SH (I, F, L, RT t)) : Wp l 8 (d + 4) 0 0 P 0 0 34 [(0, .ref 42), (1, .ref r1), (3, .int a3), (4, .int 0)] [] SH (I, F, L, RT t) := by
  obtain ⟨hbig, hin⟩ := hgl
  have loop : ∀ m k, k + m = ((I r1 12).toInt + 1 - (0 : Int32).toInt).toNat → ∀ p3 : Int32, p3 = lp_8_34 I r1 a3 k → Wp l 8 (d + 4) 0 0 P 0 0 34 [(0, .ref 42), (1, .ref r1), (3, .int p3), (4, .int (nI k))] [] SH (I, F, L, RT t) := by
    intro m
    induction m with
    | zero =>
      intro k hk p3 hs
      obtain rfl : k = ((I r1 12).toInt + 1 - (0 : Int32).toInt).toNat := by omega
      exact bk_8_34 hr1 (fun _ => hx _ hs) (fun h => absurd ((cl_gt0 hbig (Nat.le_refl _)).mpr rfl) h)
    | succ m ih =>
      intro k hk p3 hs
      have hk2 : k < ((I r1 12).toInt + 1 - (0 : Int32).toInt).toNat := by omega
      have ih := ih (k + 1) (by omega)
      rw [nI_succ] at ih
      have he := bx_eq hs (lp_8_34.eq_2 ..).symm
      have hg := bx_un hs (hin k hk2)
      refine bk_8_34 hr1 (fun h => absurd ((cl_gt0 (E := (I r1 12)) (k := k) hbig (by omega)).mp h) (by omega)) (fun _ => ?_)
      obtain ⟨X1, hX1⟩ : ∃ r : Int32, r = (if ¬ ((nI k) &&& ((I r1 12) ^^^ (-1))) = 0 then 0 else 1) := ⟨_, rfl⟩
      have J1 : ∀ p4 : Int32, p4 = X1 → Wp l 8 (d + 4) 0 0 P 0 0 60 [(0, .ref 42), (1, .ref r1), (3, .int p3), (4, .int (nI k))] [.int p4] SH (I, F, L, RT t) := by
        intro p4 hr
        have hr := hr.trans hX1
        have he := bx_eq hr he
        have hg := bx_un hr hg
        obtain ⟨X2, hX2⟩ : ∃ r : Int32, r = (if p3 = (-1) then 1 else (if (v_286 p3) ≤ (v_286 (nI k)) then 0 else 1)) := ⟨_, rfl⟩
        have J2 : ∀ p5 : Int32, p5 = X2 → Wp l 8 (d + 4) 0 0 P 0 0 84 [(0, .ref 42), (1, .ref r1), (3, .int p3), (4, .int (nI k)), (5, .int p4)] [.int p5] SH (I, F, L, RT t) := by
          intro p5 hr
          have hr := hr.trans hX2
          have he := bx_eq hr he
          have hg := bx_un hr hg
          have hgX := hg
          obtain ⟨X3, hX3⟩ : ∃ r : Int32, r = (if p4 = 0 then p3 else (if p5 = 0 then p3 else (if (v_10 I (nI k) (I r1 12)) = 0 then p3 else (nI k)))) := ⟨_, rfl⟩
          have J3 : ∀ p6 : Int32, p6 = X3 → Wp l 8 (d + 4) 0 0 P 0 0 112 [(0, .ref 42), (1, .ref r1), (3, .int p6), (4, .int (nI k))] [] SH (I, F, L, RT t) := by
            intro p6 hr
            have hr := hr.trans hX3
            have he := bx_eq hr he
            refine bk_8_112 ?_
            exact ih p6 he
          have he := hX3.symm
          have hg := hgX
          refine bk_8_84 (fun h8 => ?_) (fun h8 => ?_)
          · have he := ite_p h8 he
            exact J3 p3 he
          · have he := ite_n h8 he
            have hg := hg h8
            refine bk_8_91 (fun h9 => ?_) (fun h9 => ?_)
            · have he := ite_p h9 he
              exact J3 p3 he
            · have he := ite_n h9 he
              have hg := hg h9
              have k10 := hg
              refine bk_8_96 hr1 (cc_10 (d := d + 2)  k10) ?_
              refine bk_8_106 (fun h11 => ?_) (fun h11 => ?_)
              · have he := ite_p h11 he
                exact J3 p3 he
              · have he := ite_n h11 he
                refine bk_8_109 ?_
                exact J3 (nI k) he
        have he := hX2.symm
        refine bk_8_60 (fun h4 => ?_) (fun h4 => ?_)
        · have he := ite_p h4 he
          refine bk_8_79 ?_
          exact J2 1 he
        · have he := ite_n h4 he
          refine bk_8_67 (cc_286 (d := d + 3) ) ?_
          refine bk_8_72 (cc_286 (d := d + 3) ) ?_
          refine bk_8_76 (fun h7 => ?_) (fun h7 => ?_)
          · have he := ite_p h7 he
            refine bk_8_83 ?_
            exact J2 0 he
          · have he := ite_n h7 he
            refine bk_8_79 ?_
            exact J2 1 he
      have he := hX1.symm
      refine bk_8_43 hr1 (fun h3 => ?_) (fun h3 => ?_)
      · have he := ite_p h3 he
        refine bk_8_59 ?_
        exact J1 0 he
      · have he := ite_n h3 he
        refine bk_8_55 ?_
        exact J1 1 he
  exact loop _ 0 (Nat.zero_add _) _ rfl
/-- VectorShelf$Company.fewestCovering(LVectorShelf$Shelf;I)I -/
def v_8 (I : WI) (r1 : Nat) (x2 : Int32) : Int32 × WI := (bx ((lp_8_2 I r1 x2 ((I r1 8).toNatClampNeg)) : WI) (fun p2 => (bx ((lp_8_34 p2 r1 ((-1) : Int32) (((p2 r1 12).toInt + 1 - (0 : Int32).toInt).toNat)) : Int32) (fun p7 => (p7, p2)))))
def g_8 (I : WI) (r1 : Nat) (x2 : Int32) : Prop := ((gl_8_2 I r1 x2 ((I r1 8).toNatClampNeg)) ∧ (bx ((lp_8_2 I r1 x2 ((I r1 8).toNatClampNeg)) : WI) (fun p2 => (gl_8_34 p2 r1 ((-1) : Int32) (((p2 r1 12).toInt + 1 - (0 : Int32).toInt).toNat)))))
theorem cc_8 {l : LX} {d : Nat} {I : WI} {F : WF} {L : WL} {t : Nat} {r1 : Nat} {x2 : Int32} (hr1 : isS r1) (hg : g_8 I r1 x2) : Con l 8 (d + 4) 0 0 [.ref 42, .ref r1, .int x2] SH (I, F, L, RT t) (po_I_I F L t (v_8 I r1 x2)) := by
  refine cn_8 ?_
  obtain ⟨T1, hT1⟩ : ∃ r : Int32 × WI, r = (v_8 I r1 x2) := ⟨_, rfl⟩
  rw [← hT1]
  have he := (hT1.trans (v_8.eq_1 ..)).symm
  have hg := Eq.mp (g_8.eq_1 ..) hg
  refine bk_8_0 ?_
  obtain ⟨hgX, hg⟩ := hg
  refine lw_8_2 (d := d) hr1 hgX (fun p2 hr => ?_)
  have he := bx_eq hr he
  have hg := bx_un hr hg
  refine bk_8_29 ?_
  have hgX := hg
  refine lw_8_34 (d := d) hr1 hgX (fun p7 hr => ?_)
  have he := bx_eq hr he
  exact bk_8_118 (rl_I_I he)
/-- the loop at 7 of VectorShelf$Judge.weigh -/
def lp_12_7 (I : WI) (r1 : Nat) (r2 : Nat) : Nat → WI
  | 0 => I
  | k + 1 => bx (lp_12_7 I r1 r2 k) (fun p1 => (bx ((v_13 p1 r2 (0 : Int32) (p1 r2 2) r1 (nI k)) : Int32 × WI) (fun p2 => (bx ((if p2.1 = 0 then p2.2 else (up2 p2.2 35 2 ((p2.2 35 2) ||| (1 <<< ((nI k) &&& 31))))) : WI) (fun p3 => (bx ((v_13 p3 r2 (p3 r2 2) (p3 r2 1) r1 (nI k)) : Int32 × WI) (fun p4 => (up2 p4.2 37 (nI k).toNatClampNeg (v_283 (0 : Int32) (v_282 (99 : Int32) p4.1))))))))))
def gl_12_7 (I : WI) (r1 : Nat) (r2 : Nat) (N : Nat) : Prop := ((∀ k, k < N → bx (lp_12_7 I r1 r2 k) (fun p1 => (((p1 r1 8) = (I r1 8)) ∧ ((g_13 p1 r2 (0 : Int32) (p1 r2 2) r1 (nI k)) ∧ (bx ((v_13 p1 r2 (0 : Int32) (p1 r2 2) r1 (nI k)) : Int32 × WI) (fun p2 => (bx ((if p2.1 = 0 then p2.2 else (up2 p2.2 35 2 ((p2.2 35 2) ||| (1 <<< ((nI k) &&& 31))))) : WI) (fun p3 => ((g_13 p3 r2 (p3 r2 2) (p3 r2 1) r1 (nI k)) ∧ (bx ((v_13 p3 r2 (p3 r2 2) (p3 r2 1) r1 (nI k)) : Int32 × WI) (fun p4 => (vp_in (nI k) 12)))))))))))) ∧ (bx (lp_12_7 I r1 r2 N) (fun p1 => (p1 r1 8) = (I r1 8))))
theorem lw_12_7 {l : LX} {d : Nat} {P : RP} {I : WI} {F : WF} {L : WL} {t : Nat} {r1 : Nat} {r2 : Nat} (hr1 : isS r1) (hr2 : isT r2) (hgl : gl_12_7 I r1 r2 ((I r1 8).toNatClampNeg)) (hx : ∀ p1 : WI, p1 = lp_12_7 I r1 r2 ((I r1 8).toNatClampNeg) → Wp l 12 (d + 4) 0 0 P 0 0 82 [] [] SH (p1, F, L, RT t)) : Wp l 12 (d + 4) 0 0 P 0 0 7 [(0, .ref 35), (1, .ref r1), (2, .ref r2), (3, .int 0)] [] SH (I, F, L, RT t) := by
  obtain ⟨hin, hend⟩ := hgl
  have loop : ∀ m k, k + m = (I r1 8).toNatClampNeg → ∀ p1 : WI, p1 = lp_12_7 I r1 r2 k → Wp l 12 (d + 4) 0 0 P 0 0 7 [(0, .ref 35), (1, .ref r1), (2, .ref r2), (3, .int (nI k))] [] SH (p1, F, L, RT t) := by
    intro m
    induction m with
    | zero =>
      intro k hk p1 hs
      obtain rfl : k = (I r1 8).toNatClampNeg := by omega
      have hE := bx_un hs hend
      exact bk_12_7 hr1 (fun _ => hx _ hs) (fun h => absurd ((show (p1 r1 8) ≤ (nI ((I r1 8).toNatClampNeg)) from by rw [show (p1 r1 8) = (I r1 8) from hE]; exact (le_cl (Nat.le_refl _)).mpr rfl)) h)
    | succ m ih =>
      intro k hk p1 hs
      have hk2 : k < (I r1 8).toNatClampNeg := by omega
      have ih := ih (k + 1) (by omega)
      rw [nI_succ] at ih
      have he := bx_eq hs (lp_12_7.eq_2 ..).symm
      have hg := bx_un hs (hin k hk2)
      have hE : (p1 r1 8) = (I r1 8) := hg.1
      have hg := hg.2
      refine bk_12_7 hr1 (fun h => absurd ((le_cl (E := (I r1 8)) (i := k) (by omega)).mp (by rw [show (p1 r1 8) = (I r1 8) from hE] at h; exact h)) (by omega)) (fun _ => ?_)
      obtain ⟨k1, hg⟩ := hg
      refine bk_12_15 hr2 (cq_I_I (cc_13 (d := d + 0) hr2 hr1 k1)) ?_
      rintro _ _ _ _ _ ⟨p2, hr, rfl, rfl, rfl, rfl, rfl⟩
      have he := bx_eq hr he
      have hg := bx_un hr hg
      obtain ⟨X1, hX1⟩ : ∃ r : WI, r = (if p2.1 = 0 then p2.2 else (up2 p2.2 35 2 ((p2.2 35 2) ||| (1 <<< ((nI k) &&& 31))))) := ⟨_, rfl⟩
      have J1 : ∀ p3 : WI, p3 = X1 → Wp l 12 (d + 4) 0 0 P 0 0 42 [(0, .ref 35), (1, .ref r1), (2, .ref r2), (3, .int (nI k))] [] SH (p3, F, L, RT t) := by
        intro p3 hr
        have hr := hr.trans hX1
        have he := bx_eq hr he
        have hg := bx_un hr hg
        obtain ⟨k3, hg⟩ := hg
        refine bk_12_42 hr2 (cq_I_I (cc_13 (d := d + 0) hr2 hr1 k3)) ?_
        rintro _ _ _ _ _ ⟨p4, hr, rfl, rfl, rfl, rfl, rfl⟩
        have he := bx_eq hr he
        have hg := bx_un hr hg
        refine bk_12_57 (cc_282 (d := d + 3) ) ?_
        refine bk_12_72 (cc_283 (d := d + 3) ) ?_
        have k6 := hg
        refine bk_12_75 k6 ?_
        exact ih (up2 p4.2 37 (nI k).toNatClampNeg (v_283 (0 : Int32) (v_282 (99 : Int32) p4.1))) he
      have he := hX1.symm
      refine bk_12_27 (fun h2 => ?_) (fun h2 => ?_)
      · have he := ite_p h2 he
        exact J1 p2.2 he
      · have he := ite_n h2 he
        refine bk_12_30 ?_
        exact J1 (up2 p2.2 35 2 ((p2.2 35 2) ||| (1 <<< ((nI k) &&& 31)))) he
  exact loop _ 0 (Nat.zero_add _) _ rfl
/-- VectorShelf$Judge.weigh(LVectorShelf$Shelf;LVectorShelf$Text;)V -/
def v_12 (I : WI) (r1 : Nat) (r2 : Nat) : WI := (bx ((lp_12_7 (up2 I 35 2 0) r1 r2 (((up2 I 35 2 0) r1 8).toNatClampNeg)) : WI) (fun p5 => p5))
def g_12 (I : WI) (r1 : Nat) (r2 : Nat) : Prop := (gl_12_7 (up2 I 35 2 0) r1 r2 (((up2 I 35 2 0) r1 8).toNatClampNeg))
theorem cc_12 {l : LX} {d : Nat} {I : WI} {F : WF} {L : WL} {t : Nat} {r1 : Nat} {r2 : Nat} (hr1 : isS r1) (hr2 : isT r2) (hg : g_12 I r1 r2) : Con l 12 (d + 4) 0 0 [.ref 35, .ref r1, .ref r2] SH (I, F, L, RT t) (po_V_I F L t (v_12 I r1 r2)) := by
  refine cn_12 ?_
  obtain ⟨T1, hT1⟩ : ∃ r : WI, r = (v_12 I r1 r2) := ⟨_, rfl⟩
  rw [← hT1]
  have he := (hT1.trans (v_12.eq_1 ..)).symm
  have hg := Eq.mp (g_12.eq_1 ..) hg
  refine bk_12_0 ?_
  have hgX := hg
  refine lw_12_7 (d := d) hr1 hr2 hgX (fun p5 hr => ?_)
  have he := bx_eq hr he
  exact bk_12_82 (rl_V_I he)
/-- the loop at 23 of VectorShelf$Reading.readCell -/
def lp_39_23 (I : WI) (x2 : Int32) (r3 : Nat) (x5 : Int32) (x6 : Int32) : Nat → WI
  | 0 => I
  | k + 1 => bx (lp_39_23 I x2 r3 x5 x6 k) (fun p1 => (bx ((if (v_111 x5 (nI k)) = 0 then p1 else (if (v_38 p1 (v_63 p1 r3 (nI k)) x2) = 0 then (if (v_111 x6 (nI k)) = 0 then (up2 p1 38 4 ((p1 38 4) + 1)) else (bx ((v_40 (up2 p1 38 4 ((p1 38 4) + 1)) (nI k) (v_22 (up2 p1 38 4 ((p1 38 4) + 1)) r3 (nI k)) x2) : WI) (fun p2 => p2))) else (up2 p1 38 5 ((p1 38 5) + 1)))) : WI) (fun p3 => p3)))
def gl_39_23 (I : WI) (x2 : Int32) (r3 : Nat) (x5 : Int32) (x6 : Int32) (N : Nat) : Prop := ((∀ k, k < N → bx (lp_39_23 I x2 r3 x5 x6 k) (fun p1 => (((p1 r3 8) = (I r3 8)) ∧ (¬ ((v_111 x5 (nI k)) = 0) → ((g_63 p1 r3 (nI k)) ∧ ((g_38 p1 x2) ∧ (((v_38 p1 (v_63 p1 r3 (nI k)) x2) = 0) → (¬ ((v_111 x6 (nI k)) = 0) → ((g_22 (up2 p1 38 4 ((p1 38 4) + 1)) r3 (nI k)) ∧ (g_40 (up2 p1 38 4 ((p1 38 4) + 1)) (nI k) (v_22 (up2 p1 38 4 ((p1 38 4) + 1)) r3 (nI k)))))))))))) ∧ (bx (lp_39_23 I x2 r3 x5 x6 N) (fun p1 => (p1 r3 8) = (I r3 8))))
theorem lw_39_23 {l : LX} {d : Nat} {P : RP} {I : WI} {F : WF} {L : WL} {t : Nat} {x2 : Int32} {r3 : Nat} {x5 : Int32} {x6 : Int32} (hr3 : isS r3) (hgl : gl_39_23 I x2 r3 x5 x6 ((I r3 8).toNatClampNeg)) (hx : ∀ p1 : WI, p1 = lp_39_23 I x2 r3 x5 x6 ((I r3 8).toNatClampNeg) → Wp l 39 (d + 4) 0 0 P 0 0 110 [] [] SH (p1, F, L, RT t)) : Wp l 39 (d + 4) 0 0 P 0 0 23 [(0, .ref 38), (2, .int x2), (3, .ref r3), (4, .ref 35), (5, .int x5), (6, .int x6), (7, .int 0)] [] SH (I, F, L, RT t) := by
  obtain ⟨hin, hend⟩ := hgl
  have loop : ∀ m k, k + m = (I r3 8).toNatClampNeg → ∀ p1 : WI, p1 = lp_39_23 I x2 r3 x5 x6 k → Wp l 39 (d + 4) 0 0 P 0 0 23 [(0, .ref 38), (2, .int x2), (3, .ref r3), (4, .ref 35), (5, .int x5), (6, .int x6), (7, .int (nI k))] [] SH (p1, F, L, RT t) := by
    intro m
    induction m with
    | zero =>
      intro k hk p1 hs
      obtain rfl : k = (I r3 8).toNatClampNeg := by omega
      have hE := bx_un hs hend
      exact bk_39_23 hr3 (fun _ => hx _ hs) (fun h => absurd ((show (p1 r3 8) ≤ (nI ((I r3 8).toNatClampNeg)) from by rw [show (p1 r3 8) = (I r3 8) from hE]; exact (le_cl (Nat.le_refl _)).mpr rfl)) h)
    | succ m ih =>
      intro k hk p1 hs
      have hk2 : k < (I r3 8).toNatClampNeg := by omega
      have ih := ih (k + 1) (by omega)
      rw [nI_succ] at ih
      have he := bx_eq hs (lp_39_23.eq_2 ..).symm
      have hg := bx_un hs (hin k hk2)
      have hE : (p1 r3 8) = (I r3 8) := hg.1
      have hg := hg.2
      refine bk_39_23 hr3 (fun h => absurd ((le_cl (E := (I r3 8)) (i := k) (by omega)).mp (by rw [show (p1 r3 8) = (I r3 8) from hE] at h; exact h)) (by omega)) (fun _ => ?_)
      refine bk_39_32 (cc_111 (d := d + 3) ) ?_
      have hgX := hg
      obtain ⟨X1, hX1⟩ : ∃ r : WI, r = (if (v_111 x5 (nI k)) = 0 then p1 else (if (v_38 p1 (v_63 p1 r3 (nI k)) x2) = 0 then (if (v_111 x6 (nI k)) = 0 then (up2 p1 38 4 ((p1 38 4) + 1)) else (bx ((v_40 (up2 p1 38 4 ((p1 38 4) + 1)) (nI k) (v_22 (up2 p1 38 4 ((p1 38 4) + 1)) r3 (nI k)) x2) : WI) (fun p2 => p2))) else (up2 p1 38 5 ((p1 38 5) + 1)))) := ⟨_, rfl⟩
      have J1 : ∀ p3 : WI, p3 = X1 → Wp l 39 (d + 4) 0 0 P 0 0 104 [(0, .ref 38), (2, .int x2), (3, .ref r3), (4, .ref 35), (5, .int x5), (6, .int x6), (7, .int (nI k))] [] SH (p3, F, L, RT t) := by
        intro p3 hr
        have hr := hr.trans hX1
        have he := bx_eq hr he
        refine bk_39_104 ?_
        exact ih p3 he
      have he := hX1.symm
      have hg := hgX
      refine bk_39_39 (fun h4 => ?_) (fun h4 => ?_)
      · have he := ite_p h4 he
        exact J1 p1 he
      · have he := ite_n h4 he
        have hg := hg h4
        obtain ⟨k5, hg⟩ := hg
        refine bk_39_42 hr3 (cc_63 (d := d + 0) hr3 k5) ?_
        obtain ⟨k6, hg⟩ := hg
        refine bk_39_49 (cc_38 (d := d + 2)  k6) ?_
        refine bk_39_53 (fun h7 => ?_) (fun h7 => ?_)
        · have he := ite_p h7 he
          have hg := hg h7
          refine bk_39_69 (cc_111 (d := d + 3) ) ?_
          refine bk_39_86 (fun h9 => ?_) (fun h9 => ?_)
          · have he := ite_p h9 he
            exact J1 (up2 p1 38 4 ((p1 38 4) + 1)) he
          · have he := ite_n h9 he
            have hg := hg h9
            obtain ⟨k10, hg⟩ := hg
            refine bk_39_89 (cc_22 (d := d + 1) hr3 k10) ?_
            have k11 := hg
            refine bk_39_100 (cq_V_I (cc_40 (d := d + 2)  k11)) ?_
            rintro _ _ _ _ ⟨p2, hr, rfl, rfl, rfl, rfl⟩
            have he := bx_eq hr he
            exact J1 p2 he
        · have he := ite_n h7 he
          refine bk_39_56 ?_
          exact J1 (up2 p1 38 5 ((p1 38 5) + 1)) he
  exact loop _ 0 (Nat.zero_add _) _ rfl
/-- VectorShelf$Reading.readCell(IILVectorShelf$Shelf;LVectorShelf$Judge;)V -/
def v_39 (I : WI) (x1 : Int32) (x2 : Int32) (r3 : Nat) : WI := (bx ((lp_39_23 I x2 r3 ((v_66 I r3 x1) &&& (I r3 12)) (v_21 I r3) ((I r3 8).toNatClampNeg)) : WI) (fun p4 => p4))
def g_39 (I : WI) (x1 : Int32) (x2 : Int32) (r3 : Nat) : Prop := ((g_66 I r3 x1) ∧ (gl_39_23 I x2 r3 ((v_66 I r3 x1) &&& (I r3 12)) (v_21 I r3) ((I r3 8).toNatClampNeg)))
theorem cc_39 {l : LX} {d : Nat} {I : WI} {F : WF} {L : WL} {t : Nat} {x1 : Int32} {x2 : Int32} {r3 : Nat} (hr3 : isS r3) (hg : g_39 I x1 x2 r3) : Con l 39 (d + 4) 0 0 [.ref 38, .int x1, .int x2, .ref r3, .ref 35] SH (I, F, L, RT t) (po_V_I F L t (v_39 I x1 x2 r3)) := by
  refine cn_39 ?_
  obtain ⟨T1, hT1⟩ : ∃ r : WI, r = (v_39 I x1 x2 r3) := ⟨_, rfl⟩
  rw [← hT1]
  have he := (hT1.trans (v_39.eq_1 ..)).symm
  have hg := Eq.mp (g_39.eq_1 ..) hg
  obtain ⟨k1, hg⟩ := hg
  refine bk_39_0 hr3 (cc_66 (d := d + 3) hr3 k1) ?_
  refine bk_39_5 hr3 (cc_21 (d := d + 3) hr3) ?_
  refine bk_39_18 ?_
  have hgX := hg
  refine lw_39_23 (d := d) hr3 hgX (fun p4 hr => ?_)
  have he := bx_eq hr he
  exact bk_39_110 (rl_V_I he)
/-- VectorShelf$Shelf.addVector(IIII)I -/
def v_55 (I : WI) (b : Nat) (x1 : Int32) (x2 : Int32) (x3 : Int32) (x4 : Int32) : Int32 × WI := (if (I b 8) < 12 then (bx ((v_56 (up2 (up2 I b 8 ((I b 8) + 1)) (b + 8) (I b 8).toNatClampNeg x4) b (I b 8) (1 : Int32)) : WI) (fun p1 => (bx ((v_57 p1 b (I b 8) x1 x2 x3) : WI) (fun p2 => ((I b 8), p2))))) else ((-4), I))
def g_55 (I : WI) (b : Nat) (x1 : Int32) (x2 : Int32) (x3 : Int32) (x4 : Int32) : Prop := (((I b 8) < 12) → ((vp_in (I b 8) 12) ∧ (bx ((v_56 (up2 (up2 I b 8 ((I b 8) + 1)) (b + 8) (I b 8).toNatClampNeg x4) b (I b 8) (1 : Int32)) : WI) (fun p1 => (g_57 p1 b (I b 8) x1 x2 x3)))))
theorem cc_55 {l : LX} {d : Nat} {I : WI} {F : WF} {L : WL} {t : Nat} {b : Nat} {x1 : Int32} {x2 : Int32} {x3 : Int32} {x4 : Int32} (hb : isS b) (hg : g_55 I b x1 x2 x3 x4) : Con l 55 (d + 3) 0 0 [.ref b, .int x1, .int x2, .int x3, .int x4] SH (I, F, L, RT t) (po_I_I F L t (v_55 I b x1 x2 x3 x4)) := by
  refine cn_55 ?_
  obtain ⟨T1, hT1⟩ : ∃ r : Int32 × WI, r = (v_55 I b x1 x2 x3 x4) := ⟨_, rfl⟩
  rw [← hT1]
  have he := (hT1.trans (v_55.eq_1 ..)).symm
  have hg := Eq.mp (g_55.eq_1 ..) hg
  refine bk_55_0 hb (fun h1 => ?_) (fun h1 => ?_)
  · have he := ite_p h1 he
    have hg := hg h1
    obtain ⟨k2, hg⟩ := hg
    refine bk_55_12 hb k2 (cq_V_I (cc_56 (d := d + 2) hb)) ?_
    rintro _ _ _ _ ⟨p1, hr, rfl, rfl, rfl, rfl⟩
    have he := bx_eq hr he
    have hg := bx_un hr hg
    have k4 := hg
    refine bk_55_44 hb (cq_V_I (cc_57 (d := d + 0) hb k4)) ?_
    rintro _ _ _ _ ⟨p2, hr, rfl, rfl, rfl, rfl⟩
    have he := bx_eq hr he
    exact bk_55_53 (rl_I_I he)
  · have he := ite_n h1 he
    exact bk_55_9 (rl_I_I he)
/-- VectorShelf.vector(IIII)I -/
def v_108 (I : WI) (x1 : Int32) (x2 : Int32) (x3 : Int32) (x4 : Int32) : Int32 × WI := (if (v_106 x1 x2 x3) = 0 then ((-2), I) else (if ¬ (v_107 x4 ((-99) : Int32) (99 : Int32)) = 0 then (if ¬ (I 1 4) = 0 then (if (I 1 8) < 12 then (bx ((v_55 I 1 x1 x2 x3 x4) : Int32 × WI) (fun p1 => (p1.1, p1.2))) else ((-4), I)) else ((-3), I)) else ((-2), I)))
def g_108 (I : WI) (x1 : Int32) (x2 : Int32) (x3 : Int32) (x4 : Int32) : Prop := (¬ ((v_106 x1 x2 x3) = 0) → ((¬ (v_107 x4 ((-99) : Int32) (99 : Int32)) = 0) → ((¬ (I 1 4) = 0) → (((I 1 8) < 12) → (g_55 I 1 x1 x2 x3 x4)))))
theorem cc_108 {l : LX} {d : Nat} {I : WI} {F : WF} {L : WL} {t : Nat} {x1 : Int32} {x2 : Int32} {x3 : Int32} {x4 : Int32} (hg : g_108 I x1 x2 x3 x4) : Con l 108 (d + 4) 0 0 [.ref 0, .int x1, .int x2, .int x3, .int x4] SH (I, F, L, RT t) (po_I_I F L t (v_108 I x1 x2 x3 x4)) := by
  refine cn_108 ?_
  obtain ⟨T1, hT1⟩ : ∃ r : Int32 × WI, r = (v_108 I x1 x2 x3 x4) := ⟨_, rfl⟩
  rw [← hT1]
  have he := (hT1.trans (v_108.eq_1 ..)).symm
  have hg := Eq.mp (g_108.eq_1 ..) hg
  refine bk_108_0 (cc_106 (d := d + 2) ) ?_
  refine bk_108_6 (fun h2 => ?_) (fun h2 => ?_)
  · have he := ite_p h2 he
    exact bk_108_21 (rl_I_I he)
  · have he := ite_n h2 he
    have hg := hg h2
    refine bk_108_9 (cc_107 (d := d + 3) ) ?_
    refine bk_108_18 (fun h4 => ?_) (fun h4 => ?_)
    · have he := ite_p h4 he
      have hg := hg h4
      refine bk_108_24 (fun h5 => ?_) (fun h5 => ?_)
      · have he := ite_p h5 he
        have hg := hg h5
        refine bk_108_37 (fun h6 => ?_) (fun h6 => ?_)
        · have he := ite_p h6 he
          have hg := hg h6
          have k7 := hg
          refine bk_108_54 (cq_I_I (cc_55 (d := d + 0) (by first | decide | (unfold isS; decide) | (unfold isS; omega)) k7)) ?_
          rintro _ _ _ _ _ ⟨p1, hr, rfl, rfl, rfl, rfl, rfl⟩
          have he := bx_eq hr he
          exact bk_108_66 (rl_I_I he)
        · have he := ite_n h6 he
          refine bk_108_49 ?_
          exact bk_108_66 (rl_I_I he)
      · have he := ite_n h5 he
        exact bk_108_34 (rl_I_I he)
    · have he := ite_n h4 he
      exact bk_108_21 (rl_I_I he)
/-- VectorShelf.judged(II)I -/
def v_114 (I : WI) (x1 : Int32) (x2 : Int32) : Int32 × WI := (bx ((v_115 I 1) : Nat) (fun p1 => (bx ((v_12 I 1 p1) : WI) (fun p2 => (if ¬ x2 = 9 then (if ¬ x2 = 10 then ((v_22 p2 1 x1), p2) else ((p2 37 x1.toNatClampNeg), p2)) else (if (v_20 p2 1 x1) = 0 then (0, p2) else (1, p2)))))))
def g_114 (I : WI) (x1 : Int32) (x2 : Int32) : Prop := ((g_115 I 1) ∧ ((isT (v_115 I 1)) ∧ (bx ((v_115 I 1) : Nat) (fun p1 => ((g_12 I 1 p1) ∧ (bx ((v_12 I 1 p1) : WI) (fun p2 => ((¬ x2 = 9) → (((¬ x2 = 10) → (g_22 p2 1 x1)) ∧ (¬ (¬ x2 = 10) → (vp_in x1 12)))))))))))
theorem cc_114 {l : LX} {d : Nat} {I : WI} {F : WF} {L : WL} {t : Nat} {x1 : Int32} {x2 : Int32} (hg : g_114 I x1 x2) : Con l 114 (d + 5) 0 0 [.ref 0, .int x1, .int x2] SH (I, F, L, RT t) (po_I_I F L t (v_114 I x1 x2)) := by
  refine cn_114 ?_
  obtain ⟨T1, hT1⟩ : ∃ r : Int32 × WI, r = (v_114 I x1 x2) := ⟨_, rfl⟩
  rw [← hT1]
  have he := (hT1.trans (v_114.eq_1 ..)).symm
  have hg := Eq.mp (g_114.eq_1 ..) hg
  obtain ⟨k1, hp1k, hg⟩ := hg
  obtain ⟨p1, hr⟩ : ∃ q : Nat, q = (v_115 I 1) := ⟨_, rfl⟩
  have hp1 : isT p1 := by rw [hr]; exact hp1k
  have he := bx_eq hr he
  have hg := bx_un hr hg
  refine bk_114_0 (show Con l 115 _ 0 0 _ SH _ (rR p1 _) from by rw [hr]; exact (cc_115 (d := d + 3) (by first | decide | (unfold isS; decide) | (unfold isS; omega)) k1)) ?_
  obtain ⟨k2, hg⟩ := hg
  refine bk_114_16 (cq_V_I (cc_12 (d := d + 0) (by first | decide | (unfold isS; decide) | (unfold isS; omega)) hp1 k2)) ?_
  rintro _ _ _ _ ⟨p2, hr, rfl, rfl, rfl, rfl⟩
  have he := bx_eq hr he
  have hg := bx_un hr hg
  refine bk_114_19 (fun h3 => ?_) (fun h3 => ?_)
  · have he := ite_p h3 he
    have hg := hg h3
    refine bk_114_46 (fun h4 => ?_) (fun h4 => ?_)
    · have he := ite_p h4 he
      have hg := hg.1 h4
      have k5 := hg
      refine bk_114_64 (cc_22 (d := d + 2) (by first | decide | (unfold isS; decide) | (unfold isS; omega)) k5) ?_
      exact bk_114_76 (rl_I_I he)
    · have he := ite_n h4 he
      have hg := hg.2 h4
      have k6 := hg
      refine bk_114_52 k6 ?_
      exact bk_114_76 (rl_I_I he)
  · have he := ite_n h3 he
    refine bk_114_25 (cc_20 (d := d + 3) (by first | decide | (unfold isS; decide) | (unfold isS; omega))) ?_
    refine bk_114_37 (fun h8 => ?_) (fun h8 => ?_)
    · have he := ite_p h8 he
      refine bk_114_44 ?_
      exact bk_114_45 (rl_I_I he)
    · have he := ite_n h8 he
      refine bk_114_40 ?_
      exact bk_114_45 (rl_I_I he)
/-- VectorShelf.fitting()I -/
def v_120 (I : WI) : Int32 × WI := (bx ((v_115 I 1) : Nat) (fun p1 => (bx ((v_12 I 1 p1) : WI) (fun p2 => ((v_21 p2 1), p2)))))
def g_120 (I : WI) : Prop := ((g_115 I 1) ∧ ((isT (v_115 I 1)) ∧ (bx ((v_115 I 1) : Nat) (fun p1 => (g_12 I 1 p1)))))
theorem cc_120 {l : LX} {d : Nat} {I : WI} {F : WF} {L : WL} {t : Nat} (hg : g_120 I) : Con l 120 (d + 5) 0 0 [.ref 0] SH (I, F, L, RT t) (po_I_I F L t (v_120 I)) := by
  refine cn_120 ?_
  obtain ⟨T1, hT1⟩ : ∃ r : Int32 × WI, r = (v_120 I) := ⟨_, rfl⟩
  rw [← hT1]
  have he := (hT1.trans (v_120.eq_1 ..)).symm
  have hg := Eq.mp (g_120.eq_1 ..) hg
  obtain ⟨k1, hp1k, hg⟩ := hg
  obtain ⟨p1, hr⟩ : ∃ q : Nat, q = (v_115 I 1) := ⟨_, rfl⟩
  have hp1 : isT p1 := by rw [hr]; exact hp1k
  have he := bx_eq hr he
  have hg := bx_un hr hg
  refine bk_120_0 (show Con l 115 _ 0 0 _ SH _ (rR p1 _) from by rw [hr]; exact (cc_115 (d := d + 3) (by first | decide | (unfold isS; decide) | (unfold isS; omega)) k1)) ?_
  have k2 := hg
  refine bk_120_16 (cq_V_I (cc_12 (d := d + 0) (by first | decide | (unfold isS; decide) | (unfold isS; omega)) hp1 k2)) ?_
  rintro _ _ _ _ ⟨p2, hr, rfl, rfl, rfl, rfl⟩
  have he := bx_eq hr he
  refine bk_120_19 (cc_21 (d := d + 4) (by first | decide | (unfold isS; decide) | (unfold isS; omega))) ?_
  exact bk_120_30 (rl_I_I he)
/-- the loop at 33 of VectorShelf.within -/
def lp_130_33 (I : WI) (x1 : Int32) (x3 : Int32) (a4 : Int32) : Nat → Int32
  | 0 => a4
  | k + 1 => bx (lp_130_33 I x1 x3 a4 k) (fun p2 => (bx ((if (v_111 x3 (nI k)) = 0 then p2 else (if x1 < (v_22 I 1 (nI k)) then p2 else (p2 ||| (1 <<< ((nI k) &&& 31))))) : Int32) (fun p3 => p3)))
def gl_130_33 (I : WI) (x1 : Int32) (x3 : Int32) (a4 : Int32) (N : Nat) : Prop := (∀ k, k < N → bx (lp_130_33 I x1 x3 a4 k) (fun p2 => (¬ ((v_111 x3 (nI k)) = 0) → (g_22 I 1 (nI k)))))
theorem lw_130_33 {l : LX} {d : Nat} {P : RP} {I : WI} {F : WF} {L : WL} {t : Nat} {x1 : Int32} {x2 : Int32} {x3 : Int32} {a4 : Int32} (hgl : gl_130_33 I x1 x3 a4 ((I 1 8).toNatClampNeg)) (hx : ∀ p2 : Int32, p2 = lp_130_33 I x1 x3 a4 ((I 1 8).toNatClampNeg) → Wp l 130 (d + 6) 0 0 P 0 0 86 [(2, .int x2), (4, .int p2)] [] SH (I, F, L, RT t)) : Wp l 130 (d + 6) 0 0 P 0 0 33 [(0, .ref 0), (1, .int x1), (2, .int x2), (3, .int x3), (4, .int a4), (5, .int 0)] [] SH (I, F, L, RT t) := by
  have hin := hgl
  have loop : ∀ m k, k + m = (I 1 8).toNatClampNeg → ∀ p2 : Int32, p2 = lp_130_33 I x1 x3 a4 k → Wp l 130 (d + 6) 0 0 P 0 0 33 [(0, .ref 0), (1, .int x1), (2, .int x2), (3, .int x3), (4, .int p2), (5, .int (nI k))] [] SH (I, F, L, RT t) := by
    intro m
    induction m with
    | zero =>
      intro k hk p2 hs
      obtain rfl : k = (I 1 8).toNatClampNeg := by omega
      exact bk_130_33  (fun _ => hx _ hs) (fun h => absurd ((le_cl (Nat.le_refl _)).mpr rfl) h)
    | succ m ih =>
      intro k hk p2 hs
      have hk2 : k < (I 1 8).toNatClampNeg := by omega
      have ih := ih (k + 1) (by omega)
      rw [nI_succ] at ih
      have he := bx_eq hs (lp_130_33.eq_2 ..).symm
      have hg := bx_un hs (hin k hk2)
      refine bk_130_33  (fun h => absurd ((le_cl (E := (I 1 8)) (i := k) (by omega)).mp h) (by omega)) (fun _ => ?_)
      refine bk_130_45 (cc_111 (d := d + 5) ) ?_
      have hgX := hg
      obtain ⟨X1, hX1⟩ : ∃ r : Int32, r = (if (v_111 x3 (nI k)) = 0 then p2 else (if x1 < (v_22 I 1 (nI k)) then p2 else (p2 ||| (1 <<< ((nI k) &&& 31))))) := ⟨_, rfl⟩
      have J1 : ∀ p3 : Int32, p3 = X1 → Wp l 130 (d + 6) 0 0 P 0 0 80 [(0, .ref 0), (1, .int x1), (2, .int x2), (3, .int x3), (4, .int p3), (5, .int (nI k))] [] SH (I, F, L, RT t) := by
        intro p3 hr
        have hr := hr.trans hX1
        have he := bx_eq hr he
        refine bk_130_80 ?_
        exact ih p3 he
      have he := hX1.symm
      have hg := hgX
      refine bk_130_51 (fun h7 => ?_) (fun h7 => ?_)
      · have he := ite_p h7 he
        exact J1 p2 he
      · have he := ite_n h7 he
        have hg := hg h7
        have k8 := hg
        refine bk_130_54 (cc_22 (d := d + 3) (by first | decide | (unfold isS; decide) | (unfold isS; omega)) k8) ?_
        refine bk_130_67 (fun h9 => ?_) (fun h9 => ?_)
        · have he := ite_p h9 he
          exact J1 p2 he
        · have he := ite_n h9 he
          refine bk_130_71 ?_
          exact J1 (p2 ||| (1 <<< ((nI k) &&& 31))) he
  exact loop _ 0 (Nat.zero_add _) _ rfl
/-- VectorShelf.within(II)I -/
def v_130 (I : WI) (x1 : Int32) (x2 : Int32) : Int32 × WI := (if (v_107 x1 (0 : Int32) (999999999 : Int32)) = 0 then ((-2), I) else (if ¬ (v_107 x2 (0 : Int32) (1 : Int32)) = 0 then (bx ((v_120 I) : Int32 × WI) (fun p1 => (bx ((lp_130_33 p1.2 x1 p1.1 (0 : Int32) ((p1.2 1 8).toNatClampNeg)) : Int32) (fun p4 => (if ¬ x2 = 0 then (p4, p1.2) else ((v_286 p4), p1.2)))))) else ((-2), I)))
def g_130 (I : WI) (x1 : Int32) (x2 : Int32) : Prop := (¬ ((v_107 x1 (0 : Int32) (999999999 : Int32)) = 0) → ((¬ (v_107 x2 (0 : Int32) (1 : Int32)) = 0) → ((g_120 I) ∧ (bx ((v_120 I) : Int32 × WI) (fun p1 => (gl_130_33 p1.2 x1 p1.1 (0 : Int32) ((p1.2 1 8).toNatClampNeg)))))))
theorem cc_130 {l : LX} {d : Nat} {I : WI} {F : WF} {L : WL} {t : Nat} {x1 : Int32} {x2 : Int32} (hg : g_130 I x1 x2) : Con l 130 (d + 6) 0 0 [.ref 0, .int x1, .int x2] SH (I, F, L, RT t) (po_I_I F L t (v_130 I x1 x2)) := by
  refine cn_130 ?_
  obtain ⟨T1, hT1⟩ : ∃ r : Int32 × WI, r = (v_130 I x1 x2) := ⟨_, rfl⟩
  rw [← hT1]
  have he := (hT1.trans (v_130.eq_1 ..)).symm
  have hg := Eq.mp (g_130.eq_1 ..) hg
  refine bk_130_0 (cc_107 (d := d + 5) ) ?_
  refine bk_130_7 (fun h2 => ?_) (fun h2 => ?_)
  · have he := ite_p h2 he
    exact bk_130_19 (rl_I_I he)
  · have he := ite_n h2 he
    have hg := hg h2
    refine bk_130_10 (cc_107 (d := d + 5) ) ?_
    refine bk_130_16 (fun h4 => ?_) (fun h4 => ?_)
    · have he := ite_p h4 he
      have hg := hg h4
      obtain ⟨k5, hg⟩ := hg
      refine bk_130_22 (cq_I_I (cc_120 (d := d + 0)  k5)) ?_
      rintro _ _ _ _ _ ⟨p1, hr, rfl, rfl, rfl, rfl, rfl⟩
      have he := bx_eq hr he
      have hg := bx_un hr hg
      refine bk_130_26 ?_
      have hgX := hg
      refine lw_130_33 (d := d)  hgX (fun p4 hr => ?_)
      have he := bx_eq hr he
      refine bk_130_86 (fun h10 => ?_) (fun h10 => ?_)
      · have he := ite_p h10 he
        refine bk_130_98 ?_
        exact bk_130_100 (rl_I_I he)
      · have he := ite_n h10 he
        refine bk_130_90 (cc_286 (d := d + 5) ) ?_
        refine bk_130_95 ?_
        exact bk_130_100 (rl_I_I he)
    · have he := ite_n h4 he
      exact bk_130_19 (rl_I_I he)
/-- the loop at 45 of VectorShelf.rank -/
def lp_131_45 (I : WI) (x1 : Int32) (x2 : Int32) (x3 : Int32) (a4 : Int32) : Nat → Int32
  | 0 => a4
  | k + 1 => bx (lp_131_45 I x1 x2 x3 a4 k) (fun p2 => (bx ((if (v_111 x2 (nI k)) = 0 then p2 else (if (v_129 (v_22 I 1 (nI k)) (nI k) x3 x1) = 0 then p2 else (p2 + 1))) : Int32) (fun p3 => p3)))
def gl_131_45 (I : WI) (x1 : Int32) (x2 : Int32) (x3 : Int32) (a4 : Int32) (N : Nat) : Prop := (∀ k, k < N → bx (lp_131_45 I x1 x2 x3 a4 k) (fun p2 => (¬ ((v_111 x2 (nI k)) = 0) → (g_22 I 1 (nI k)))))
theorem lw_131_45 {l : LX} {d : Nat} {P : RP} {I : WI} {F : WF} {L : WL} {t : Nat} {x1 : Int32} {x2 : Int32} {x3 : Int32} {a4 : Int32} (hgl : gl_131_45 I x1 x2 x3 a4 ((I 1 8).toNatClampNeg)) (hx : ∀ p2 : Int32, p2 = lp_131_45 I x1 x2 x3 a4 ((I 1 8).toNatClampNeg) → Wp l 131 (d + 6) 0 0 P 0 0 98 [(4, .int p2)] [] SH (I, F, L, RT t)) : Wp l 131 (d + 6) 0 0 P 0 0 45 [(0, .ref 0), (1, .int x1), (2, .int x2), (3, .int x3), (4, .int a4), (5, .int 0)] [] SH (I, F, L, RT t) := by
  have hin := hgl
  have loop : ∀ m k, k + m = (I 1 8).toNatClampNeg → ∀ p2 : Int32, p2 = lp_131_45 I x1 x2 x3 a4 k → Wp l 131 (d + 6) 0 0 P 0 0 45 [(0, .ref 0), (1, .int x1), (2, .int x2), (3, .int x3), (4, .int p2), (5, .int (nI k))] [] SH (I, F, L, RT t) := by
    intro m
    induction m with
    | zero =>
      intro k hk p2 hs
      obtain rfl : k = (I 1 8).toNatClampNeg := by omega
      exact bk_131_45  (fun _ => hx _ hs) (fun h => absurd ((le_cl (Nat.le_refl _)).mpr rfl) h)
    | succ m ih =>
      intro k hk p2 hs
      have hk2 : k < (I 1 8).toNatClampNeg := by omega
      have ih := ih (k + 1) (by omega)
      rw [nI_succ] at ih
      have he := bx_eq hs (lp_131_45.eq_2 ..).symm
      have hg := bx_un hs (hin k hk2)
      refine bk_131_45  (fun h => absurd ((le_cl (E := (I 1 8)) (i := k) (by omega)).mp h) (by omega)) (fun _ => ?_)
      refine bk_131_57 (cc_111 (d := d + 5) ) ?_
      have hgX := hg
      obtain ⟨X1, hX1⟩ : ∃ r : Int32, r = (if (v_111 x2 (nI k)) = 0 then p2 else (if (v_129 (v_22 I 1 (nI k)) (nI k) x3 x1) = 0 then p2 else (p2 + 1))) := ⟨_, rfl⟩
      have J1 : ∀ p3 : Int32, p3 = X1 → Wp l 131 (d + 6) 0 0 P 0 0 92 [(0, .ref 0), (1, .int x1), (2, .int x2), (3, .int x3), (4, .int p3), (5, .int (nI k))] [] SH (I, F, L, RT t) := by
        intro p3 hr
        have hr := hr.trans hX1
        have he := bx_eq hr he
        refine bk_131_92 ?_
        exact ih p3 he
      have he := hX1.symm
      have hg := hgX
      refine bk_131_63 (fun h8 => ?_) (fun h8 => ?_)
      · have he := ite_p h8 he
        exact J1 p2 he
      · have he := ite_n h8 he
        have hg := hg h8
        have k9 := hg
        refine bk_131_66 (cc_22 (d := d + 3) (by first | decide | (unfold isS; decide) | (unfold isS; omega)) k9) ?_
        refine bk_131_79 (cc_129 (d := d + 5) ) ?_
        refine bk_131_86 (fun h11 => ?_) (fun h11 => ?_)
        · have he := ite_p h11 he
          exact J1 p2 he
        · have he := ite_n h11 he
          refine bk_131_89 ?_
          exact J1 (p2 + 1) he
  exact loop _ 0 (Nat.zero_add _) _ rfl
/-- VectorShelf.rank(I)I -/
def v_131 (I : WI) (x1 : Int32) : Int32 × WI := (if ¬ (v_110 I x1) = 0 then (bx ((v_120 I) : Int32 × WI) (fun p1 => (if ¬ (v_111 p1.1 x1) = 0 then (bx ((lp_131_45 p1.2 x1 p1.1 (v_22 p1.2 1 x1) (0 : Int32) ((p1.2 1 8).toNatClampNeg)) : Int32) (fun p4 => (p4, p1.2))) else ((-1), p1.2)))) else ((-2), I))
def g_131 (I : WI) (x1 : Int32) : Prop := ((¬ (v_110 I x1) = 0) → ((g_120 I) ∧ (bx ((v_120 I) : Int32 × WI) (fun p1 => ((¬ (v_111 p1.1 x1) = 0) → ((g_22 p1.2 1 x1) ∧ (gl_131_45 p1.2 x1 p1.1 (v_22 p1.2 1 x1) (0 : Int32) ((p1.2 1 8).toNatClampNeg))))))))
theorem cc_131 {l : LX} {d : Nat} {I : WI} {F : WF} {L : WL} {t : Nat} {x1 : Int32} (hg : g_131 I x1) : Con l 131 (d + 6) 0 0 [.ref 0, .int x1] SH (I, F, L, RT t) (po_I_I F L t (v_131 I x1)) := by
  refine cn_131 ?_
  obtain ⟨T1, hT1⟩ : ∃ r : Int32 × WI, r = (v_131 I x1) := ⟨_, rfl⟩
  rw [← hT1]
  have he := (hT1.trans (v_131.eq_1 ..)).symm
  have hg := Eq.mp (g_131.eq_1 ..) hg
  refine bk_131_0 (cc_110 (d := d + 4) ) ?_
  refine bk_131_5 (fun h2 => ?_) (fun h2 => ?_)
  · have he := ite_p h2 he
    have hg := hg h2
    obtain ⟨k3, hg⟩ := hg
    refine bk_131_11 (cq_I_I (cc_120 (d := d + 0)  k3)) ?_
    rintro _ _ _ _ _ ⟨p1, hr, rfl, rfl, rfl, rfl, rfl⟩
    have he := bx_eq hr he
    have hg := bx_un hr hg
    refine bk_131_15 (cc_111 (d := d + 5) ) ?_
    refine bk_131_21 (fun h5 => ?_) (fun h5 => ?_)
    · have he := ite_p h5 he
      have hg := hg h5
      obtain ⟨k6, hg⟩ := hg
      refine bk_131_26 (cc_22 (d := d + 3) (by first | decide | (unfold isS; decide) | (unfold isS; omega)) k6) ?_
      refine bk_131_38 ?_
      have hgX := hg
      refine lw_131_45 (d := d)  hgX (fun p4 hr => ?_)
      have he := bx_eq hr he
      exact bk_131_98 (rl_I_I he)
    · have he := ite_n h5 he
      exact bk_131_24 (rl_I_I he)
  · have he := ite_n h2 he
    exact bk_131_8 (rl_I_I he)
/-- VectorShelf.partOfTwo(IZ)I -/
def v_134 (I : WI) (x1 : Int32) (x2 : Int32) : Int32 := (if ¬ (v_3 I 1 x2) = (-1) then (if ¬ x1 = 2 then (if ¬ x1 = 0 then ((v_3 I 1 x2) - (v_3 I 1 x2) / 12 * 12) else ((v_3 I 1 x2) / 12)) else (v_4 I 1 ((v_3 I 1 x2) / 12) ((v_3 I 1 x2) - (v_3 I 1 x2) / 12 * 12) x2)) else (-1))
def g_134 (I : WI) (x1 : Int32) (x2 : Int32) : Prop := ((g_3 I 1 x2) ∧ ((¬ (v_3 I 1 x2) = (-1)) → (¬ (¬ x1 = 2) → (g_4 I 1 ((v_3 I 1 x2) / 12) ((v_3 I 1 x2) - (v_3 I 1 x2) / 12 * 12) x2))))
theorem cc_134 {l : LX} {d : Nat} {I : WI} {F : WF} {L : WL} {t : Nat} {x1 : Int32} {x2 : Int32} (hg : g_134 I x1 x2) : Con l 134 (d + 5) 0 0 [.ref 0, .int x1, .int x2] SH (I, F, L, RT t) (rI (v_134 I x1 x2) (I, F, L, RT t)) := by
  refine cn_134 ?_
  obtain ⟨T1, hT1⟩ : ∃ r : Int32, r = (v_134 I x1 x2) := ⟨_, rfl⟩
  rw [← hT1]
  have he := (hT1.trans (v_134.eq_1 ..)).symm
  have hg := Eq.mp (g_134.eq_1 ..) hg
  obtain ⟨k1, hg⟩ := hg
  refine bk_134_0 (cc_3 (d := d + 0) (by first | decide | (unfold isS; decide) | (unfold isS; omega)) k1) ?_
  refine bk_134_12 (fun h2 => ?_) (fun h2 => ?_)
  · have he := ite_p h2 he
    have hg := hg h2
    refine bk_134_20 (fun h3 => ?_) (fun h3 => ?_)
    · have he := ite_p h3 he
      refine bk_134_54 (fun h4 => ?_) (fun h4 => ?_)
      · have he := ite_p h4 he
        refine bk_134_63 ?_
        exact bk_134_65 (rl_p_I he)
      · have he := ite_n h4 he
        refine bk_134_58 ?_
        exact bk_134_65 (rl_p_I he)
    · have he := ite_n h3 he
      have hg := hg h3
      have k5 := hg
      refine bk_134_37 (cc_4 (d := d + 1) (by first | decide | (unfold isS; decide) | (unfold isS; omega)) k5) ?_
      exact bk_134_53 (rl_p_I he)
  · have he := ite_n h2 he
    exact bk_134_18 (rl_p_I he)
/-- VectorShelf.two(I)I -/
def v_135 (I : WI) (x1 : Int32) : Int32 := (if (v_107 x1 (0 : Int32) (2 : Int32)) = 0 then (-2) else (v_134 I x1 (1 : Int32)))
def g_135 (I : WI) (x1 : Int32) : Prop := (¬ ((v_107 x1 (0 : Int32) (2 : Int32)) = 0) → (g_134 I x1 (1 : Int32)))
theorem cc_135 {l : LX} {d : Nat} {I : WI} {F : WF} {L : WL} {t : Nat} {x1 : Int32} (hg : g_135 I x1) : Con l 135 (d + 6) 0 0 [.ref 0, .int x1] SH (I, F, L, RT t) (rI (v_135 I x1) (I, F, L, RT t)) := by
  refine cn_135 ?_
  obtain ⟨T1, hT1⟩ : ∃ r : Int32, r = (v_135 I x1) := ⟨_, rfl⟩
  rw [← hT1]
  have he := (hT1.trans (v_135.eq_1 ..)).symm
  have hg := Eq.mp (g_135.eq_1 ..) hg
  refine bk_135_0 (cc_107 (d := d + 5) ) ?_
  refine bk_135_6 (fun h2 => ?_) (fun h2 => ?_)
  · have he := ite_p h2 he
    refine bk_135_18 ?_
    exact bk_135_20 (rl_p_I he)
  · have he := ite_n h2 he
    have hg := hg h2
    have k3 := hg
    refine bk_135_9 (cc_134 (d := d + 0)  k3) ?_
    refine bk_135_15 ?_
    exact bk_135_20 (rl_p_I he)
/-- VectorShelf.cover(II)I -/
def v_137 (I : WI) (x1 : Int32) (x2 : Int32) : Int32 × WI := (if (v_107 x1 (0 : Int32) (999999999 : Int32)) = 0 then ((-2), I) else (if ¬ (v_107 x2 (0 : Int32) (1 : Int32)) = 0 then (bx ((v_8 I 1 x1) : Int32 × WI) (fun p1 => (if x2 = 1 then (p1.1, p1.2) else (if ¬ p1.1 = (-1) then ((v_286 p1.1), p1.2) else (p1.1, p1.2))))) else ((-2), I)))
def g_137 (I : WI) (x1 : Int32) (x2 : Int32) : Prop := (¬ ((v_107 x1 (0 : Int32) (999999999 : Int32)) = 0) → ((¬ (v_107 x2 (0 : Int32) (1 : Int32)) = 0) → (g_8 I 1 x1)))
theorem cc_137 {l : LX} {d : Nat} {I : WI} {F : WF} {L : WL} {t : Nat} {x1 : Int32} {x2 : Int32} (hg : g_137 I x1 x2) : Con l 137 (d + 5) 0 0 [.ref 0, .int x1, .int x2] SH (I, F, L, RT t) (po_I_I F L t (v_137 I x1 x2)) := by
  refine cn_137 ?_
  obtain ⟨T1, hT1⟩ : ∃ r : Int32 × WI, r = (v_137 I x1 x2) := ⟨_, rfl⟩
  rw [← hT1]
  have he := (hT1.trans (v_137.eq_1 ..)).symm
  have hg := Eq.mp (g_137.eq_1 ..) hg
  refine bk_137_0 (cc_107 (d := d + 4) ) ?_
  refine bk_137_7 (fun h2 => ?_) (fun h2 => ?_)
  · have he := ite_p h2 he
    exact bk_137_19 (rl_I_I he)
  · have he := ite_n h2 he
    have hg := hg h2
    refine bk_137_10 (cc_107 (d := d + 4) ) ?_
    refine bk_137_16 (fun h4 => ?_) (fun h4 => ?_)
    · have he := ite_p h4 he
      have hg := hg h4
      have k5 := hg
      refine bk_137_22 (cq_I_I (cc_8 (d := d + 0) (by first | decide | (unfold isS; decide) | (unfold isS; omega)) k5)) ?_
      rintro _ _ _ _ _ ⟨p1, hr, rfl, rfl, rfl, rfl, rfl⟩
      have he := bx_eq hr he
      refine bk_137_34 (fun h6 => ?_) (fun h6 => ?_)
      · have he := ite_p h6 he
        refine bk_137_45 ?_
        exact bk_137_53 (rl_I_I he)
      · have he := ite_n h6 he
        refine bk_137_40 (fun h7 => ?_) (fun h7 => ?_)
        · have he := ite_p h7 he
          refine bk_137_49 (cc_286 (d := d + 4) ) ?_
          exact bk_137_53 (rl_I_I he)
        · have he := ite_n h7 he
          refine bk_137_45 ?_
          exact bk_137_53 (rl_I_I he)
    · have he := ite_n h4 he
      exact bk_137_19 (rl_I_I he)
end
