section
abbrev T4 : Type := (Nat → Nat → Int32) × (Nat → Nat → UInt32) × (Nat → Nat → Int64) × Nat
def bnd {α β : Type} (r : α × T4) (f : α → (Nat → Nat → Int32) → (Nat → Nat → UInt32) → (Nat → Nat → Int64) → Nat → β) : β := f r.1 r.2.1 r.2.2.1 r.2.2.2.1 r.2.2.2.2
def bndV {β : Type} (r : T4) (f : (Nat → Nat → Int32) → (Nat → Nat → UInt32) → (Nat → Nat → Int64) → Nat → β) : β := f r.1 r.2.1 r.2.2.1 r.2.2.2
def w4 (r : T4) : Wd := (r.1, r.2.1, r.2.2.1, RT r.2.2.2)
def rT (r : Int32 × T4) : RP := fun v s1 w1 => v = some (.int r.1) ∧ s1 = SH ∧ w1 = w4 r.2
def rTL (r : Int64 × T4) : RP := fun v s1 w1 => v = some (.long r.1) ∧ s1 = SH ∧ w1 = w4 r.2
def rTV (r : T4) : RP := fun v s1 w1 => v = none ∧ s1 = SH ∧ w1 = w4 r
theorem Con_Q {l : LX} {k d : Nat} {as : List Value} {w : Wd} {r : Int32 × T4} (h : Con l k d 0 0 as SH w (rT r)) : Con l k d 0 0 as SH w (rIQ (fun z I1 F1 L1 t1 => (z, I1, F1, L1, t1) = r)) :=
  Con_mono (fun v s1 w1 h => ⟨r.1, r.2.1, r.2.2.1, r.2.2.2.1, r.2.2.2.2, h.1, h.2.1, h.2.2, rfl⟩) h
theorem Con_QL {l : LX} {k d : Nat} {as : List Value} {w : Wd} {r : Int64 × T4} (h : Con l k d 0 0 as SH w (rTL r)) : Con l k d 0 0 as SH w (rLQ (fun z I1 F1 L1 t1 => (z, I1, F1, L1, t1) = r)) :=
  Con_mono (fun v s1 w1 h => ⟨r.1, r.2.1, r.2.2.1, r.2.2.2.1, r.2.2.2.2, h.1, h.2.1, h.2.2, rfl⟩) h
theorem Con_QV {l : LX} {k d : Nat} {as : List Value} {w : Wd} {r : T4} (h : Con l k d 0 0 as SH w (rTV r)) : Con l k d 0 0 as SH w (rVQ (fun I1 F1 L1 t1 => (I1, F1, L1, t1) = r)) :=
  Con_mono (fun v s1 w1 h => ⟨r.1, r.2.1, r.2.2.1, r.2.2.2, h.1, h.2.1, h.2.2, rfl⟩) h
/-- VectorShelf$Judge.lift(I)V -/
def fn_14 (I : Nat → Nat → Int32) (F : Nat → Nat → UInt32) (L : Nat → Nat → Int64) (t : Nat) (x1 : Int32) : (Nat → Nat → Int32) × (Nat → Nat → UInt32) × (Nat → Nat → Int64) × Nat := (if 160 ≤ (I 35 1) then (I, F, L, t) else ((up2 (up2 I 36 (I 35 1).toNatClampNeg x1) 35 1 ((I 35 1) + 1)), F, L, t))
theorem ci_14 {l : LX} {d : Nat} {I : Nat → Nat → Int32} {F : Nat → Nat → UInt32} {L : Nat → Nat → Int64} {t : Nat} {x1 : Int32} (p1 : (¬ (160 ≤ (I 35 1))) → vp_in (I 35 1) 160) : Con l 14 (d + 0) 0 0 [.ref 35, .int x1] SH (I, F, L, RT t) (rTV (fn_14 I F L t x1)) := by
  refine cn_14 ?_
  unfold fn_14
  refine bk_14_0 (fun h0 => ?_) (fun h0 => ?_)
  · rw [if_pos h0]
    exact bk_14_32 ⟨rfl, rfl, rfl⟩
  · rw [if_neg h0]
    refine bk_14_12 (p1 h0) ?_
    exact bk_14_32 ⟨rfl, rfl, rfl⟩
/-- VectorShelf$Judge.named(ILVectorShelf$Shelf;I)I -/
def sp_15 (I : Nat → Nat → Int32) (x0 : Int32) (r1 : Nat) (x2 : Int32) : Int32 := (if x0 = (-5) then x2 else (if x0 = (-4) then (I (r1 + 8) x2.toNatClampNeg) else (if x0 = (-3) then (I (r1 + 7) ((3 * x2) + 2).toNatClampNeg) else (if x0 = (-2) then (I (r1 + 7) ((3 * x2) + 1).toNatClampNeg) else (if x0 = (-1) then (I (r1 + 7) (3 * x2).toNatClampNeg) else (I (r1 + 9) x2.toNatClampNeg))))))
theorem cs_15 {l : LX} {d : Nat} {I : Nat → Nat → Int32} {F : Nat → Nat → UInt32} {L : Nat → Nat → Int64} {t : Nat} {x0 : Int32} {r1 : Nat} {x2 : Int32} (hr1 : isS r1) (p1 : (x0 = (-4)) → vp_in x2 12) (p2 : (x0 = (-3)) → vp_in ((3 * x2) + 2) 36) (p3 : (x0 = (-2)) → vp_in ((3 * x2) + 1) 36) (p4 : (x0 = (-1)) → vp_in (3 * x2) 36) (p5 : (¬ x0 = (-5)) → (¬ x0 = (-4)) → (¬ x0 = (-3)) → (¬ x0 = (-2)) → (¬ x0 = (-1)) → vp_in x2 12) : Con l 15 (d + 0) 0 0 [.int x0, .ref r1, .int x2] SH (I, F, L, RT t) (rI (sp_15 I x0 r1 x2) (I, F, L, RT t)) := by
  refine cn_15 ?_
  unfold sp_15
  refine bk_15_0 (fun h0 => ?_) (fun h0 => ?_) (fun h0 => ?_) (fun h0 => ?_) (fun h0 => ?_) (fun h0x0 h0x1 h0x2 h0x3 h0x4 => ?_)
  · rw [if_pos h0]
    exact bk_15_74 ⟨rfl, rfl, rfl⟩
  · rw [if_neg (show ¬ x0 = (-5) from fun e => absurd (h0.symm.trans e) (by decide))]
    rw [if_pos h0]
    exact bk_15_67 hr1 (p1 h0) ⟨rfl, rfl, rfl⟩
  · rw [if_neg (show ¬ x0 = (-5) from fun e => absurd (h0.symm.trans e) (by decide))]
    rw [if_neg (show ¬ x0 = (-4) from fun e => absurd (h0.symm.trans e) (by decide))]
    rw [if_pos h0]
    exact bk_15_56 hr1 (p2 h0) ⟨rfl, rfl, rfl⟩
  · rw [if_neg (show ¬ x0 = (-5) from fun e => absurd (h0.symm.trans e) (by decide))]
    rw [if_neg (show ¬ x0 = (-4) from fun e => absurd (h0.symm.trans e) (by decide))]
    rw [if_neg (show ¬ x0 = (-3) from fun e => absurd (h0.symm.trans e) (by decide))]
    rw [if_pos h0]
    exact bk_15_45 hr1 (p3 h0) ⟨rfl, rfl, rfl⟩
  · rw [if_neg (show ¬ x0 = (-5) from fun e => absurd (h0.symm.trans e) (by decide))]
    rw [if_neg (show ¬ x0 = (-4) from fun e => absurd (h0.symm.trans e) (by decide))]
    rw [if_neg (show ¬ x0 = (-3) from fun e => absurd (h0.symm.trans e) (by decide))]
    rw [if_neg (show ¬ x0 = (-2) from fun e => absurd (h0.symm.trans e) (by decide))]
    rw [if_pos h0]
    exact bk_15_36 hr1 (p4 h0) ⟨rfl, rfl, rfl⟩
  · rw [if_neg h0x0]
    rw [if_neg h0x1]
    rw [if_neg h0x2]
    rw [if_neg h0x3]
    rw [if_neg h0x4]
    exact bk_15_76 hr1 (p5 h0x0 h0x1 h0x2 h0x3 h0x4) ⟨rfl, rfl, rfl⟩
/-- VectorShelf$Judge.truth(Z)I -/
def sp_17 (x0 : Int32) : Int32 := (if x0 = 0 then 0 else 1)
theorem cs_17 {l : LX} {d : Nat} {I : Nat → Nat → Int32} {F : Nat → Nat → UInt32} {L : Nat → Nat → Int64} {t : Nat} {x0 : Int32} : Con l 17 (d + 0) 0 0 [.int x0] SH (I, F, L, RT t) (rI (sp_17 x0) (I, F, L, RT t)) := by
  refine cn_17 ?_
  unfold sp_17
  refine bk_17_0 (fun h0 => ?_) (fun h0 => ?_)
  · rw [if_pos h0]
    refine bk_17_8 ?_
    exact bk_17_9 ⟨rfl, rfl, rfl⟩
  · rw [if_neg h0]
    refine bk_17_4 ?_
    exact bk_17_9 ⟨rfl, rfl, rfl⟩
/-- VectorShelf$Judge.joined(III)I -/
def sp_19 (x0 : Int32) (x1 : Int32) (x2 : Int32) : Int32 := (if x0 = (-14) then (if x1 = 0 then (sp_17 (0 : Int32)) else (if x2 = 0 then (sp_17 (0 : Int32)) else (sp_17 (1 : Int32)))) else (if x0 = (-13) then (if ¬ x1 = x2 then (sp_17 (0 : Int32)) else (sp_17 (1 : Int32))) else (if x0 = (-12) then (if x2 ≤ x1 then (sp_17 (0 : Int32)) else (sp_17 (1 : Int32))) else (if x0 = (-11) then (x1 * x2) else (if x0 = (-10) then (x1 - x2) else (if x0 = (-9) then (x1 + x2) else (if ¬ x1 = 0 then (sp_17 (1 : Int32)) else (if x2 = 0 then (sp_17 (0 : Int32)) else (sp_17 (1 : Int32))))))))))
theorem cs_19 {l : LX} {d : Nat} {I : Nat → Nat → Int32} {F : Nat → Nat → UInt32} {L : Nat → Nat → Int64} {t : Nat} {x0 : Int32} {x1 : Int32} {x2 : Int32} : Con l 19 (d + 1) 0 0 [.int x0, .int x1, .int x2] SH (I, F, L, RT t) (rI (sp_19 x0 x1 x2) (I, F, L, RT t)) := by
  refine cn_19 ?_
  unfold sp_19
  refine bk_19_0 (fun h0 => ?_) (fun h0 => ?_) (fun h0 => ?_) (fun h0 => ?_) (fun h0 => ?_) (fun h0 => ?_) (fun h0x0 h0x1 h0x2 h0x3 h0x4 h0x5 => ?_)
  · rw [if_pos h0]
    refine bk_19_80 (fun h1 => ?_) (fun h1 => ?_)
    · rw [if_pos h1]
      refine bk_19_92 ?_
      refine bk_19_93 (cs_17 (d := d + 0) ) ?_
      exact bk_19_96 ⟨rfl, rfl, rfl⟩
    · rw [if_neg h1]
      refine bk_19_84 (fun h2 => ?_) (fun h2 => ?_)
      · rw [if_pos h2]
        refine bk_19_92 ?_
        refine bk_19_93 (cs_17 (d := d + 0) ) ?_
        exact bk_19_96 ⟨rfl, rfl, rfl⟩
      · rw [if_neg h2]
        refine bk_19_88 ?_
        refine bk_19_93 (cs_17 (d := d + 0) ) ?_
        exact bk_19_96 ⟨rfl, rfl, rfl⟩
  · rw [if_neg (show ¬ x0 = (-14) from fun e => absurd (h0.symm.trans e) (by decide))]
    rw [if_pos h0]
    refine bk_19_66 (fun h1 => ?_) (fun h1 => ?_)
    · rw [if_pos h1]
      refine bk_19_75 ?_
      refine bk_19_76 (cs_17 (d := d + 0) ) ?_
      exact bk_19_79 ⟨rfl, rfl, rfl⟩
    · rw [if_neg h1]
      refine bk_19_71 ?_
      refine bk_19_76 (cs_17 (d := d + 0) ) ?_
      exact bk_19_79 ⟨rfl, rfl, rfl⟩
  · rw [if_neg (show ¬ x0 = (-14) from fun e => absurd (h0.symm.trans e) (by decide))]
    rw [if_neg (show ¬ x0 = (-13) from fun e => absurd (h0.symm.trans e) (by decide))]
    rw [if_pos h0]
    refine bk_19_52 (fun h1 => ?_) (fun h1 => ?_)
    · rw [if_pos h1]
      refine bk_19_61 ?_
      refine bk_19_62 (cs_17 (d := d + 0) ) ?_
      exact bk_19_65 ⟨rfl, rfl, rfl⟩
    · rw [if_neg h1]
      refine bk_19_57 ?_
      refine bk_19_62 (cs_17 (d := d + 0) ) ?_
      exact bk_19_65 ⟨rfl, rfl, rfl⟩
  · rw [if_neg (show ¬ x0 = (-14) from fun e => absurd (h0.symm.trans e) (by decide))]
    rw [if_neg (show ¬ x0 = (-13) from fun e => absurd (h0.symm.trans e) (by decide))]
    rw [if_neg (show ¬ x0 = (-12) from fun e => absurd (h0.symm.trans e) (by decide))]
    rw [if_pos h0]
    exact bk_19_48 ⟨rfl, rfl, rfl⟩
  · rw [if_neg (show ¬ x0 = (-14) from fun e => absurd (h0.symm.trans e) (by decide))]
    rw [if_neg (show ¬ x0 = (-13) from fun e => absurd (h0.symm.trans e) (by decide))]
    rw [if_neg (show ¬ x0 = (-12) from fun e => absurd (h0.symm.trans e) (by decide))]
    rw [if_neg (show ¬ x0 = (-11) from fun e => absurd (h0.symm.trans e) (by decide))]
    rw [if_pos h0]
    exact bk_19_44 ⟨rfl, rfl, rfl⟩
  · rw [if_neg (show ¬ x0 = (-14) from fun e => absurd (h0.symm.trans e) (by decide))]
    rw [if_neg (show ¬ x0 = (-13) from fun e => absurd (h0.symm.trans e) (by decide))]
    rw [if_neg (show ¬ x0 = (-12) from fun e => absurd (h0.symm.trans e) (by decide))]
    rw [if_neg (show ¬ x0 = (-11) from fun e => absurd (h0.symm.trans e) (by decide))]
    rw [if_neg (show ¬ x0 = (-10) from fun e => absurd (h0.symm.trans e) (by decide))]
    rw [if_pos h0]
    exact bk_19_40 ⟨rfl, rfl, rfl⟩
  · rw [if_neg h0x0]
    rw [if_neg h0x1]
    rw [if_neg h0x2]
    rw [if_neg h0x3]
    rw [if_neg h0x4]
    rw [if_neg h0x5]
    refine bk_19_97 (fun h6 => ?_) (fun h6 => ?_)
    · rw [if_pos h6]
      refine bk_19_105 ?_
      refine bk_19_110 (cs_17 (d := d + 0) ) ?_
      exact bk_19_113 ⟨rfl, rfl, rfl⟩
    · rw [if_neg h6]
      refine bk_19_101 (fun h7 => ?_) (fun h7 => ?_)
      · rw [if_pos h7]
        refine bk_19_109 ?_
        refine bk_19_110 (cs_17 (d := d + 0) ) ?_
        exact bk_19_113 ⟨rfl, rfl, rfl⟩
      · rw [if_neg h7]
        refine bk_19_105 ?_
        refine bk_19_110 (cs_17 (d := d + 0) ) ?_
        exact bk_19_113 ⟨rfl, rfl, rfl⟩
/-- VectorShelf$Judge.fitBits(LVectorShelf$Shelf;)I -/
def sp_21 (I : Nat → Nat → Int32) (r1 : Nat) : Int32 := ((I 35 2) &&& (I r1 12))
theorem cs_21 {l : LX} {d : Nat} {I : Nat → Nat → Int32} {F : Nat → Nat → UInt32} {L : Nat → Nat → Int64} {t : Nat} {r1 : Nat} (hr1 : isS r1) : Con l 21 (d + 0) 0 0 [.ref 35, .ref r1] SH (I, F, L, RT t) (rI (sp_21 I r1) (I, F, L, RT t)) := by
  refine cn_21 ?_
  unfold sp_21
  exact bk_21_0 hr1 ⟨rfl, rfl, rfl⟩
/-- VectorShelf$Measure.floatTerm(II)F -/
def sp_26 (I : Nat → Nat → Int32) (b : Nat) (x1 : Int32) (x2 : Int32) : UInt32 := (if (I b 0) = 0 then (FP.fmul (FP.i2f x2) (FP.i2f x2)) else (if (I b 0) = 1 then (FP.fmul (FP.fmul (FP.i2f x2) (FP.i2f x2)) (FP.i2f (I (b + 1) x1.toNatClampNeg))) else (if (I b 0) = 2 then (FP.i2f x2) else (if (I b 0) = 3 then (if x2 ≤ (I b 1) then (FP.fmul (FP.fmul FP.fconst0 FP.fconst0) (FP.i2f (I (b + 1) x1.toNatClampNeg))) else (FP.fmul (FP.fmul (FP.i2f (x2 - (I b 1))) (FP.i2f (x2 - (I b 1)))) (FP.i2f (I (b + 1) x1.toNatClampNeg)))) else (if (I b 0) = 4 then (FP.i2f x2) else (if x2 ≤ (I b 1) then (FP.fmul (FP.fmul FP.fconst0 FP.fconst0) (FP.i2f (I (b + 1) x1.toNatClampNeg))) else (FP.fmul (FP.fmul (FP.i2f (x2 - (I b 1))) (FP.i2f (x2 - (I b 1)))) (FP.i2f (I (b + 1) x1.toNatClampNeg)))))))))
theorem cs_26 {l : LX} {d : Nat} {I : Nat → Nat → Int32} {F : Nat → Nat → UInt32} {L : Nat → Nat → Int64} {t : Nat} {b : Nat} {x1 : Int32} {x2 : Int32} (hb : isM b) (p1 : vp_in x1 3) (p2 : ((I b 0) = 0) → vf_n32 (FP.fmul (FP.i2f x2) (FP.i2f x2))) (p3 : ((I b 0) = 1) → vf_n32 (FP.fmul (FP.i2f x2) (FP.i2f x2))) (p4 : ((I b 0) = 1) → vf_n32 (FP.fmul (FP.fmul (FP.i2f x2) (FP.i2f x2)) (FP.i2f (I (b + 1) x1.toNatClampNeg)))) (p5 : ((I b 0) = 3) → (x2 ≤ (I b 1)) → vf_n32 (FP.fmul FP.fconst0 FP.fconst0)) (p6 : ((I b 0) = 3) → (x2 ≤ (I b 1)) → vf_n32 (FP.fmul (FP.fmul FP.fconst0 FP.fconst0) (FP.i2f (I (b + 1) x1.toNatClampNeg)))) (p7 : ((I b 0) = 3) → (¬ (x2 ≤ (I b 1))) → vf_n32 (FP.fmul (FP.i2f (x2 - (I b 1))) (FP.i2f (x2 - (I b 1))))) (p8 : ((I b 0) = 3) → (¬ (x2 ≤ (I b 1))) → vf_n32 (FP.fmul (FP.fmul (FP.i2f (x2 - (I b 1))) (FP.i2f (x2 - (I b 1)))) (FP.i2f (I (b + 1) x1.toNatClampNeg)))) (p9 : (¬ (I b 0) = 0) → (¬ (I b 0) = 1) → (¬ (I b 0) = 2) → (¬ (I b 0) = 3) → (¬ (I b 0) = 4) → (x2 ≤ (I b 1)) → vf_n32 (FP.fmul FP.fconst0 FP.fconst0)) (p10 : (¬ (I b 0) = 0) → (¬ (I b 0) = 1) → (¬ (I b 0) = 2) → (¬ (I b 0) = 3) → (¬ (I b 0) = 4) → (x2 ≤ (I b 1)) → vf_n32 (FP.fmul (FP.fmul FP.fconst0 FP.fconst0) (FP.i2f (I (b + 1) x1.toNatClampNeg)))) (p11 : (¬ (I b 0) = 0) → (¬ (I b 0) = 1) → (¬ (I b 0) = 2) → (¬ (I b 0) = 3) → (¬ (I b 0) = 4) → (¬ (x2 ≤ (I b 1))) → vf_n32 (FP.fmul (FP.i2f (x2 - (I b 1))) (FP.i2f (x2 - (I b 1))))) (p12 : (¬ (I b 0) = 0) → (¬ (I b 0) = 1) → (¬ (I b 0) = 2) → (¬ (I b 0) = 3) → (¬ (I b 0) = 4) → (¬ (x2 ≤ (I b 1))) → vf_n32 (FP.fmul (FP.fmul (FP.i2f (x2 - (I b 1))) (FP.i2f (x2 - (I b 1)))) (FP.i2f (I (b + 1) x1.toNatClampNeg)))) : Con l 26 (d + 0) 0 0 [.ref b, .int x1, .int x2] SH (I, F, L, RT t) (rF (sp_26 I b x1 x2) (I, F, L, RT t)) := by
  refine cn_26 ?_
  unfold sp_26
  refine bk_26_0 hb p1 (fun h0 => ?_) (fun h0 => ?_) (fun h0 => ?_) (fun h0 => ?_) (fun h0 => ?_) (fun h0x0 h0x1 h0x2 h0x3 h0x4 => ?_)
  · rw [if_pos h0]
    exact bk_26_52 (p2 h0) ⟨rfl, rfl, rfl⟩
  · rw [if_neg (show ¬ (I b 0) = 0 from fun e => absurd (h0.symm.trans e) (by decide))]
    rw [if_pos h0]
    exact bk_26_56 (p3 h0) (p4 h0) ⟨rfl, rfl, rfl⟩
  · rw [if_neg (show ¬ (I b 0) = 0 from fun e => absurd (h0.symm.trans e) (by decide))]
    rw [if_neg (show ¬ (I b 0) = 1 from fun e => absurd (h0.symm.trans e) (by decide))]
    rw [if_pos h0]
    exact bk_26_63 ⟨rfl, rfl, rfl⟩
  · rw [if_neg (show ¬ (I b 0) = 0 from fun e => absurd (h0.symm.trans e) (by decide))]
    rw [if_neg (show ¬ (I b 0) = 1 from fun e => absurd (h0.symm.trans e) (by decide))]
    rw [if_neg (show ¬ (I b 0) = 2 from fun e => absurd (h0.symm.trans e) (by decide))]
    rw [if_pos h0]
    refine bk_26_65 hb (fun h1 => ?_) (fun h1 => ?_)
    · rw [if_pos h1]
      refine bk_26_83 ?_
      exact bk_26_84 (p5 h0 h1) (p6 h0 h1) ⟨rfl, rfl, rfl⟩
    · rw [if_neg h1]
      refine bk_26_73 hb ?_
      exact bk_26_84 (p7 h0 h1) (p8 h0 h1) ⟨rfl, rfl, rfl⟩
  · rw [if_neg (show ¬ (I b 0) = 0 from fun e => absurd (h0.symm.trans e) (by decide))]
    rw [if_neg (show ¬ (I b 0) = 1 from fun e => absurd (h0.symm.trans e) (by decide))]
    rw [if_neg (show ¬ (I b 0) = 2 from fun e => absurd (h0.symm.trans e) (by decide))]
    rw [if_neg (show ¬ (I b 0) = 3 from fun e => absurd (h0.symm.trans e) (by decide))]
    rw [if_pos h0]
    exact bk_26_63 ⟨rfl, rfl, rfl⟩
  · rw [if_neg h0x0]
    rw [if_neg h0x1]
    rw [if_neg h0x2]
    rw [if_neg h0x3]
    rw [if_neg h0x4]
    refine bk_26_65 hb (fun h5 => ?_) (fun h5 => ?_)
    · rw [if_pos h5]
      refine bk_26_83 ?_
      exact bk_26_84 (p9 h0x0 h0x1 h0x2 h0x3 h0x4 h5) (p10 h0x0 h0x1 h0x2 h0x3 h0x4 h5) ⟨rfl, rfl, rfl⟩
    · rw [if_neg h5]
      refine bk_26_73 hb ?_
      exact bk_26_84 (p11 h0x0 h0x1 h0x2 h0x3 h0x4 h5) (p12 h0x0 h0x1 h0x2 h0x3 h0x4 h5) ⟨rfl, rfl, rfl⟩
/-- VectorShelf$Measure.floatJoin(FF)F -/
def sp_27 (I : Nat → Nat → Int32) (b : Nat) (f1 : UInt32) (f2 : UInt32) : UInt32 := (if ¬ (I b 0) = 4 then (FP.fadd f1 f2) else (if (Op.cmpValue (FP.fcmp f1 f2) .l) < 0 then f2 else f1))
theorem cs_27 {l : LX} {d : Nat} {I : Nat → Nat → Int32} {F : Nat → Nat → UInt32} {L : Nat → Nat → Int64} {t : Nat} {b : Nat} {f1 : UInt32} {f2 : UInt32} (hb : isM b) (p1 : (¬ (I b 0) = 4) → vf_n32 (FP.fadd f1 f2)) : Con l 27 (d + 0) 0 0 [.ref b, .float f1, .float f2] SH (I, F, L, RT t) (rF (sp_27 I b f1 f2) (I, F, L, RT t)) := by
  refine cn_27 ?_
  unfold sp_27
  refine bk_27_0 hb (fun h0 => ?_) (fun h0 => ?_)
  · rw [if_pos h0]
    exact bk_27_20 (p1 h0) ⟨rfl, rfl, rfl⟩
  · rw [if_neg h0]
    refine bk_27_8 (fun h1 => ?_) (fun h1 => ?_)
    · rw [if_pos h1]
      refine bk_27_18 ?_
      exact bk_27_19 ⟨rfl, rfl, rfl⟩
    · rw [if_neg h1]
      refine bk_27_14 ?_
      exact bk_27_19 ⟨rfl, rfl, rfl⟩
/-- VectorShelf$Measure.floatWhole(F)F -/
def sp_28 (I : Nat → Nat → Int32) (b : Nat) (f1 : UInt32) : UInt32 := (if ¬ (I b 0) = 2 then (if ¬ (I b 0) = 4 then (if ¬ (I b 0) = 5 then f1 else (if (Op.cmpValue (FP.fcmp f1 (FP.i2f (I b 2))) .l) ≤ 0 then f1 else (FP.i2f (I b 2)))) else (FP.fadd (FP.fmul 1082130432 f1) FP.fconst1)) else (FP.fmul 1082130432 f1))
theorem cs_28 {l : LX} {d : Nat} {I : Nat → Nat → Int32} {F : Nat → Nat → UInt32} {L : Nat → Nat → Int64} {t : Nat} {b : Nat} {f1 : UInt32} (hb : isM b) (p1 : (¬ (I b 0) = 2) → (¬ (¬ (I b 0) = 4)) → vf_n32 (FP.fmul 1082130432 f1)) (p2 : (¬ (I b 0) = 2) → (¬ (¬ (I b 0) = 4)) → vf_n32 (FP.fadd (FP.fmul 1082130432 f1) FP.fconst1)) (p3 : (¬ (¬ (I b 0) = 2)) → vf_n32 (FP.fmul 1082130432 f1)) : Con l 28 (d + 0) 0 0 [.ref b, .float f1] SH (I, F, L, RT t) (rF (sp_28 I b f1) (I, F, L, RT t)) := by
  refine cn_28 ?_
  unfold sp_28
  refine bk_28_0 hb (fun h0 => ?_) (fun h0 => ?_)
  · rw [if_pos h0]
    refine bk_28_13 hb (fun h1 => ?_) (fun h1 => ?_)
    · rw [if_pos h1]
      refine bk_28_28 hb (fun h2 => ?_) (fun h2 => ?_)
      · rw [if_pos h2]
        refine bk_28_54 ?_
        exact bk_28_55 ⟨rfl, rfl, rfl⟩
      · rw [if_neg h2]
        refine bk_28_36 hb (fun h3 => ?_) (fun h3 => ?_)
        · rw [if_pos h3]
          refine bk_28_54 ?_
          exact bk_28_55 ⟨rfl, rfl, rfl⟩
        · rw [if_neg h3]
          refine bk_28_46 hb ?_
          exact bk_28_55 ⟨rfl, rfl, rfl⟩
    · rw [if_neg h1]
      exact bk_28_21 (p1 h0 h1) (p2 h0 h1) ⟨rfl, rfl, rfl⟩
  · rw [if_neg h0]
    exact bk_28_8 (p3 h0) ⟨rfl, rfl, rfl⟩
/-- VectorShelf$Measure.term(II)I -/
def sp_30 (I : Nat → Nat → Int32) (b : Nat) (x1 : Int32) (x2 : Int32) : Int32 := (if (I b 0) = 0 then (x2 * x2) else (if (I b 0) = 1 then ((x2 * x2) * (I (b + 1) x1.toNatClampNeg)) else (if (I b 0) = 2 then x2 else (if (I b 0) = 3 then (if x2 ≤ (I b 1) then ((0 * 0) * (I (b + 1) x1.toNatClampNeg)) else (((x2 - (I b 1)) * (x2 - (I b 1))) * (I (b + 1) x1.toNatClampNeg))) else (if (I b 0) = 4 then x2 else (if x2 ≤ (I b 1) then ((0 * 0) * (I (b + 1) x1.toNatClampNeg)) else (((x2 - (I b 1)) * (x2 - (I b 1))) * (I (b + 1) x1.toNatClampNeg))))))))
theorem cs_30 {l : LX} {d : Nat} {I : Nat → Nat → Int32} {F : Nat → Nat → UInt32} {L : Nat → Nat → Int64} {t : Nat} {b : Nat} {x1 : Int32} {x2 : Int32} (hb : isM b) (p1 : ((I b 0) = 1) → vp_in x1 3) (p2 : ((I b 0) = 3) → (x2 ≤ (I b 1)) → vp_in x1 3) (p3 : ((I b 0) = 3) → (¬ (x2 ≤ (I b 1))) → vp_in x1 3) (p4 : (¬ (I b 0) = 0) → (¬ (I b 0) = 1) → (¬ (I b 0) = 2) → (¬ (I b 0) = 3) → (¬ (I b 0) = 4) → (x2 ≤ (I b 1)) → vp_in x1 3) (p5 : (¬ (I b 0) = 0) → (¬ (I b 0) = 1) → (¬ (I b 0) = 2) → (¬ (I b 0) = 3) → (¬ (I b 0) = 4) → (¬ (x2 ≤ (I b 1))) → vp_in x1 3) : Con l 30 (d + 0) 0 0 [.ref b, .int x1, .int x2] SH (I, F, L, RT t) (rI (sp_30 I b x1 x2) (I, F, L, RT t)) := by
  refine cn_30 ?_
  unfold sp_30
  refine bk_30_0 hb (fun h0 => ?_) (fun h0 => ?_) (fun h0 => ?_) (fun h0 => ?_) (fun h0 => ?_) (fun h0x0 h0x1 h0x2 h0x3 h0x4 => ?_)
  · rw [if_pos h0]
    exact bk_30_40 ⟨rfl, rfl, rfl⟩
  · rw [if_neg (show ¬ (I b 0) = 0 from fun e => absurd (h0.symm.trans e) (by decide))]
    rw [if_pos h0]
    exact bk_30_44 hb (p1 h0) ⟨rfl, rfl, rfl⟩
  · rw [if_neg (show ¬ (I b 0) = 0 from fun e => absurd (h0.symm.trans e) (by decide))]
    rw [if_neg (show ¬ (I b 0) = 1 from fun e => absurd (h0.symm.trans e) (by decide))]
    rw [if_pos h0]
    exact bk_30_55 ⟨rfl, rfl, rfl⟩
  · rw [if_neg (show ¬ (I b 0) = 0 from fun e => absurd (h0.symm.trans e) (by decide))]
    rw [if_neg (show ¬ (I b 0) = 1 from fun e => absurd (h0.symm.trans e) (by decide))]
    rw [if_neg (show ¬ (I b 0) = 2 from fun e => absurd (h0.symm.trans e) (by decide))]
    rw [if_pos h0]
    refine bk_30_57 hb (fun h1 => ?_) (fun h1 => ?_)
    · rw [if_pos h1]
      refine bk_30_74 ?_
      exact bk_30_75 hb (p2 h0 h1) ⟨rfl, rfl, rfl⟩
    · rw [if_neg h1]
      refine bk_30_65 hb ?_
      exact bk_30_75 hb (p3 h0 h1) ⟨rfl, rfl, rfl⟩
  · rw [if_neg (show ¬ (I b 0) = 0 from fun e => absurd (h0.symm.trans e) (by decide))]
    rw [if_neg (show ¬ (I b 0) = 1 from fun e => absurd (h0.symm.trans e) (by decide))]
    rw [if_neg (show ¬ (I b 0) = 2 from fun e => absurd (h0.symm.trans e) (by decide))]
    rw [if_neg (show ¬ (I b 0) = 3 from fun e => absurd (h0.symm.trans e) (by decide))]
    rw [if_pos h0]
    exact bk_30_55 ⟨rfl, rfl, rfl⟩
  · rw [if_neg h0x0]
    rw [if_neg h0x1]
    rw [if_neg h0x2]
    rw [if_neg h0x3]
    rw [if_neg h0x4]
    refine bk_30_57 hb (fun h5 => ?_) (fun h5 => ?_)
    · rw [if_pos h5]
      refine bk_30_74 ?_
      exact bk_30_75 hb (p4 h0x0 h0x1 h0x2 h0x3 h0x4 h5) ⟨rfl, rfl, rfl⟩
    · rw [if_neg h5]
      refine bk_30_65 hb ?_
      exact bk_30_75 hb (p5 h0x0 h0x1 h0x2 h0x3 h0x4 h5) ⟨rfl, rfl, rfl⟩
/-- VectorShelf$Measure.highOf(I)F -/
def sp_31 (x0 : Int32) : UInt32 := (FP.fmul (FP.i2f x0) 1065353224)
theorem cs_31 {l : LX} {d : Nat} {I : Nat → Nat → Int32} {F : Nat → Nat → UInt32} {L : Nat → Nat → Int64} {t : Nat} {x0 : Int32} (p1 : vf_n32 (FP.fmul (FP.i2f x0) 1065353224)) : Con l 31 (d + 0) 0 0 [.int x0] SH (I, F, L, RT t) (rF (sp_31 x0) (I, F, L, RT t)) := by
  refine cn_31 ?_
  unfold sp_31
  exact bk_31_0 p1 ⟨rfl, rfl, rfl⟩
/-- VectorShelf$Measure.lay(LVectorShelf$Measure;)V -/
def fn_32 (I : Nat → Nat → Int32) (F : Nat → Nat → UInt32) (L : Nat → Nat → Int64) (t : Nat) (b : Nat) (r1 : Nat) : (Nat → Nat → Int32) × (Nat → Nat → UInt32) × (Nat → Nat → Int64) × Nat := ((upR (up2 (up2 (up2 I b 0 (I r1 0)) b 1 ((up2 I b 0 (I r1 0)) r1 1)) b 2 ((up2 (up2 I b 0 (I r1 0)) b 1 ((up2 I b 0 (I r1 0)) r1 1)) r1 2)) (b + 1) (va_cpy ((up2 (up2 (up2 I b 0 (I r1 0)) b 1 ((up2 I b 0 (I r1 0)) r1 1)) b 2 ((up2 (up2 I b 0 (I r1 0)) b 1 ((up2 I b 0 (I r1 0)) r1 1)) r1 2)) (r1 + 1)) ((up2 (up2 (up2 I b 0 (I r1 0)) b 1 ((up2 I b 0 (I r1 0)) r1 1)) b 2 ((up2 (up2 I b 0 (I r1 0)) b 1 ((up2 I b 0 (I r1 0)) r1 1)) r1 2)) (b + 1)) 0 0 3)), F, L, t)
theorem ci_32 {l : LX} {d : Nat} {I : Nat → Nat → Int32} {F : Nat → Nat → UInt32} {L : Nat → Nat → Int64} {t : Nat} {b : Nat} {r1 : Nat} (hb : isM b) (hr1 : isM r1) : Con l 32 (d + 1) 0 0 [.ref b, .ref r1] SH (I, F, L, RT t) (rTV (fn_32 I F L t b r1)) := by
  refine cn_32 ?_
  unfold fn_32
  refine bk_32_0 hb hr1 ?_
  exact bk_32_38 ⟨rfl, rfl, rfl⟩
/-- VectorShelf$Reading.isBeyond(FI)Z -/
def sp_38 (I : Nat → Nat → Int32) (f1 : UInt32) (x2 : Int32) : Int32 := (if (I 38 3) ≤ 0 then 0 else (if (I 38 3) < x2 then 0 else (if (Op.cmpValue (FP.fcmp f1 (sp_31 (I 41 ((I 38 3) - 1).toNatClampNeg))) .l) ≤ 0 then 0 else 1)))
theorem cs_38 {l : LX} {d : Nat} {I : Nat → Nat → Int32} {F : Nat → Nat → UInt32} {L : Nat → Nat → Int64} {t : Nat} {f1 : UInt32} {x2 : Int32} (p1 : (¬ ((I 38 3) ≤ 0)) → (¬ ((I 38 3) < x2)) → vp_in ((I 38 3) - 1) 6) (p2 : (¬ ((I 38 3) ≤ 0)) → (¬ ((I 38 3) < x2)) → (vf_n32 (FP.fmul (FP.i2f (I 41 ((I 38 3) - 1).toNatClampNeg)) 1065353224))) : Con l 38 (d + 1) 0 0 [.ref 38, .float f1, .int x2] SH (I, F, L, RT t) (rI (sp_38 I f1 x2) (I, F, L, RT t)) := by
  refine cn_38 ?_
  unfold sp_38
  refine bk_38_0 (fun h0 => ?_) (fun h0 => ?_)
  · rw [if_pos h0]
    refine bk_38_38 ?_
    exact bk_38_39 (by decide) ⟨rfl, rfl, rfl⟩
  · rw [if_neg h0]
    refine bk_38_7 (fun h1 => ?_) (fun h1 => ?_)
    · rw [if_pos h1]
      refine bk_38_38 ?_
      exact bk_38_39 (by decide) ⟨rfl, rfl, rfl⟩
    · rw [if_neg h1]
      refine bk_38_15 (p1 h0 h1) (cs_31 (d := d + 0) (p2 h0 h1)) ?_
      refine bk_38_30 (fun h2 => ?_) (fun h2 => ?_)
      · rw [if_pos h2]
        refine bk_38_38 ?_
        exact bk_38_39 (by decide) ⟨rfl, rfl, rfl⟩
      · rw [if_neg h2]
        refine bk_38_34 ?_
        exact bk_38_39 (by decide) ⟨rfl, rfl, rfl⟩
theorem sb_38 (I : Nat → Nat → Int32) (f1 : UInt32) (x2 : Int32) : (sp_38 I f1 x2) &&& 1 = (sp_38 I f1 x2) := by
  unfold sp_38
  repeat' split
  all_goals first | rfl
/-- VectorShelf$Reading.lastFar()I -/
def sp_41 (I : Nat → Nat → Int32) : Int32 := (if (I 38 3) ≤ 0 then (-1) else (I 41 ((I 38 3) - 1).toNatClampNeg))
theorem cs_41 {l : LX} {d : Nat} {I : Nat → Nat → Int32} {F : Nat → Nat → UInt32} {L : Nat → Nat → Int64} {t : Nat} (p1 : (¬ ((I 38 3) ≤ 0)) → vp_in ((I 38 3) - 1) 6) : Con l 41 (d + 0) 0 0 [.ref 38] SH (I, F, L, RT t) (rI (sp_41 I) (I, F, L, RT t)) := by
  refine cn_41 ?_
  unfold sp_41
  refine bk_41_0 (fun h0 => ?_) (fun h0 => ?_)
  · rw [if_pos h0]
    refine bk_41_21 ?_
    exact bk_41_22 ⟨rfl, rfl, rfl⟩
  · rw [if_neg h0]
    refine bk_41_7 (p1 h0) ?_
    exact bk_41_22 ⟨rfl, rfl, rfl⟩
/-- VectorShelf$Sheet.isMissing()Z -/
def sp_44 (I : Nat → Nat → Int32) (b : Nat) : Int32 := (if ¬ (I b 0) = (-1) then 0 else 1)
theorem cs_44 {l : LX} {d : Nat} {I : Nat → Nat → Int32} {F : Nat → Nat → UInt32} {L : Nat → Nat → Int64} {t : Nat} {b : Nat} (hb : isH b) : Con l 44 (d + 0) 0 0 [.ref b] SH (I, F, L, RT t) (rI (sp_44 I b) (I, F, L, RT t)) := by
  refine cn_44 ?_
  unfold sp_44
  refine bk_44_0 hb (fun h0 => ?_) (fun h0 => ?_)
  · rw [if_pos h0]
    refine bk_44_12 ?_
    exact bk_44_13 (by decide) ⟨rfl, rfl, rfl⟩
  · rw [if_neg h0]
    refine bk_44_8 ?_
    exact bk_44_13 (by decide) ⟨rfl, rfl, rfl⟩
theorem sb_44 (I : Nat → Nat → Int32) (b : Nat) : (sp_44 I b) &&& 1 = (sp_44 I b) := by
  unfold sp_44
  repeat' split
  all_goals first | rfl
/-- VectorShelf$Sheet.tellAt(I)I -/
def sp_45 (I : Nat → Nat → Int32) (F : Nat → Nat → UInt32) (b : Nat) (x1 : Int32) : Int32 := (if (I b 0) = 0 then (FP.f2i (FP.fmul 1082130432 (F (b + 1) x1.toNatClampNeg))) else (if (I b 0) = 1 then (I (b + 2) x1.toNatClampNeg) else (if (I b 0) = 2 then (I (b + 3) x1.toNatClampNeg) else 0)))
theorem cs_45 {l : LX} {d : Nat} {I : Nat → Nat → Int32} {F : Nat → Nat → UInt32} {L : Nat → Nat → Int64} {t : Nat} {b : Nat} {x1 : Int32} (hb : isH b) (p1 : ((I b 0) = 0) → vp_in x1 40) (p2 : ((I b 0) = 0) → vf_n32 (FP.fmul 1082130432 (F (b + 1) x1.toNatClampNeg))) (p3 : ((I b 0) = 1) → vp_in x1 40) (p4 : ((I b 0) = 2) → vp_in x1 40) : Con l 45 (d + 0) 0 0 [.ref b, .int x1] SH (I, F, L, RT t) (rI (sp_45 I F b x1) (I, F, L, RT t)) := by
  refine cn_45 ?_
  unfold sp_45
  refine bk_45_0 hb (fun h0 => ?_) (fun h0 => ?_) (fun h0 => ?_) (fun h0x0 h0x1 h0x2 => ?_)
  · rw [if_pos h0]
    exact bk_45_32 hb (p1 h0) (p2 h0) ⟨rfl, rfl, rfl⟩
  · rw [if_neg (show ¬ (I b 0) = 0 from fun e => absurd (h0.symm.trans e) (by decide))]
    rw [if_pos h0]
    exact bk_45_43 hb (p3 h0) ⟨rfl, rfl, rfl⟩
  · rw [if_neg (show ¬ (I b 0) = 0 from fun e => absurd (h0.symm.trans e) (by decide))]
    rw [if_neg (show ¬ (I b 0) = 1 from fun e => absurd (h0.symm.trans e) (by decide))]
    rw [if_pos h0]
    exact bk_45_50 hb (p4 h0) ⟨rfl, rfl, rfl⟩
  · rw [if_neg h0x0]
    rw [if_neg h0x1]
    rw [if_neg h0x2]
    exact bk_45_57 ⟨rfl, rfl, rfl⟩
/-- VectorShelf$Sheet.write(II)V -/
def fn_47 (I : Nat → Nat → Int32) (F : Nat → Nat → UInt32) (L : Nat → Nat → Int64) (t : Nat) (b : Nat) (x1 : Int32) (x2 : Int32) : (Nat → Nat → Int32) × (Nat → Nat → UInt32) × (Nat → Nat → Int64) × Nat := (if (I b 0) = 0 then (I, (up2 F (b + 1) x1.toNatClampNeg (FP.fmul (FP.i2f x2) 1048576000)), L, t) else (if (I b 0) = 1 then ((up2 I (b + 2) x1.toNatClampNeg (vp_nar (bT 1) (Int8.toInt32 (Int32.toInt8 x2)))), F, L, t) else (if (I b 0) = 2 then ((up2 I (b + 3) x1.toNatClampNeg (vp_nar .short (Int16.toInt32 (Int32.toInt16 x2)))), F, L, t) else (I, F, L, t))))
theorem ci_47 {l : LX} {d : Nat} {I : Nat → Nat → Int32} {F : Nat → Nat → UInt32} {L : Nat → Nat → Int64} {t : Nat} {b : Nat} {x1 : Int32} {x2 : Int32} (hb : isH b) (p1 : ((I b 0) = 0) → vf_n32 (FP.fmul (FP.i2f x2) 1048576000)) (p2 : ((I b 0) = 0) → vp_in x1 40) (p3 : ((I b 0) = 1) → vp_in x1 40) (p4 : ((I b 0) = 2) → vp_in x1 40) : Con l 47 (d + 0) 0 0 [.ref b, .int x1, .int x2] SH (I, F, L, RT t) (rTV (fn_47 I F L t b x1 x2)) := by
  refine cn_47 ?_
  unfold fn_47
  refine bk_47_0 hb (fun h0 => ?_) (fun h0 => ?_) (fun h0 => ?_) (fun h0x0 h0x1 h0x2 => ?_)
  · rw [if_pos h0]
    refine bk_47_32 hb (p1 h0) (p2 h0) ?_
    exact bk_47_68 ⟨rfl, rfl, rfl⟩
  · rw [if_neg (show ¬ (I b 0) = 0 from fun e => absurd (h0.symm.trans e) (by decide))]
    rw [if_pos h0]
    refine bk_47_46 hb (p3 h0) ?_
    exact bk_47_68 ⟨rfl, rfl, rfl⟩
  · rw [if_neg (show ¬ (I b 0) = 0 from fun e => absurd (h0.symm.trans e) (by decide))]
    rw [if_neg (show ¬ (I b 0) = 1 from fun e => absurd (h0.symm.trans e) (by decide))]
    rw [if_pos h0]
    refine bk_47_57 hb (p4 h0) ?_
    exact bk_47_68 ⟨rfl, rfl, rfl⟩
  · rw [if_neg h0x0]
    rw [if_neg h0x1]
    rw [if_neg h0x2]
    exact bk_47_68 ⟨rfl, rfl, rfl⟩
/-- VectorShelf$Sheet.hasRun(II)Z -/
def sp_48 (I : Nat → Nat → Int32) (b : Nat) (x1 : Int32) (x2 : Int32) : Int32 := (if x1 < 0 then 0 else (if x2 < 0 then 0 else (if (I b 1) < x1 then 0 else (if ((I b 1) - x1) < x2 then 0 else 1))))
theorem cs_48 {l : LX} {d : Nat} {I : Nat → Nat → Int32} {F : Nat → Nat → UInt32} {L : Nat → Nat → Int64} {t : Nat} {b : Nat} {x1 : Int32} {x2 : Int32} (hb : isH b) : Con l 48 (d + 0) 0 0 [.ref b, .int x1, .int x2] SH (I, F, L, RT t) (rI (sp_48 I b x1 x2) (I, F, L, RT t)) := by
  refine cn_48 ?_
  unfold sp_48
  refine bk_48_0 (fun h0 => ?_) (fun h0 => ?_)
  · rw [if_pos h0]
    refine bk_48_30 ?_
    exact bk_48_31 (by decide) ⟨rfl, rfl, rfl⟩
  · rw [if_neg h0]
    refine bk_48_4 (fun h1 => ?_) (fun h1 => ?_)
    · rw [if_pos h1]
      refine bk_48_30 ?_
      exact bk_48_31 (by decide) ⟨rfl, rfl, rfl⟩
    · rw [if_neg h1]
      refine bk_48_8 hb (fun h2 => ?_) (fun h2 => ?_)
      · rw [if_pos h2]
        refine bk_48_30 ?_
        exact bk_48_31 (by decide) ⟨rfl, rfl, rfl⟩
      · rw [if_neg h2]
        refine bk_48_16 hb (fun h3 => ?_) (fun h3 => ?_)
        · rw [if_pos h3]
          refine bk_48_30 ?_
          exact bk_48_31 (by decide) ⟨rfl, rfl, rfl⟩
        · rw [if_neg h3]
          refine bk_48_26 ?_
          exact bk_48_31 (by decide) ⟨rfl, rfl, rfl⟩
theorem sb_48 (I : Nat → Nat → Int32) (b : Nat) (x1 : Int32) (x2 : Int32) : (sp_48 I b x1 x2) &&& 1 = (sp_48 I b x1 x2) := by
  unfold sp_48
  repeat' split
  all_goals first | rfl
/-- VectorShelf$Sheet.wipe(I)V -/
def fn_49 (I : Nat → Nat → Int32) (F : Nat → Nat → UInt32) (L : Nat → Nat → Int64) (t : Nat) (b : Nat) (x1 : Int32) : (Nat → Nat → Int32) × (Nat → Nat → UInt32) × (Nat → Nat → Int64) × Nat := (I, (up2 F (b + 1) x1.toNatClampNeg FP.fconst0), L, t)
theorem ci_49 {l : LX} {d : Nat} {I : Nat → Nat → Int32} {F : Nat → Nat → UInt32} {L : Nat → Nat → Int64} {t : Nat} {b : Nat} {x1 : Int32} (hb : isH b) (p1 : vp_in x1 40) : Con l 49 (d + 0) 0 0 [.ref b, .int x1] SH (I, F, L, RT t) (rTV (fn_49 I F L t b x1)) := by
  refine cn_49 ?_
  unfold fn_49
  exact bk_49_0 hb p1 ⟨rfl, rfl, rfl⟩
/-- VectorShelf$Sheet.giveRun(ILVectorShelf$Sheet;II)V -/
def fn_50 (I : Nat → Nat → Int32) (F : Nat → Nat → UInt32) (L : Nat → Nat → Int64) (t : Nat) (b : Nat) (x1 : Int32) (r2 : Nat) (x3 : Int32) (x4 : Int32) : (Nat → Nat → Int32) × (Nat → Nat → UInt32) × (Nat → Nat → Int64) × Nat := (if (I b 0) = 0 then (I, (upR F (r2 + 1) (va_cpy (F (b + 1)) (F (r2 + 1)) x1.toNatClampNeg x3.toNatClampNeg x4.toNatClampNeg)), L, t) else (if (I b 0) = 1 then ((upR I (r2 + 2) (va_cpy (I (b + 2)) (I (r2 + 2)) x1.toNatClampNeg x3.toNatClampNeg x4.toNatClampNeg)), F, L, t) else (if (I b 0) = 2 then ((upR I (r2 + 3) (va_cpy (I (b + 3)) (I (r2 + 3)) x1.toNatClampNeg x3.toNatClampNeg x4.toNatClampNeg)), F, L, t) else (I, F, L, t))))
theorem ci_50 {l : LX} {d : Nat} {I : Nat → Nat → Int32} {F : Nat → Nat → UInt32} {L : Nat → Nat → Int64} {t : Nat} {b : Nat} {x1 : Int32} {r2 : Nat} {x3 : Int32} {x4 : Int32} (hb : isH b) (hr2 : isH r2) (p1 : ((I b 0) = 0) → ¬ x1 < 0) (p2 : ((I b 0) = 0) → ¬ x3 < 0) (p3 : ((I b 0) = 0) → ¬ x4 < 0) (p4 : ((I b 0) = 0) → x1.toNatClampNeg + x4.toNatClampNeg ≤ 40) (p5 : ((I b 0) = 0) → x3.toNatClampNeg + x4.toNatClampNeg ≤ 40) (p6 : ((I b 0) = 1) → ¬ x1 < 0) (p7 : ((I b 0) = 1) → ¬ x3 < 0) (p8 : ((I b 0) = 1) → ¬ x4 < 0) (p9 : ((I b 0) = 1) → x1.toNatClampNeg + x4.toNatClampNeg ≤ 40) (p10 : ((I b 0) = 1) → x3.toNatClampNeg + x4.toNatClampNeg ≤ 40) (p11 : ((I b 0) = 1) → ∀ i, i < x4.toNatClampNeg → fits .byte (.int (I (b + 2) (x1.toNatClampNeg + i))) = true) (p12 : ((I b 0) = 2) → ¬ x1 < 0) (p13 : ((I b 0) = 2) → ¬ x3 < 0) (p14 : ((I b 0) = 2) → ¬ x4 < 0) (p15 : ((I b 0) = 2) → x1.toNatClampNeg + x4.toNatClampNeg ≤ 40) (p16 : ((I b 0) = 2) → x3.toNatClampNeg + x4.toNatClampNeg ≤ 40) (p17 : ((I b 0) = 2) → ∀ i, i < x4.toNatClampNeg → fits .short (.int (I (b + 3) (x1.toNatClampNeg + i))) = true) : Con l 50 (d + 1) 0 0 [.ref b, .int x1, .ref r2, .int x3, .int x4] SH (I, F, L, RT t) (rTV (fn_50 I F L t b x1 r2 x3 x4)) := by
  refine cn_50 ?_
  unfold fn_50
  refine bk_50_0 hb (fun h0 => ?_) (fun h0 => ?_) (fun h0 => ?_) (fun h0x0 h0x1 h0x2 => ?_)
  · rw [if_pos h0]
    refine bk_50_32 hb hr2 (p1 h0) (p2 h0) (p3 h0) (p4 h0) (p5 h0) ?_
    refine bk_50_47 ?_
    exact bk_50_86 ⟨rfl, rfl, rfl⟩
  · rw [if_neg (show ¬ (I b 0) = 0 from fun e => absurd (h0.symm.trans e) (by decide))]
    rw [if_pos h0]
    refine bk_50_50 hb hr2 (p6 h0) (p7 h0) (p8 h0) (p9 h0) (p10 h0) ?_ (p11 h0)
    refine bk_50_65 ?_
    exact bk_50_86 ⟨rfl, rfl, rfl⟩
  · rw [if_neg (show ¬ (I b 0) = 0 from fun e => absurd (h0.symm.trans e) (by decide))]
    rw [if_neg (show ¬ (I b 0) = 1 from fun e => absurd (h0.symm.trans e) (by decide))]
    rw [if_pos h0]
    refine bk_50_68 hb hr2 (p12 h0) (p13 h0) (p14 h0) (p15 h0) (p16 h0) ?_ (p17 h0)
    refine bk_50_83 ?_
    exact bk_50_86 ⟨rfl, rfl, rfl⟩
  · rw [if_neg h0x0]
    rw [if_neg h0x1]
    rw [if_neg h0x2]
    exact bk_50_86 ⟨rfl, rfl, rfl⟩
/-- VectorShelf$Sheet.restBy250(I)I -/
def sp_51 (F : Nat → Nat → UInt32) (b : Nat) (x1 : Int32) : Int32 := (Int64.toInt32 ((FP.f2l (FP.fmul 1082130432 (F (b + 1) x1.toNatClampNeg))) - (FP.f2l (FP.fmul 1082130432 (F (b + 1) x1.toNatClampNeg))) / 1000 * 1000))
theorem cs_51 {l : LX} {d : Nat} {I : Nat → Nat → Int32} {F : Nat → Nat → UInt32} {L : Nat → Nat → Int64} {t : Nat} {b : Nat} {x1 : Int32} (hb : isH b) (p1 : vp_in x1 40) (p2 : vf_n32 (FP.fmul 1082130432 (F (b + 1) x1.toNatClampNeg))) (p3 : ¬ (1000 : Int64) = 0) : Con l 51 (d + 0) 0 0 [.ref b, .int x1] SH (I, F, L, RT t) (rI (sp_51 F b x1) (I, F, L, RT t)) := by
  refine cn_51 ?_
  unfold sp_51
  exact bk_51_0 hb p1 p2 p3 ⟨rfl, rfl, rfl⟩
/-- VectorShelf$Shelf.emptyBox(I)V -/
def fn_54 (I : Nat → Nat → Int32) (F : Nat → Nat → UInt32) (L : Nat → Nat → Int64) (t : Nat) (b : Nat) (x1 : Int32) : (Nat → Nat → Int32) × (Nat → Nat → UInt32) × (Nat → Nat → Int64) × Nat := ((up2 (up2 (up2 (up2 (up2 (up2 I (b + 5) ((3 * x1) + 0).toNatClampNeg 1000) (b + 6) ((3 * x1) + 0).toNatClampNeg (-1000)) (b + 5) ((3 * x1) + (0 + 1)).toNatClampNeg 1000) (b + 6) ((3 * x1) + (0 + 1)).toNatClampNeg (-1000)) (b + 5) ((3 * x1) + ((0 + 1) + 1)).toNatClampNeg 1000) (b + 6) ((3 * x1) + ((0 + 1) + 1)).toNatClampNeg (-1000)), F, L, t)
theorem ci_54 {l : LX} {d : Nat} {I : Nat → Nat → Int32} {F : Nat → Nat → UInt32} {L : Nat → Nat → Int64} {t : Nat} {b : Nat} {x1 : Int32} (hb : isS b) (p1 : vp_in ((3 * x1) + 0) 12) (p2 : vp_in ((3 * x1) + (0 + 1)) 12) (p3 : vp_in ((3 * x1) + ((0 + 1) + 1)) 12) : Con l 54 (d + 0) 0 0 [.ref b, .int x1] SH (I, F, L, RT t) (rTV (fn_54 I F L t b x1)) := by
  refine cn_54 ?_
  unfold fn_54
  refine bk_54_0 ?_
  refine bk_54_2 (fun h => absurd h (by decide)) (fun _ => ?_)
  refine bk_54_7 hb p1 ?_
  refine bk_54_2 (fun h => absurd h (by decide)) (fun _ => ?_)
  refine bk_54_7 hb p2 ?_
  refine bk_54_2 (fun h => absurd h (by decide)) (fun _ => ?_)
  refine bk_54_7 hb p3 ?_
  refine bk_54_2 (fun _ => ?_) (fun h => absurd (by decide) h)
  exact bk_54_39 ⟨rfl, rfl, rfl⟩
/-- VectorShelf$Shelf.mark(IZ)V -/
def fn_56 (I : Nat → Nat → Int32) (F : Nat → Nat → UInt32) (L : Nat → Nat → Int64) (t : Nat) (b : Nat) (x1 : Int32) (x2 : Int32) : (Nat → Nat → Int32) × (Nat → Nat → UInt32) × (Nat → Nat → Int64) × Nat := (if x2 = 0 then ((up2 I b 12 ((I b 12) &&& ((1 <<< (x1 &&& 31)) ^^^ (-1)))), F, L, t) else ((up2 I b 12 ((I b 12) ||| (1 <<< (x1 &&& 31)))), F, L, t))
theorem ci_56 {l : LX} {d : Nat} {I : Nat → Nat → Int32} {F : Nat → Nat → UInt32} {L : Nat → Nat → Int64} {t : Nat} {b : Nat} {x1 : Int32} {x2 : Int32} (hb : isS b) : Con l 56 (d + 0) 0 0 [.ref b, .int x1, .int x2] SH (I, F, L, RT t) (rTV (fn_56 I F L t b x1 x2)) := by
  refine cn_56 ?_
  unfold fn_56
  refine bk_56_0 (fun h0 => ?_) (fun h0 => ?_)
  · rw [if_pos h0]
    refine bk_56_16 hb ?_
    exact bk_56_26 hb ⟨rfl, rfl, rfl⟩
  · rw [if_neg h0]
    refine bk_56_5 hb ?_
    exact bk_56_26 hb ⟨rfl, rfl, rfl⟩
/-- VectorShelf$Shelf.squares(II)I -/
def sp_59 (I : Nat → Nat → Int32) (b : Nat) (x1 : Int32) (x2 : Int32) : Int32 := (((0 + (((I (b + 7) ((3 * x1) + 0).toNatClampNeg) - (I (b + 4) ((3 * x2) + 0).toNatClampNeg)) * ((I (b + 7) ((3 * x1) + 0).toNatClampNeg) - (I (b + 4) ((3 * x2) + 0).toNatClampNeg)))) + (((I (b + 7) ((3 * x1) + (0 + 1)).toNatClampNeg) - (I (b + 4) ((3 * x2) + (0 + 1)).toNatClampNeg)) * ((I (b + 7) ((3 * x1) + (0 + 1)).toNatClampNeg) - (I (b + 4) ((3 * x2) + (0 + 1)).toNatClampNeg)))) + (((I (b + 7) ((3 * x1) + ((0 + 1) + 1)).toNatClampNeg) - (I (b + 4) ((3 * x2) + ((0 + 1) + 1)).toNatClampNeg)) * ((I (b + 7) ((3 * x1) + ((0 + 1) + 1)).toNatClampNeg) - (I (b + 4) ((3 * x2) + ((0 + 1) + 1)).toNatClampNeg))))
theorem cs_59 {l : LX} {d : Nat} {I : Nat → Nat → Int32} {F : Nat → Nat → UInt32} {L : Nat → Nat → Int64} {t : Nat} {b : Nat} {x1 : Int32} {x2 : Int32} (hb : isS b) (p1 : vp_in ((3 * x1) + 0) 36) (p2 : vp_in ((3 * x2) + 0) 12) (p3 : vp_in ((3 * x1) + (0 + 1)) 36) (p4 : vp_in ((3 * x2) + (0 + 1)) 12) (p5 : vp_in ((3 * x1) + ((0 + 1) + 1)) 36) (p6 : vp_in ((3 * x2) + ((0 + 1) + 1)) 12) : Con l 59 (d + 0) 0 0 [.ref b, .int x1, .int x2] SH (I, F, L, RT t) (rI (sp_59 I b x1 x2) (I, F, L, RT t)) := by
  refine cn_59 ?_
  unfold sp_59
  refine bk_59_0 ?_
  refine bk_59_5 (fun h => absurd h (by decide)) (fun _ => ?_)
  refine bk_59_11 hb p1 p2 ?_
  refine bk_59_5 (fun h => absurd h (by decide)) (fun _ => ?_)
  refine bk_59_11 hb p3 p4 ?_
  refine bk_59_5 (fun h => absurd h (by decide)) (fun _ => ?_)
  refine bk_59_11 hb p5 p6 ?_
  refine bk_59_5 (fun _ => ?_) (fun h => absurd (by decide) h)
  exact bk_59_50 ⟨rfl, rfl, rfl⟩
/-- VectorShelf$Shelf.outside(III)I -/
def sp_65 (x0 : Int32) (x1 : Int32) (x2 : Int32) : Int32 := (if x1 ≤ x0 then (if x0 ≤ x2 then 0 else (x0 - x2)) else (x1 - x0))
theorem cs_65 {l : LX} {d : Nat} {I : Nat → Nat → Int32} {F : Nat → Nat → UInt32} {L : Nat → Nat → Int64} {t : Nat} {x0 : Int32} {x1 : Int32} {x2 : Int32} : Con l 65 (d + 0) 0 0 [.int x0, .int x1, .int x2] SH (I, F, L, RT t) (rI (sp_65 x0 x1 x2) (I, F, L, RT t)) := by
  refine cn_65 ?_
  unfold sp_65
  refine bk_65_0 (fun h0 => ?_) (fun h0 => ?_)
  · rw [if_pos h0]
    refine bk_65_9 (fun h1 => ?_) (fun h1 => ?_)
    · rw [if_pos h1]
      refine bk_65_20 ?_
      exact bk_65_21 ⟨rfl, rfl, rfl⟩
    · rw [if_neg h1]
      refine bk_65_14 ?_
      exact bk_65_21 ⟨rfl, rfl, rfl⟩
  · rw [if_neg h0]
    exact bk_65_5 ⟨rfl, rfl, rfl⟩
/-- VectorShelf$Shelf.isBoxEmpty(I)Z -/
def sp_67 (I : Nat → Nat → Int32) (b : Nat) (x1 : Int32) : Int32 := (if (I (b + 5) (3 * x1).toNatClampNeg) ≤ (I (b + 6) (3 * x1).toNatClampNeg) then 0 else 1)
theorem cs_67 {l : LX} {d : Nat} {I : Nat → Nat → Int32} {F : Nat → Nat → UInt32} {L : Nat → Nat → Int64} {t : Nat} {b : Nat} {x1 : Int32} (hb : isS b) (p1 : vp_in (3 * x1) 12) : Con l 67 (d + 0) 0 0 [.ref b, .int x1] SH (I, F, L, RT t) (rI (sp_67 I b x1) (I, F, L, RT t)) := by
  refine cn_67 ?_
  unfold sp_67
  refine bk_67_0 hb p1 (fun h0 => ?_) (fun h0 => ?_)
  · rw [if_pos h0]
    refine bk_67_23 ?_
    exact bk_67_24 (by decide) ⟨rfl, rfl, rfl⟩
  · rw [if_neg h0]
    refine bk_67_19 ?_
    exact bk_67_24 (by decide) ⟨rfl, rfl, rfl⟩
theorem sb_67 (I : Nat → Nat → Int32) (b : Nat) (x1 : Int32) : (sp_67 I b x1) &&& 1 = (sp_67 I b x1) := by
  unfold sp_67
  repeat' split
  all_goals first | rfl
/-- VectorShelf$Shelf.change(II)I -/
def fn_69 (I : Nat → Nat → Int32) (F : Nat → Nat → UInt32) (L : Nat → Nat → Int64) (t : Nat) (b : Nat) (x1 : Int32) (x2 : Int32) : Int32 × (Nat → Nat → Int32) × (Nat → Nat → UInt32) × (Nat → Nat → Int64) × Nat := (if x1 = 0 then ((I b 1), (up2 I b 1 x2), F, L, t) else (if x1 = 1 then ((I (b + 1) 1), (up2 I (b + 1) 1 x2), F, L, t) else (if x1 = 2 then ((I (b + 1) 2), (up2 I (b + 1) 2 x2), F, L, t) else (if x1 = 3 then ((I (b + 1) 0), (up2 I (b + 1) 0 x2), F, L, t) else (if x1 = 4 then ((I (b + 2) (x1 - 4).toNatClampNeg), (up2 I (b + 2) (x1 - 4).toNatClampNeg x2), F, L, t) else (if x1 = 5 then ((I (b + 2) (x1 - 4).toNatClampNeg), (up2 I (b + 2) (x1 - 4).toNatClampNeg x2), F, L, t) else (if x1 = 6 then ((I (b + 2) (x1 - 4).toNatClampNeg), (up2 I (b + 2) (x1 - 4).toNatClampNeg x2), F, L, t) else ((-2), I, F, L, t))))))))
theorem ci_69 {l : LX} {d : Nat} {I : Nat → Nat → Int32} {F : Nat → Nat → UInt32} {L : Nat → Nat → Int64} {t : Nat} {b : Nat} {x1 : Int32} {x2 : Int32} (hb : isS b) (p1 : (x1 = 4) → vp_in (x1 - 4) 3) (p2 : (x1 = 5) → vp_in (x1 - 4) 3) (p3 : (x1 = 6) → vp_in (x1 - 4) 3) : Con l 69 (d + 0) 0 0 [.ref b, .int x1, .int x2] SH (I, F, L, RT t) (rT (fn_69 I F L t b x1 x2)) := by
  refine cn_69 ?_
  unfold fn_69
  refine bk_69_0 (fun h0 => ?_) (fun h0 => ?_) (fun h0 => ?_) (fun h0 => ?_) (fun h0 => ?_) (fun h0 => ?_) (fun h0 => ?_) (fun h0x0 h0x1 h0x2 h0x3 h0x4 h0x5 h0x6 => ?_)
  · rw [if_pos h0]
    exact bk_69_44 hb ⟨rfl, rfl, rfl⟩
  · rw [if_neg (show ¬ x1 = 0 from fun e => absurd (h0.symm.trans e) (by decide))]
    rw [if_pos h0]
    exact bk_69_56 hb ⟨rfl, rfl, rfl⟩
  · rw [if_neg (show ¬ x1 = 0 from fun e => absurd (h0.symm.trans e) (by decide))]
    rw [if_neg (show ¬ x1 = 1 from fun e => absurd (h0.symm.trans e) (by decide))]
    rw [if_pos h0]
    exact bk_69_74 hb ⟨rfl, rfl, rfl⟩
  · rw [if_neg (show ¬ x1 = 0 from fun e => absurd (h0.symm.trans e) (by decide))]
    rw [if_neg (show ¬ x1 = 1 from fun e => absurd (h0.symm.trans e) (by decide))]
    rw [if_neg (show ¬ x1 = 2 from fun e => absurd (h0.symm.trans e) (by decide))]
    rw [if_pos h0]
    exact bk_69_92 hb ⟨rfl, rfl, rfl⟩
  · rw [if_neg (show ¬ x1 = 0 from fun e => absurd (h0.symm.trans e) (by decide))]
    rw [if_neg (show ¬ x1 = 1 from fun e => absurd (h0.symm.trans e) (by decide))]
    rw [if_neg (show ¬ x1 = 2 from fun e => absurd (h0.symm.trans e) (by decide))]
    rw [if_neg (show ¬ x1 = 3 from fun e => absurd (h0.symm.trans e) (by decide))]
    rw [if_pos h0]
    exact bk_69_110 hb (p1 h0) ⟨rfl, rfl, rfl⟩
  · rw [if_neg (show ¬ x1 = 0 from fun e => absurd (h0.symm.trans e) (by decide))]
    rw [if_neg (show ¬ x1 = 1 from fun e => absurd (h0.symm.trans e) (by decide))]
    rw [if_neg (show ¬ x1 = 2 from fun e => absurd (h0.symm.trans e) (by decide))]
    rw [if_neg (show ¬ x1 = 3 from fun e => absurd (h0.symm.trans e) (by decide))]
    rw [if_neg (show ¬ x1 = 4 from fun e => absurd (h0.symm.trans e) (by decide))]
    rw [if_pos h0]
    exact bk_69_110 hb (p2 h0) ⟨rfl, rfl, rfl⟩
  · rw [if_neg (show ¬ x1 = 0 from fun e => absurd (h0.symm.trans e) (by decide))]
    rw [if_neg (show ¬ x1 = 1 from fun e => absurd (h0.symm.trans e) (by decide))]
    rw [if_neg (show ¬ x1 = 2 from fun e => absurd (h0.symm.trans e) (by decide))]
    rw [if_neg (show ¬ x1 = 3 from fun e => absurd (h0.symm.trans e) (by decide))]
    rw [if_neg (show ¬ x1 = 4 from fun e => absurd (h0.symm.trans e) (by decide))]
    rw [if_neg (show ¬ x1 = 5 from fun e => absurd (h0.symm.trans e) (by decide))]
    rw [if_pos h0]
    exact bk_69_110 hb (p3 h0) ⟨rfl, rfl, rfl⟩
  · rw [if_neg h0x0]
    rw [if_neg h0x1]
    rw [if_neg h0x2]
    rw [if_neg h0x3]
    rw [if_neg h0x4]
    rw [if_neg h0x5]
    rw [if_neg h0x6]
    exact bk_69_136 ⟨rfl, rfl, rfl⟩
/-- VectorShelf$Shelf.stand(III)V -/
def fn_70 (I : Nat → Nat → Int32) (F : Nat → Nat → UInt32) (L : Nat → Nat → Int64) (t : Nat) (b : Nat) (x1 : Int32) (x2 : Int32) (x3 : Int32) : (Nat → Nat → Int32) × (Nat → Nat → UInt32) × (Nat → Nat → Int64) × Nat := ((up2 (up2 (up2 I (b + 3) 0 x1) (b + 3) 1 x2) (b + 3) 2 x3), F, L, t)
theorem ci_70 {l : LX} {d : Nat} {I : Nat → Nat → Int32} {F : Nat → Nat → UInt32} {L : Nat → Nat → Int64} {t : Nat} {b : Nat} {x1 : Int32} {x2 : Int32} {x3 : Int32} (hb : isS b) : Con l 70 (d + 0) 0 0 [.ref b, .int x1, .int x2, .int x3] SH (I, F, L, RT t) (rTV (fn_70 I F L t b x1 x2 x3)) := by
  refine cn_70 ?_
  unfold fn_70
  exact bk_70_0 hb ⟨rfl, rfl, rfl⟩
/-- VectorShelf$Text.clear()V -/
def fn_80 (I : Nat → Nat → Int32) (F : Nat → Nat → UInt32) (L : Nat → Nat → Int64) (t : Nat) (b : Nat) : (Nat → Nat → Int32) × (Nat → Nat → UInt32) × (Nat → Nat → Int64) × Nat := ((up2 (up2 I b 1 0) b 2 0), F, L, t)
theorem ci_80 {l : LX} {d : Nat} {I : Nat → Nat → Int32} {F : Nat → Nat → UInt32} {L : Nat → Nat → Int64} {t : Nat} {b : Nat} (hb : isT b) : Con l 80 (d + 0) 0 0 [.ref b] SH (I, F, L, RT t) (rTV (fn_80 I F L t b)) := by
  refine cn_80 ?_
  unfold fn_80
  exact bk_80_0 hb ⟨rfl, rfl, rfl⟩
/-- VectorShelf$Text.add(I)V -/
def fn_81 (I : Nat → Nat → Int32) (F : Nat → Nat → UInt32) (L : Nat → Nat → Int64) (t : Nat) (b : Nat) (x1 : Int32) : (Nat → Nat → Int32) × (Nat → Nat → UInt32) × (Nat → Nat → Int64) × Nat := (if 160 ≤ (I b 1) then (I, F, L, t) else ((up2 (up2 I (b + 1) (I b 1).toNatClampNeg x1) b 1 (((up2 I (b + 1) (I b 1).toNatClampNeg x1) b 1) + 1)), F, L, t))
theorem ci_81 {l : LX} {d : Nat} {I : Nat → Nat → Int32} {F : Nat → Nat → UInt32} {L : Nat → Nat → Int64} {t : Nat} {b : Nat} {x1 : Int32} (hb : isT b) (p1 : (¬ (160 ≤ (I b 1))) → vp_in (I b 1) 160) : Con l 81 (d + 0) 0 0 [.ref b, .int x1] SH (I, F, L, RT t) (rTV (fn_81 I F L t b x1)) := by
  refine cn_81 ?_
  unfold fn_81
  refine bk_81_0 hb (fun h0 => ?_) (fun h0 => ?_)
  · rw [if_pos h0]
    exact bk_81_32 ⟨rfl, rfl, rfl⟩
  · rw [if_neg h0]
    refine bk_81_12 hb (p1 h0) ?_
    exact bk_81_32 ⟨rfl, rfl, rfl⟩
/-- VectorShelf$TextReader.append(I)I -/
def fn_83 (I : Nat → Nat → Int32) (F : Nat → Nat → UInt32) (L : Nat → Nat → Int64) (t : Nat) (x1 : Int32) : Int32 × (Nat → Nat → Int32) × (Nat → Nat → UInt32) × (Nat → Nat → Int64) × Nat := (if 160 ≤ (I 31 1) then ((I 31 1), I, F, L, t) else (((up2 (up2 I 32 (I 31 1).toNatClampNeg x1) 31 1 ((I 31 1) + 1)) 31 1), (up2 (up2 I 32 (I 31 1).toNatClampNeg x1) 31 1 ((I 31 1) + 1)), F, L, t))
theorem ci_83 {l : LX} {d : Nat} {I : Nat → Nat → Int32} {F : Nat → Nat → UInt32} {L : Nat → Nat → Int64} {t : Nat} {x1 : Int32} (p1 : (¬ (160 ≤ (I 31 1))) → vp_in (I 31 1) 160) : Con l 83 (d + 0) 0 0 [.ref 31, .int x1] SH (I, F, L, RT t) (rT (fn_83 I F L t x1)) := by
  refine cn_83 ?_
  unfold fn_83
  refine bk_83_0 (fun h0 => ?_) (fun h0 => ?_)
  · rw [if_pos h0]
    exact bk_83_32 ⟨rfl, rfl, rfl⟩
  · rw [if_neg h0]
    refine bk_83_12 (p1 h0) ?_
    exact bk_83_32 ⟨rfl, rfl, rfl⟩
/-- VectorShelf$TextReader.letterAt(I)I -/
def sp_86 (I : Nat → Nat → Int32) (x1 : Int32) : Int32 := (if x1 < 0 then (-1) else (if (I 31 1) ≤ x1 then (-1) else (if 160 ≤ x1 then (-1) else (I 32 x1.toNatClampNeg))))
theorem cs_86 {l : LX} {d : Nat} {I : Nat → Nat → Int32} {F : Nat → Nat → UInt32} {L : Nat → Nat → Int64} {t : Nat} {x1 : Int32} (p1 : (¬ (x1 < 0)) → (¬ ((I 31 1) ≤ x1)) → (¬ (160 ≤ x1)) → vp_in x1 160) : Con l 86 (d + 0) 0 0 [.ref 31, .int x1] SH (I, F, L, RT t) (rI (sp_86 I x1) (I, F, L, RT t)) := by
  refine cn_86 ?_
  unfold sp_86
  refine bk_86_0 (fun h0 => ?_) (fun h0 => ?_)
  · rw [if_pos h0]
    refine bk_86_30 ?_
    exact bk_86_31 ⟨rfl, rfl, rfl⟩
  · rw [if_neg h0]
    refine bk_86_4 (fun h1 => ?_) (fun h1 => ?_)
    · rw [if_pos h1]
      refine bk_86_30 ?_
      exact bk_86_31 ⟨rfl, rfl, rfl⟩
    · rw [if_neg h1]
      refine bk_86_12 (fun h2 => ?_) (fun h2 => ?_)
      · rw [if_pos h2]
        refine bk_86_30 ?_
        exact bk_86_31 ⟨rfl, rfl, rfl⟩
      · rw [if_neg h2]
        refine bk_86_21 (p1 h0 h1 h2) ?_
        exact bk_86_31 ⟨rfl, rfl, rfl⟩
/-- VectorShelf$TextReader.isBlank(I)Z -/
def sp_87 (x0 : Int32) : Int32 := (if x0 = 32 then 1 else (if ¬ x0 = 10 then 0 else 1))
theorem cs_87 {l : LX} {d : Nat} {I : Nat → Nat → Int32} {F : Nat → Nat → UInt32} {L : Nat → Nat → Int64} {t : Nat} {x0 : Int32} : Con l 87 (d + 0) 0 0 [.int x0] SH (I, F, L, RT t) (rI (sp_87 x0) (I, F, L, RT t)) := by
  refine cn_87 ?_
  unfold sp_87
  refine bk_87_0 (fun h0 => ?_) (fun h0 => ?_)
  · rw [if_pos h0]
    refine bk_87_12 ?_
    exact bk_87_17 (by decide) ⟨rfl, rfl, rfl⟩
  · rw [if_neg h0]
    refine bk_87_6 (fun h1 => ?_) (fun h1 => ?_)
    · rw [if_pos h1]
      refine bk_87_16 ?_
      exact bk_87_17 (by decide) ⟨rfl, rfl, rfl⟩
    · rw [if_neg h1]
      refine bk_87_12 ?_
      exact bk_87_17 (by decide) ⟨rfl, rfl, rfl⟩
theorem sb_87 (x0 : Int32) : (sp_87 x0) &&& 1 = (sp_87 x0) := by
  unfold sp_87
  repeat' split
  all_goals first | rfl
/-- VectorShelf$TextReader.isLetter(I)Z -/
def sp_88 (x0 : Int32) : Int32 := (if x0 < 97 then 0 else (if 122 < x0 then 0 else 1))
theorem cs_88 {l : LX} {d : Nat} {I : Nat → Nat → Int32} {F : Nat → Nat → UInt32} {L : Nat → Nat → Int64} {t : Nat} {x0 : Int32} : Con l 88 (d + 0) 0 0 [.int x0] SH (I, F, L, RT t) (rI (sp_88 x0) (I, F, L, RT t)) := by
  refine cn_88 ?_
  unfold sp_88
  refine bk_88_0 (fun h0 => ?_) (fun h0 => ?_)
  · rw [if_pos h0]
    refine bk_88_16 ?_
    exact bk_88_17 (by decide) ⟨rfl, rfl, rfl⟩
  · rw [if_neg h0]
    refine bk_88_6 (fun h1 => ?_) (fun h1 => ?_)
    · rw [if_pos h1]
      refine bk_88_16 ?_
      exact bk_88_17 (by decide) ⟨rfl, rfl, rfl⟩
    · rw [if_neg h1]
      refine bk_88_12 ?_
      exact bk_88_17 (by decide) ⟨rfl, rfl, rfl⟩
theorem sb_88 (x0 : Int32) : (sp_88 x0) &&& 1 = (sp_88 x0) := by
  unfold sp_88
  repeat' split
  all_goals first | rfl
/-- VectorShelf$TextReader.isDigit(I)Z -/
def sp_93 (x0 : Int32) : Int32 := (if x0 < 48 then 0 else (if 57 < x0 then 0 else 1))
theorem cs_93 {l : LX} {d : Nat} {I : Nat → Nat → Int32} {F : Nat → Nat → UInt32} {L : Nat → Nat → Int64} {t : Nat} {x0 : Int32} : Con l 93 (d + 0) 0 0 [.int x0] SH (I, F, L, RT t) (rI (sp_93 x0) (I, F, L, RT t)) := by
  refine cn_93 ?_
  unfold sp_93
  refine bk_93_0 (fun h0 => ?_) (fun h0 => ?_)
  · rw [if_pos h0]
    refine bk_93_16 ?_
    exact bk_93_17 (by decide) ⟨rfl, rfl, rfl⟩
  · rw [if_neg h0]
    refine bk_93_6 (fun h1 => ?_) (fun h1 => ?_)
    · rw [if_pos h1]
      refine bk_93_16 ?_
      exact bk_93_17 (by decide) ⟨rfl, rfl, rfl⟩
    · rw [if_neg h1]
      refine bk_93_12 ?_
      exact bk_93_17 (by decide) ⟨rfl, rfl, rfl⟩
theorem sb_93 (x0 : Int32) : (sp_93 x0) &&& 1 = (sp_93 x0) := by
  unfold sp_93
  repeat' split
  all_goals first | rfl
/-- VectorShelf$TextReader.fail()V -/
def fn_96 (I : Nat → Nat → Int32) (F : Nat → Nat → UInt32) (L : Nat → Nat → Int64) (t : Nat) : (Nat → Nat → Int32) × (Nat → Nat → UInt32) × (Nat → Nat → Int64) × Nat := (if ¬ (I 31 6) = (-1) then ((up2 I 31 4 257), F, L, t) else ((up2 (up2 I 31 6 (I 31 2)) 31 4 257), F, L, t))
theorem ci_96 {l : LX} {d : Nat} {I : Nat → Nat → Int32} {F : Nat → Nat → UInt32} {L : Nat → Nat → Int64} {t : Nat} : Con l 96 (d + 0) 0 0 [.ref 31] SH (I, F, L, RT t) (rTV (fn_96 I F L t)) := by
  refine cn_96 ?_
  unfold fn_96
  refine bk_96_0 (fun h0 => ?_) (fun h0 => ?_)
  · rw [if_pos h0]
    exact bk_96_16 ⟨rfl, rfl, rfl⟩
  · rw [if_neg h0]
    refine bk_96_8 ?_
    exact bk_96_16 ⟨rfl, rfl, rfl⟩
/-- VectorShelf.isIn(III)Z -/
def sp_107 (x0 : Int32) (x1 : Int32) (x2 : Int32) : Int32 := (if x0 < x1 then 0 else (if x2 < x0 then 0 else 1))
theorem cs_107 {l : LX} {d : Nat} {I : Nat → Nat → Int32} {F : Nat → Nat → UInt32} {L : Nat → Nat → Int64} {t : Nat} {x0 : Int32} {x1 : Int32} {x2 : Int32} : Con l 107 (d + 0) 0 0 [.int x0, .int x1, .int x2] SH (I, F, L, RT t) (rI (sp_107 x0 x1 x2) (I, F, L, RT t)) := by
  refine cn_107 ?_
  unfold sp_107
  refine bk_107_0 (fun h0 => ?_) (fun h0 => ?_)
  · rw [if_pos h0]
    refine bk_107_14 ?_
    exact bk_107_15 (by decide) ⟨rfl, rfl, rfl⟩
  · rw [if_neg h0]
    refine bk_107_5 (fun h1 => ?_) (fun h1 => ?_)
    · rw [if_pos h1]
      refine bk_107_14 ?_
      exact bk_107_15 (by decide) ⟨rfl, rfl, rfl⟩
    · rw [if_neg h1]
      refine bk_107_10 ?_
      exact bk_107_15 (by decide) ⟨rfl, rfl, rfl⟩
theorem sb_107 (x0 : Int32) (x1 : Int32) (x2 : Int32) : (sp_107 x0 x1 x2) &&& 1 = (sp_107 x0 x1 x2) := by
  unfold sp_107
  repeat' split
  all_goals first | rfl
/-- VectorShelf.isVector(I)Z -/
def sp_110 (I : Nat → Nat → Int32) (x1 : Int32) : Int32 := (sp_107 x1 (0 : Int32) ((I 1 8) - 1))
theorem cs_110 {l : LX} {d : Nat} {I : Nat → Nat → Int32} {F : Nat → Nat → UInt32} {L : Nat → Nat → Int64} {t : Nat} {x1 : Int32} : Con l 110 (d + 1) 0 0 [.ref 0, .int x1] SH (I, F, L, RT t) (rI (sp_110 I x1) (I, F, L, RT t)) := by
  refine cn_110 ?_
  unfold sp_110
  refine bk_110_0 (cs_107 (d := d + 0) ) ?_
  exact bk_110_14 (sb_107 ..) ⟨rfl, rfl, rfl⟩
theorem sb_110 (I : Nat → Nat → Int32) (x1 : Int32) : (sp_110 I x1) &&& 1 = (sp_110 I x1) := by
  unfold sp_110
  repeat' split
  all_goals first | rfl | exact sb_107 ..
/-- VectorShelf.isBit(II)Z -/
def sp_111 (x0 : Int32) (x1 : Int32) : Int32 := (if ¬ ((x0 >>> (x1 &&& 31)) &&& 1) = 1 then 0 else 1)
theorem cs_111 {l : LX} {d : Nat} {I : Nat → Nat → Int32} {F : Nat → Nat → UInt32} {L : Nat → Nat → Int64} {t : Nat} {x0 : Int32} {x1 : Int32} : Con l 111 (d + 0) 0 0 [.int x0, .int x1] SH (I, F, L, RT t) (rI (sp_111 x0 x1) (I, F, L, RT t)) := by
  refine cn_111 ?_
  unfold sp_111
  refine bk_111_0 (fun h0 => ?_) (fun h0 => ?_)
  · rw [if_pos h0]
    refine bk_111_13 ?_
    exact bk_111_14 (by decide) ⟨rfl, rfl, rfl⟩
  · rw [if_neg h0]
    refine bk_111_9 ?_
    exact bk_111_14 (by decide) ⟨rfl, rfl, rfl⟩
theorem sb_111 (x0 : Int32) (x1 : Int32) : (sp_111 x0 x1) &&& 1 = (sp_111 x0 x1) := by
  unfold sp_111
  repeat' split
  all_goals first | rfl
/-- VectorShelf.isSetting(II)Z -/
def sp_118 (x0 : Int32) (x1 : Int32) : Int32 := (if x0 = 0 then (sp_107 x1 (1 : Int32) (64 : Int32)) else (if x0 = 1 then (sp_107 x1 (0 : Int32) (99 : Int32)) else (if x0 = 2 then (sp_107 x1 (0 : Int32) (999999 : Int32)) else (if x0 = 3 then (sp_107 x1 (0 : Int32) (5 : Int32)) else (if x0 = 4 then (sp_107 x1 (1 : Int32) (9 : Int32)) else (if x0 = 5 then (sp_107 x1 (1 : Int32) (9 : Int32)) else (if x0 = 6 then (sp_107 x1 (1 : Int32) (9 : Int32)) else 0)))))))
theorem cs_118 {l : LX} {d : Nat} {I : Nat → Nat → Int32} {F : Nat → Nat → UInt32} {L : Nat → Nat → Int64} {t : Nat} {x0 : Int32} {x1 : Int32} : Con l 118 (d + 1) 0 0 [.int x0, .int x1] SH (I, F, L, RT t) (rI (sp_118 x0 x1) (I, F, L, RT t)) := by
  refine cn_118 ?_
  unfold sp_118
  refine bk_118_0 (fun h0 => ?_) (fun h0 => ?_) (fun h0 => ?_) (fun h0 => ?_) (fun h0 => ?_) (fun h0 => ?_) (fun h0 => ?_) (fun h0x0 h0x1 h0x2 h0x3 h0x4 h0x5 h0x6 => ?_)
  · rw [if_pos h0]
    refine bk_118_44 (cs_107 (d := d + 0) ) ?_
    exact bk_118_51 (sb_107 ..) ⟨rfl, rfl, rfl⟩
  · rw [if_neg (show ¬ x0 = 0 from fun e => absurd (h0.symm.trans e) (by decide))]
    rw [if_pos h0]
    refine bk_118_52 (cs_107 (d := d + 0) ) ?_
    exact bk_118_59 (sb_107 ..) ⟨rfl, rfl, rfl⟩
  · rw [if_neg (show ¬ x0 = 0 from fun e => absurd (h0.symm.trans e) (by decide))]
    rw [if_neg (show ¬ x0 = 1 from fun e => absurd (h0.symm.trans e) (by decide))]
    rw [if_pos h0]
    refine bk_118_60 (cs_107 (d := d + 0) ) ?_
    exact bk_118_67 (sb_107 ..) ⟨rfl, rfl, rfl⟩
  · rw [if_neg (show ¬ x0 = 0 from fun e => absurd (h0.symm.trans e) (by decide))]
    rw [if_neg (show ¬ x0 = 1 from fun e => absurd (h0.symm.trans e) (by decide))]
    rw [if_neg (show ¬ x0 = 2 from fun e => absurd (h0.symm.trans e) (by decide))]
    rw [if_pos h0]
    refine bk_118_68 (cs_107 (d := d + 0) ) ?_
    exact bk_118_74 (sb_107 ..) ⟨rfl, rfl, rfl⟩
  · rw [if_neg (show ¬ x0 = 0 from fun e => absurd (h0.symm.trans e) (by decide))]
    rw [if_neg (show ¬ x0 = 1 from fun e => absurd (h0.symm.trans e) (by decide))]
    rw [if_neg (show ¬ x0 = 2 from fun e => absurd (h0.symm.trans e) (by decide))]
    rw [if_neg (show ¬ x0 = 3 from fun e => absurd (h0.symm.trans e) (by decide))]
    rw [if_pos h0]
    refine bk_118_75 (cs_107 (d := d + 0) ) ?_
    exact bk_118_82 (sb_107 ..) ⟨rfl, rfl, rfl⟩
  · rw [if_neg (show ¬ x0 = 0 from fun e => absurd (h0.symm.trans e) (by decide))]
    rw [if_neg (show ¬ x0 = 1 from fun e => absurd (h0.symm.trans e) (by decide))]
    rw [if_neg (show ¬ x0 = 2 from fun e => absurd (h0.symm.trans e) (by decide))]
    rw [if_neg (show ¬ x0 = 3 from fun e => absurd (h0.symm.trans e) (by decide))]
    rw [if_neg (show ¬ x0 = 4 from fun e => absurd (h0.symm.trans e) (by decide))]
    rw [if_pos h0]
    refine bk_118_75 (cs_107 (d := d + 0) ) ?_
    exact bk_118_82 (sb_107 ..) ⟨rfl, rfl, rfl⟩
  · rw [if_neg (show ¬ x0 = 0 from fun e => absurd (h0.symm.trans e) (by decide))]
    rw [if_neg (show ¬ x0 = 1 from fun e => absurd (h0.symm.trans e) (by decide))]
    rw [if_neg (show ¬ x0 = 2 from fun e => absurd (h0.symm.trans e) (by decide))]
    rw [if_neg (show ¬ x0 = 3 from fun e => absurd (h0.symm.trans e) (by decide))]
    rw [if_neg (show ¬ x0 = 4 from fun e => absurd (h0.symm.trans e) (by decide))]
    rw [if_neg (show ¬ x0 = 5 from fun e => absurd (h0.symm.trans e) (by decide))]
    rw [if_pos h0]
    refine bk_118_75 (cs_107 (d := d + 0) ) ?_
    exact bk_118_82 (sb_107 ..) ⟨rfl, rfl, rfl⟩
  · rw [if_neg h0x0]
    rw [if_neg h0x1]
    rw [if_neg h0x2]
    rw [if_neg h0x3]
    rw [if_neg h0x4]
    rw [if_neg h0x5]
    rw [if_neg h0x6]
    exact bk_118_83 ⟨rfl, rfl, rfl⟩
theorem sb_118 (x0 : Int32) (x1 : Int32) : (sp_118 x0 x1) &&& 1 = (sp_118 x0 x1) := by
  unfold sp_118
  repeat' split
  all_goals first | rfl | exact sb_107 ..
/-- VectorShelf.high(I)I -/
def sp_122 (x1 : Int32) : Int32 := (if (sp_107 x1 (0 : Int32) (999999999 : Int32)) = 0 then (-2) else (FP.f2i (sp_31 x1)))
theorem cs_122 {l : LX} {d : Nat} {I : Nat → Nat → Int32} {F : Nat → Nat → UInt32} {L : Nat → Nat → Int64} {t : Nat} {x1 : Int32} (p1 : (¬ ((sp_107 x1 (0 : Int32) (999999999 : Int32)) = 0)) → (vf_n32 (FP.fmul (FP.i2f x1) 1065353224))) : Con l 122 (d + 1) 0 0 [.ref 0, .int x1] SH (I, F, L, RT t) (rI (sp_122 x1) (I, F, L, RT t)) := by
  refine cn_122 ?_
  unfold sp_122
  refine bk_122_0 (cs_107 (d := d + 0) ) ?_
  refine bk_122_7 (fun h0 => ?_) (fun h0 => ?_)
  · rw [if_pos h0]
    refine bk_122_18 ?_
    exact bk_122_20 ⟨rfl, rfl, rfl⟩
  · rw [if_neg h0]
    refine bk_122_10 (cs_31 (d := d + 0) (p1 h0)) ?_
    refine bk_122_14 ?_
    exact bk_122_20 ⟨rfl, rfl, rfl⟩
/-- VectorShelf.feed(I)I -/
def fn_125 (I : Nat → Nat → Int32) (F : Nat → Nat → UInt32) (L : Nat → Nat → Int64) (t : Nat) (x1 : Int32) : Int32 × (Nat → Nat → Int32) × (Nat → Nat → UInt32) × (Nat → Nat → Int64) × Nat := (if ¬ (sp_107 x1 (0 : Int32) (255 : Int32)) = 0 then (if (I 31 1) < 160 then (bnd (fn_83 I F L t x1) (fun z1 I1 F1 L1 t1 => (z1, I1, F1, L1, t1))) else ((-4), I, F, L, t)) else ((-2), I, F, L, t))
theorem ci_125 {l : LX} {d : Nat} {I : Nat → Nat → Int32} {F : Nat → Nat → UInt32} {L : Nat → Nat → Int64} {t : Nat} {x1 : Int32} (p1 : (¬ (sp_107 x1 (0 : Int32) (255 : Int32)) = 0) → ((I 31 1) < 160) → ((¬ (160 ≤ (I 31 1))) → vp_in (I 31 1) 160)) : Con l 125 (d + 1) 0 0 [.ref 0, .int x1] SH (I, F, L, RT t) (rT (fn_125 I F L t x1)) := by
  refine cn_125 ?_
  unfold fn_125
  refine bk_125_0 (cs_107 (d := d + 0) ) ?_
  refine bk_125_8 (fun h0 => ?_) (fun h0 => ?_)
  · rw [if_pos h0]
    refine bk_125_14 (fun h1 => ?_) (fun h1 => ?_)
    · rw [if_pos h1]
      refine bk_125_32 (Con_Q (ci_83 (d := d + 0) (p1 h0 h1))) (fun z1 I1 F1 L1 t1 e1 => ?_)
      rw [← e1]
      dsimp only [bnd]
      exact bk_125_40 ⟨rfl, rfl, rfl⟩
    · rw [if_neg h1]
      refine bk_125_27 ?_
      exact bk_125_40 ⟨rfl, rfl, rfl⟩
  · rw [if_neg h0]
    exact bk_125_11 ⟨rfl, rfl, rfl⟩
/-- VectorShelf.force(I)I -/
def fn_127 (I : Nat → Nat → Int32) (F : Nat → Nat → UInt32) (L : Nat → Nat → Int64) (t : Nat) (x1 : Int32) : Int32 × (Nat → Nat → Int32) × (Nat → Nat → UInt32) × (Nat → Nat → Int64) × Nat := (if ¬ (sp_107 x1 (0 : Int32) ((I 0 9) - 1)) = 0 then ((I 1 2), (up2 I 1 2 x1), F, L, t) else ((-2), I, F, L, t))
theorem ci_127 {l : LX} {d : Nat} {I : Nat → Nat → Int32} {F : Nat → Nat → UInt32} {L : Nat → Nat → Int64} {t : Nat} {x1 : Int32} : Con l 127 (d + 1) 0 0 [.ref 0, .int x1] SH (I, F, L, RT t) (rT (fn_127 I F L t x1)) := by
  refine cn_127 ?_
  unfold fn_127
  refine bk_127_0 (cs_107 (d := d + 0) ) ?_
  refine bk_127_11 (fun h0 => ?_) (fun h0 => ?_)
  · rw [if_pos h0]
    exact bk_127_17 ⟨rfl, rfl, rfl⟩
  · rw [if_neg h0]
    exact bk_127_14 ⟨rfl, rfl, rfl⟩
/-- VectorShelf.isAhead(IIII)Z -/
def sp_129 (x0 : Int32) (x1 : Int32) (x2 : Int32) (x3 : Int32) : Int32 := (if x0 < x2 then 1 else (if ¬ x0 = x2 then 0 else (if x3 ≤ x1 then 0 else 1)))
theorem cs_129 {l : LX} {d : Nat} {I : Nat → Nat → Int32} {F : Nat → Nat → UInt32} {L : Nat → Nat → Int64} {t : Nat} {x0 : Int32} {x1 : Int32} {x2 : Int32} {x3 : Int32} : Con l 129 (d + 0) 0 0 [.int x0, .int x1, .int x2, .int x3] SH (I, F, L, RT t) (rI (sp_129 x0 x1 x2 x3) (I, F, L, RT t)) := by
  refine cn_129 ?_
  unfold sp_129
  refine bk_129_0 (fun h0 => ?_) (fun h0 => ?_)
  · rw [if_pos h0]
    refine bk_129_15 ?_
    exact bk_129_20 (by decide) ⟨rfl, rfl, rfl⟩
  · rw [if_neg h0]
    refine bk_129_5 (fun h1 => ?_) (fun h1 => ?_)
    · rw [if_pos h1]
      refine bk_129_19 ?_
      exact bk_129_20 (by decide) ⟨rfl, rfl, rfl⟩
    · rw [if_neg h1]
      refine bk_129_10 (fun h2 => ?_) (fun h2 => ?_)
      · rw [if_pos h2]
        refine bk_129_19 ?_
        exact bk_129_20 (by decide) ⟨rfl, rfl, rfl⟩
      · rw [if_neg h2]
        refine bk_129_15 ?_
        exact bk_129_20 (by decide) ⟨rfl, rfl, rfl⟩
theorem sb_129 (x0 : Int32) (x1 : Int32) (x2 : Int32) (x3 : Int32) : (sp_129 x0 x1 x2 x3) &&& 1 = (sp_129 x0 x1 x2 x3) := by
  unfold sp_129
  repeat' split
  all_goals first | rfl
/-- VectorShelf.isSheet(I)Z -/
def sp_146 (x0 : Int32) : Int32 := (sp_107 x0 (0 : Int32) (3 : Int32))
theorem cs_146 {l : LX} {d : Nat} {I : Nat → Nat → Int32} {F : Nat → Nat → UInt32} {L : Nat → Nat → Int64} {t : Nat} {x0 : Int32} : Con l 146 (d + 1) 0 0 [.int x0] SH (I, F, L, RT t) (rI (sp_146 x0) (I, F, L, RT t)) := by
  refine cn_146 ?_
  unfold sp_146
  refine bk_146_0 (cs_107 (d := d + 0) ) ?_
  exact bk_146_6 (sb_107 ..) ⟨rfl, rfl, rfl⟩
theorem sb_146 (x0 : Int32) : (sp_146 x0) &&& 1 = (sp_146 x0) := by
  unfold sp_146
  repeat' split
  all_goals first | rfl | exact sb_107 ..
/-- VectorShelfModel.spell(IIIIIIIII)V -/
def fn_168 (I : Nat → Nat → Int32) (F : Nat → Nat → UInt32) (L : Nat → Nat → Int64) (t : Nat) (x1 : Int32) (x2 : Int32) (x3 : Int32) (x4 : Int32) (x5 : Int32) (x6 : Int32) (x7 : Int32) (x8 : Int32) (x9 : Int32) : (Nat → Nat → Int32) × (Nat → Nat → UInt32) × (Nat → Nat → Int64) × Nat := ((up2 (up2 (up2 (up2 (up2 (up2 (up2 (up2 I 75 x1.toNatClampNeg x2) 75 (x1 + 1).toNatClampNeg x3) 75 (x1 + 2).toNatClampNeg x4) 75 (x1 + 3).toNatClampNeg x5) 75 (x1 + 4).toNatClampNeg x6) 75 (x1 + 5).toNatClampNeg x7) 75 (x1 + 6).toNatClampNeg x8) 75 (x1 + 7).toNatClampNeg x9), F, L, t)
theorem ci_168 {l : LX} {d : Nat} {I : Nat → Nat → Int32} {F : Nat → Nat → UInt32} {L : Nat → Nat → Int64} {t : Nat} {x1 : Int32} {x2 : Int32} {x3 : Int32} {x4 : Int32} {x5 : Int32} {x6 : Int32} {x7 : Int32} {x8 : Int32} {x9 : Int32} (p1 : vp_in x1 960) (p2 : vp_in (x1 + 1) 960) (p3 : vp_in (x1 + 2) 960) (p4 : vp_in (x1 + 3) 960) (p5 : vp_in (x1 + 4) 960) (p6 : vp_in (x1 + 5) 960) (p7 : vp_in (x1 + 6) 960) (p8 : vp_in (x1 + 7) 960) : Con l 168 (d + 0) 0 0 [.ref 74, .int x1, .int x2, .int x3, .int x4, .int x5, .int x6, .int x7, .int x8, .int x9] SH (I, F, L, RT t) (rTV (fn_168 I F L t x1 x2 x3 x4 x5 x6 x7 x8 x9)) := by
  refine cn_168 ?_
  unfold fn_168
  exact bk_168_0 p1 p2 p3 p4 p5 p6 p7 p8 ⟨rfl, rfl, rfl⟩
/-- VectorShelfModel.in(JJJ)Z -/
def sp_170 (y0 : Int64) (y2 : Int64) (y4 : Int64) : Int32 := (if (lg_cmp y0 y2) < 0 then 0 else (if 0 < (lg_cmp y0 y4) then 0 else 1))
theorem cs_170 {l : LX} {d : Nat} {I : Nat → Nat → Int32} {F : Nat → Nat → UInt32} {L : Nat → Nat → Int64} {t : Nat} {y0 : Int64} {y2 : Int64} {y4 : Int64} : Con l 170 (d + 0) 0 0 [.long y0, .long y2, .long y4] SH (I, F, L, RT t) (rI (sp_170 y0 y2 y4) (I, F, L, RT t)) := by
  refine cn_170 ?_
  unfold sp_170
  refine bk_170_0 (fun h0 => ?_) (fun h0 => ?_)
  · rw [if_pos h0]
    refine bk_170_17 ?_
    exact bk_170_18 (by decide) ⟨rfl, rfl, rfl⟩
  · rw [if_neg h0]
    refine bk_170_6 (fun h1 => ?_) (fun h1 => ?_)
    · rw [if_pos h1]
      refine bk_170_17 ?_
      exact bk_170_18 (by decide) ⟨rfl, rfl, rfl⟩
    · rw [if_neg h1]
      refine bk_170_13 ?_
      exact bk_170_18 (by decide) ⟨rfl, rfl, rfl⟩
theorem sb_170 (y0 : Int64) (y2 : Int64) (y4 : Int64) : (sp_170 y0 y2 y4) &&& 1 = (sp_170 y0 y2 y4) := by
  unfold sp_170
  repeat' split
  all_goals first | rfl
/-- VectorShelfModel.mostOf(I)I -/
def sp_171 (x1 : Int32) : Int32 := (if ¬ x1 = 0 then (if ¬ x1 = 1 then (if ¬ x1 = 2 then (if ¬ x1 = 3 then 9 else 5) else 999999) else 99) else 64)
theorem cs_171 {l : LX} {d : Nat} {I : Nat → Nat → Int32} {F : Nat → Nat → UInt32} {L : Nat → Nat → Int64} {t : Nat} {x1 : Int32} : Con l 171 (d + 0) 0 0 [.ref 74, .int x1] SH (I, F, L, RT t) (rI (sp_171 x1) (I, F, L, RT t)) := by
  refine cn_171 ?_
  unfold sp_171
  refine bk_171_0 (fun h0 => ?_) (fun h0 => ?_)
  · rw [if_pos h0]
    refine bk_171_9 (fun h1 => ?_) (fun h1 => ?_)
    · rw [if_pos h1]
      refine bk_171_19 (fun h2 => ?_) (fun h2 => ?_)
      · rw [if_pos h2]
        refine bk_171_29 (fun h3 => ?_) (fun h3 => ?_)
        · rw [if_pos h3]
          refine bk_171_38 ?_
          exact bk_171_40 ⟨rfl, rfl, rfl⟩
        · rw [if_neg h3]
          refine bk_171_34 ?_
          exact bk_171_40 ⟨rfl, rfl, rfl⟩
      · rw [if_neg h2]
        refine bk_171_24 ?_
        exact bk_171_40 ⟨rfl, rfl, rfl⟩
    · rw [if_neg h1]
      refine bk_171_14 ?_
      exact bk_171_40 ⟨rfl, rfl, rfl⟩
  · rw [if_neg h0]
    refine bk_171_4 ?_
    exact bk_171_40 ⟨rfl, rfl, rfl⟩
/-- VectorShelfModel.isPlace(III)Z -/
def sp_173 (x0 : Int32) (x1 : Int32) (x2 : Int32) : Int32 := (if (sp_170 (Int32.toInt64 x0) (-999 : Int64) (999 : Int64)) = 0 then 0 else (if (sp_170 (Int32.toInt64 x1) (-999 : Int64) (999 : Int64)) = 0 then 0 else (if (sp_170 (Int32.toInt64 x2) (-999 : Int64) (999 : Int64)) = 0 then 0 else 1)))
theorem cs_173 {l : LX} {d : Nat} {I : Nat → Nat → Int32} {F : Nat → Nat → UInt32} {L : Nat → Nat → Int64} {t : Nat} {x0 : Int32} {x1 : Int32} {x2 : Int32} : Con l 173 (d + 1) 0 0 [.int x0, .int x1, .int x2] SH (I, F, L, RT t) (rI (sp_173 x0 x1 x2) (I, F, L, RT t)) := by
  refine cn_173 ?_
  unfold sp_173
  refine bk_173_0 (cs_170 (d := d + 0) ) ?_
  refine bk_173_11 (fun h0 => ?_) (fun h0 => ?_)
  · rw [if_pos h0]
    refine bk_173_46 ?_
    exact bk_173_47 (by decide) ⟨rfl, rfl, rfl⟩
  · rw [if_neg h0]
    refine bk_173_14 (cs_170 (d := d + 0) ) ?_
    refine bk_173_25 (fun h1 => ?_) (fun h1 => ?_)
    · rw [if_pos h1]
      refine bk_173_46 ?_
      exact bk_173_47 (by decide) ⟨rfl, rfl, rfl⟩
    · rw [if_neg h1]
      refine bk_173_28 (cs_170 (d := d + 0) ) ?_
      refine bk_173_39 (fun h2 => ?_) (fun h2 => ?_)
      · rw [if_pos h2]
        refine bk_173_46 ?_
        exact bk_173_47 (by decide) ⟨rfl, rfl, rfl⟩
      · rw [if_neg h2]
        refine bk_173_42 ?_
        exact bk_173_47 (by decide) ⟨rfl, rfl, rfl⟩
theorem sb_173 (x0 : Int32) (x1 : Int32) (x2 : Int32) : (sp_173 x0 x1 x2) &&& 1 = (sp_173 x0 x1 x2) := by
  unfold sp_173
  repeat' split
  all_goals first | rfl | exact sb_170 ..
/-- VectorShelfModel.isOne(I)Z -/
def sp_179 (I : Nat → Nat → Int32) (x1 : Int32) : Int32 := (sp_170 (Int32.toInt64 x1) (0 : Int64) (Int32.toInt64 ((I 74 18) - 1)))
theorem cs_179 {l : LX} {d : Nat} {I : Nat → Nat → Int32} {F : Nat → Nat → UInt32} {L : Nat → Nat → Int64} {t : Nat} {x1 : Int32} : Con l 179 (d + 1) 0 0 [.ref 74, .int x1] SH (I, F, L, RT t) (rI (sp_179 I x1) (I, F, L, RT t)) := by
  refine cn_179 ?_
  unfold sp_179
  refine bk_179_0 (cs_170 (d := d + 0) ) ?_
  exact bk_179_13 (sb_170 ..) ⟨rfl, rfl, rfl⟩
theorem sb_179 (I : Nat → Nat → Int32) (x1 : Int32) : (sp_179 I x1) &&& 1 = (sp_179 I x1) := by
  unfold sp_179
  repeat' split
  all_goals first | rfl | exact sb_170 ..
/-- VectorShelfModel.isThere(I)Z -/
def sp_180 (I : Nat → Nat → Int32) (x1 : Int32) : Int32 := (if ¬ (I 87 x1.toNatClampNeg) = 0 then 0 else (if (I 86 x1.toNatClampNeg) = (-1) then 0 else 1))
theorem cs_180 {l : LX} {d : Nat} {I : Nat → Nat → Int32} {F : Nat → Nat → UInt32} {L : Nat → Nat → Int64} {t : Nat} {x1 : Int32} (p1 : vp_in x1 12) (p2 : (¬ (¬ (I 87 x1.toNatClampNeg) = 0)) → vp_in x1 12) : Con l 180 (d + 0) 0 0 [.ref 74, .int x1] SH (I, F, L, RT t) (rI (sp_180 I x1) (I, F, L, RT t)) := by
  refine cn_180 ?_
  unfold sp_180
  refine bk_180_0 p1 (fun h0 => ?_) (fun h0 => ?_)
  · rw [if_pos h0]
    refine bk_180_23 ?_
    exact bk_180_24 (by decide) ⟨rfl, rfl, rfl⟩
  · rw [if_neg h0]
    refine bk_180_9 (p2 h0) (fun h1 => ?_) (fun h1 => ?_)
    · rw [if_pos h1]
      refine bk_180_23 ?_
      exact bk_180_24 (by decide) ⟨rfl, rfl, rfl⟩
    · rw [if_neg h1]
      refine bk_180_19 ?_
      exact bk_180_24 (by decide) ⟨rfl, rfl, rfl⟩
theorem sb_180 (I : Nat → Nat → Int32) (x1 : Int32) : (sp_180 I x1) &&& 1 = (sp_180 I x1) := by
  unfold sp_180
  repeat' split
  all_goals first | rfl
/-- VectorShelfModel.drop(II)I -/
def fn_181 (I : Nat → Nat → Int32) (F : Nat → Nat → UInt32) (L : Nat → Nat → Int64) (t : Nat) (x1 : Int32) (x2 : Int32) : Int32 × (Nat → Nat → Int32) × (Nat → Nat → UInt32) × (Nat → Nat → Int64) × Nat := (if (sp_179 I x1) = 0 then ((-2), I, F, L, t) else (if ¬ (sp_170 (Int32.toInt64 x2) (0 : Int64) (1 : Int64)) = 0 then (if ¬ (I 86 x1.toNatClampNeg) = (-1) then ((I 87 x1.toNatClampNeg), (up2 I 87 x1.toNatClampNeg x2), F, L, t) else ((-3), I, F, L, t)) else ((-2), I, F, L, t)))
theorem ci_181 {l : LX} {d : Nat} {I : Nat → Nat → Int32} {F : Nat → Nat → UInt32} {L : Nat → Nat → Int64} {t : Nat} {x1 : Int32} {x2 : Int32} (p1 : (¬ ((sp_179 I x1) = 0)) → (¬ (sp_170 (Int32.toInt64 x2) (0 : Int64) (1 : Int64)) = 0) → vp_in x1 12) (p2 : (¬ ((sp_179 I x1) = 0)) → (¬ (sp_170 (Int32.toInt64 x2) (0 : Int64) (1 : Int64)) = 0) → (¬ (I 86 x1.toNatClampNeg) = (-1)) → vp_in x1 12) : Con l 181 (d + 2) 0 0 [.ref 74, .int x1, .int x2] SH (I, F, L, RT t) (rT (fn_181 I F L t x1 x2)) := by
  refine cn_181 ?_
  unfold fn_181
  refine bk_181_0 (cs_179 (d := d + 0) ) ?_
  refine bk_181_5 (fun h0 => ?_) (fun h0 => ?_)
  · rw [if_pos h0]
    exact bk_181_18 ⟨rfl, rfl, rfl⟩
  · rw [if_neg h0]
    refine bk_181_8 (cs_170 (d := d + 1) ) ?_
    refine bk_181_15 (fun h1 => ?_) (fun h1 => ?_)
    · rw [if_pos h1]
      refine bk_181_21 (p1 h0 h1) (fun h2 => ?_) (fun h2 => ?_)
      · rw [if_pos h2]
        exact bk_181_34 (p2 h0 h1 h2) ⟨rfl, rfl, rfl⟩
      · rw [if_neg h2]
        exact bk_181_31 ⟨rfl, rfl, rfl⟩
    · rw [if_neg h1]
      exact bk_181_18 ⟨rfl, rfl, rfl⟩
/-- VectorShelfModel.far(II)I -/
def sp_184 (x0 : Int32) (x1 : Int32) : Int32 := (if x0 ≤ x1 then (x1 - x0) else (x0 - x1))
theorem cs_184 {l : LX} {d : Nat} {I : Nat → Nat → Int32} {F : Nat → Nat → UInt32} {L : Nat → Nat → Int64} {t : Nat} {x0 : Int32} {x1 : Int32} : Con l 184 (d + 0) 0 0 [.int x0, .int x1] SH (I, F, L, RT t) (rI (sp_184 x0 x1) (I, F, L, RT t)) := by
  refine cn_184 ?_
  unfold sp_184
  refine bk_184_0 (fun h0 => ?_) (fun h0 => ?_)
  · rw [if_pos h0]
    refine bk_184_11 ?_
    exact bk_184_14 ⟨rfl, rfl, rfl⟩
  · rw [if_neg h0]
    refine bk_184_5 ?_
    exact bk_184_14 ⟨rfl, rfl, rfl⟩
/-- VectorShelfModel.isSlack()Z -/
def sp_187 (I : Nat → Nat → Int32) : Int32 := (if (I 78 3) = 3 then 1 else (if ¬ (I 78 3) = 5 then 0 else 1))
theorem cs_187 {l : LX} {d : Nat} {I : Nat → Nat → Int32} {F : Nat → Nat → UInt32} {L : Nat → Nat → Int64} {t : Nat} : Con l 187 (d + 0) 0 0 [.ref 74] SH (I, F, L, RT t) (rI (sp_187 I) (I, F, L, RT t)) := by
  refine cn_187 ?_
  unfold sp_187
  refine bk_187_0 (fun h0 => ?_) (fun h0 => ?_)
  · rw [if_pos h0]
    refine bk_187_20 ?_
    exact bk_187_25 (by decide) ⟨rfl, rfl, rfl⟩
  · rw [if_neg h0]
    refine bk_187_10 (fun h1 => ?_) (fun h1 => ?_)
    · rw [if_pos h1]
      refine bk_187_24 ?_
      exact bk_187_25 (by decide) ⟨rfl, rfl, rfl⟩
    · rw [if_neg h1]
      refine bk_187_20 ?_
      exact bk_187_25 (by decide) ⟨rfl, rfl, rfl⟩
theorem sb_187 (I : Nat → Nat → Int32) : (sp_187 I) &&& 1 = (sp_187 I) := by
  unfold sp_187
  repeat' split
  all_goals first | rfl
/-- VectorShelfModel.above(I)I -/
def sp_188 (I : Nat → Nat → Int32) (x1 : Int32) : Int32 := (if x1 ≤ (I 78 1) then 0 else (x1 - (I 78 1)))
theorem cs_188 {l : LX} {d : Nat} {I : Nat → Nat → Int32} {F : Nat → Nat → UInt32} {L : Nat → Nat → Int64} {t : Nat} {x1 : Int32} : Con l 188 (d + 0) 0 0 [.ref 74, .int x1] SH (I, F, L, RT t) (rI (sp_188 I x1) (I, F, L, RT t)) := by
  refine cn_188 ?_
  unfold sp_188
  refine bk_188_0 (fun h0 => ?_) (fun h0 => ?_)
  · rw [if_pos h0]
    refine bk_188_21 ?_
    exact bk_188_22 ⟨rfl, rfl, rfl⟩
  · rw [if_neg h0]
    refine bk_188_10 ?_
    exact bk_188_22 ⟨rfl, rfl, rfl⟩
/-- VectorShelfModel.highOf(I)F -/
def sp_190 (x0 : Int32) : UInt32 := (FP.fmul (FP.i2f x0) 1065353224)
theorem cs_190 {l : LX} {d : Nat} {I : Nat → Nat → Int32} {F : Nat → Nat → UInt32} {L : Nat → Nat → Int64} {t : Nat} {x0 : Int32} (p1 : vf_n32 (FP.fmul (FP.i2f x0) 1065353224)) : Con l 190 (d + 0) 0 0 [.int x0] SH (I, F, L, RT t) (rF (sp_190 x0) (I, F, L, RT t)) := by
  refine cn_190 ?_
  unfold sp_190
  exact bk_190_0 p1 ⟨rfl, rfl, rfl⟩
/-- VectorShelfModel.feed(I)I -/
def fn_191 (I : Nat → Nat → Int32) (F : Nat → Nat → UInt32) (L : Nat → Nat → Int64) (t : Nat) (x1 : Int32) : Int32 × (Nat → Nat → Int32) × (Nat → Nat → UInt32) × (Nat → Nat → Int64) × Nat := (if ¬ (sp_170 (Int32.toInt64 x1) (0 : Int64) (255 : Int64)) = 0 then (if ¬ (I 74 6) = 160 then (((I 74 6) + 1), (up2 (up2 I 77 (I 74 6).toNatClampNeg x1) 74 6 ((I 74 6) + 1)), F, L, t) else ((-4), I, F, L, t)) else ((-2), I, F, L, t))
theorem ci_191 {l : LX} {d : Nat} {I : Nat → Nat → Int32} {F : Nat → Nat → UInt32} {L : Nat → Nat → Int64} {t : Nat} {x1 : Int32} (p1 : (¬ (sp_170 (Int32.toInt64 x1) (0 : Int64) (255 : Int64)) = 0) → (¬ (I 74 6) = 160) → vp_in (I 74 6) 160) : Con l 191 (d + 1) 0 0 [.ref 74, .int x1] SH (I, F, L, RT t) (rT (fn_191 I F L t x1)) := by
  refine cn_191 ?_
  unfold fn_191
  refine bk_191_0 (cs_170 (d := d + 0) ) ?_
  refine bk_191_9 (fun h0 => ?_) (fun h0 => ?_)
  · rw [if_pos h0]
    refine bk_191_15 (fun h1 => ?_) (fun h1 => ?_)
    · rw [if_pos h1]
      exact bk_191_28 (p1 h0 h1) ⟨rfl, rfl, rfl⟩
    · rw [if_neg h1]
      exact bk_191_25 ⟨rfl, rfl, rfl⟩
  · rw [if_neg h0]
    exact bk_191_12 ⟨rfl, rfl, rfl⟩
/-- VectorShelfModel.byteAt(I)I -/
def sp_195 (I : Nat → Nat → Int32) (x1 : Int32) : Int32 := (if (I 74 26) ≤ x1 then (-1) else (I 75 ((I 74 25) + x1).toNatClampNeg))
theorem cs_195 {l : LX} {d : Nat} {I : Nat → Nat → Int32} {F : Nat → Nat → UInt32} {L : Nat → Nat → Int64} {t : Nat} {x1 : Int32} (p1 : (¬ ((I 74 26) ≤ x1)) → vp_in ((I 74 25) + x1) 960) : Con l 195 (d + 0) 0 0 [.ref 74, .int x1] SH (I, F, L, RT t) (rI (sp_195 I x1) (I, F, L, RT t)) := by
  refine cn_195 ?_
  unfold sp_195
  refine bk_195_0 (fun h0 => ?_) (fun h0 => ?_)
  · rw [if_pos h0]
    refine bk_195_22 ?_
    exact bk_195_23 ⟨rfl, rfl, rfl⟩
  · rw [if_neg h0]
    refine bk_195_8 (p1 h0) ?_
    exact bk_195_23 ⟨rfl, rfl, rfl⟩
/-- VectorShelfModel.isLetter(II)Z -/
def sp_197 (I : Nat → Nat → Int32) (x1 : Int32) (x2 : Int32) : Int32 := (if (I 74 27) ≤ ((I 74 29) + x1) then (if ¬ x2 = 0 then 0 else 1) else (if ¬ (sp_195 I ((I 74 29) + x1)) = x2 then 0 else 1))
theorem cs_197 {l : LX} {d : Nat} {I : Nat → Nat → Int32} {F : Nat → Nat → UInt32} {L : Nat → Nat → Int64} {t : Nat} {x1 : Int32} {x2 : Int32} (p1 : (¬ ((I 74 27) ≤ ((I 74 29) + x1))) → ((¬ ((I 74 26) ≤ ((I 74 29) + x1))) → vp_in ((I 74 25) + ((I 74 29) + x1)) 960)) : Con l 197 (d + 1) 0 0 [.ref 74, .int x1, .int x2] SH (I, F, L, RT t) (rI (sp_197 I x1 x2) (I, F, L, RT t)) := by
  refine cn_197 ?_
  unfold sp_197
  refine bk_197_0 (fun h0 => ?_) (fun h0 => ?_)
  · rw [if_pos h0]
    refine bk_197_35 (fun h1 => ?_) (fun h1 => ?_)
    · rw [if_pos h1]
      refine bk_197_43 ?_
      exact bk_197_44 (by decide) ⟨rfl, rfl, rfl⟩
    · rw [if_neg h1]
      refine bk_197_39 ?_
      exact bk_197_44 (by decide) ⟨rfl, rfl, rfl⟩
  · rw [if_neg h0]
    refine bk_197_13 (cs_195 (d := d + 0) (p1 h0)) ?_
    refine bk_197_23 (fun h1 => ?_) (fun h1 => ?_)
    · rw [if_pos h1]
      refine bk_197_31 ?_
      exact bk_197_44 (by decide) ⟨rfl, rfl, rfl⟩
    · rw [if_neg h1]
      refine bk_197_27 ?_
      exact bk_197_44 (by decide) ⟨rfl, rfl, rfl⟩
theorem sb_197 (I : Nat → Nat → Int32) (x1 : Int32) (x2 : Int32) : (sp_197 I x1 x2) &&& 1 = (sp_197 I x1 x2) := by
  unfold sp_197
  repeat' split
  all_goals first | rfl
/-- VectorShelfModel.fail()V -/
def fn_199 (I : Nat → Nat → Int32) (F : Nat → Nat → UInt32) (L : Nat → Nat → Int64) (t : Nat) : (Nat → Nat → Int32) × (Nat → Nat → UInt32) × (Nat → Nat → Int64) × Nat := (if ¬ (I 74 32) = 0 then (I, F, L, t) else ((up2 (up2 I 74 32 1) 74 33 (I 74 29)), F, L, t))
theorem ci_199 {l : LX} {d : Nat} {I : Nat → Nat → Int32} {F : Nat → Nat → UInt32} {L : Nat → Nat → Int64} {t : Nat} : Con l 199 (d + 0) 0 0 [.ref 74] SH (I, F, L, RT t) (rTV (fn_199 I F L t)) := by
  refine cn_199 ?_
  unfold fn_199
  refine bk_199_0 (fun h0 => ?_) (fun h0 => ?_)
  · rw [if_pos h0]
    exact bk_199_20 ⟨rfl, rfl, rfl⟩
  · rw [if_neg h0]
    refine bk_199_7 ?_
    exact bk_199_20 ⟨rfl, rfl, rfl⟩
/-- VectorShelfModel.isSign(I)Z -/
def sp_207 (I : Nat → Nat → Int32) (L : Nat → Nat → Int64) (x1 : Int32) : Int32 := (if ¬ (I 74 32) = 0 then 0 else (if ¬ (I 74 28) = 3 then 0 else (if ¬ (lg_cmp (L 74 30) (Int32.toInt64 x1)) = 0 then 0 else 1)))
theorem cs_207 {l : LX} {d : Nat} {I : Nat → Nat → Int32} {F : Nat → Nat → UInt32} {L : Nat → Nat → Int64} {t : Nat} {x1 : Int32} : Con l 207 (d + 0) 0 0 [.ref 74, .int x1] SH (I, F, L, RT t) (rI (sp_207 I L x1) (I, F, L, RT t)) := by
  refine cn_207 ?_
  unfold sp_207
  refine bk_207_0 (fun h0 => ?_) (fun h0 => ?_)
  · rw [if_pos h0]
    refine bk_207_29 ?_
    exact bk_207_30 (by decide) ⟨rfl, rfl, rfl⟩
  · rw [if_neg h0]
    refine bk_207_7 (fun h1 => ?_) (fun h1 => ?_)
    · rw [if_pos h1]
      refine bk_207_29 ?_
      exact bk_207_30 (by decide) ⟨rfl, rfl, rfl⟩
    · rw [if_neg h1]
      refine bk_207_15 (fun h2 => ?_) (fun h2 => ?_)
      · rw [if_pos h2]
        refine bk_207_29 ?_
        exact bk_207_30 (by decide) ⟨rfl, rfl, rfl⟩
      · rw [if_neg h2]
        refine bk_207_25 ?_
        exact bk_207_30 (by decide) ⟨rfl, rfl, rfl⟩
theorem sb_207 (I : Nat → Nat → Int32) (L : Nat → Nat → Int64) (x1 : Int32) : (sp_207 I L x1) &&& 1 = (sp_207 I L x1) := by
  unfold sp_207
  repeat' split
  all_goals first | rfl
/-- VectorShelfModel.force(I)I -/
def fn_209 (I : Nat → Nat → Int32) (F : Nat → Nat → UInt32) (L : Nat → Nat → Int64) (t : Nat) (x1 : Int32) : Int32 × (Nat → Nat → Int32) × (Nat → Nat → UInt32) × (Nat → Nat → Int64) × Nat := (if ¬ (sp_170 (Int32.toInt64 x1) (0 : Int64) (Int32.toInt64 ((I 74 3) - 1))) = 0 then ((I 74 4), (up2 I 74 4 x1), F, L, t) else ((-2), I, F, L, t))
theorem ci_209 {l : LX} {d : Nat} {I : Nat → Nat → Int32} {F : Nat → Nat → UInt32} {L : Nat → Nat → Int64} {t : Nat} {x1 : Int32} : Con l 209 (d + 1) 0 0 [.ref 74, .int x1] SH (I, F, L, RT t) (rT (fn_209 I F L t x1)) := by
  refine cn_209 ?_
  unfold fn_209
  refine bk_209_0 (cs_170 (d := d + 0) ) ?_
  refine bk_209_13 (fun h0 => ?_) (fun h0 => ?_)
  · rw [if_pos h0]
    exact bk_209_19 ⟨rfl, rfl, rfl⟩
  · rw [if_neg h0]
    exact bk_209_16 ⟨rfl, rfl, rfl⟩
/-- VectorShelfModel.floor(II)I -/
def sp_212 (x0 : Int32) (x1 : Int32) : Int32 := (if 0 ≤ (x0 - x0 / x1 * x1) then (x0 / x1) else ((x0 / x1) - 1))
theorem cs_212 {l : LX} {d : Nat} {I : Nat → Nat → Int32} {F : Nat → Nat → UInt32} {L : Nat → Nat → Int64} {t : Nat} {x0 : Int32} {x1 : Int32} (p1 : ¬ (x1 : Int32) = 0) : Con l 212 (d + 0) 0 0 [.int x0, .int x1] SH (I, F, L, RT t) (rI (sp_212 x0 x1) (I, F, L, RT t)) := by
  refine cn_212 ?_
  unfold sp_212
  refine bk_212_0 p1 (fun h0 => ?_) (fun h0 => ?_)
  · rw [if_pos h0]
    refine bk_212_16 ?_
    exact bk_212_17 ⟨rfl, rfl, rfl⟩
  · rw [if_neg h0]
    refine bk_212_10 ?_
    exact bk_212_17 ⟨rfl, rfl, rfl⟩
/-- VectorShelfModel.held(III)I -/
def sp_216 (x0 : Int32) (x1 : Int32) (x2 : Int32) : Int32 := (if x1 ≤ x0 then (if x0 ≤ x2 then x0 else x2) else x1)
theorem cs_216 {l : LX} {d : Nat} {I : Nat → Nat → Int32} {F : Nat → Nat → UInt32} {L : Nat → Nat → Int64} {t : Nat} {x0 : Int32} {x1 : Int32} {x2 : Int32} : Con l 216 (d + 0) 0 0 [.int x0, .int x1, .int x2] SH (I, F, L, RT t) (rI (sp_216 x0 x1 x2) (I, F, L, RT t)) := by
  refine cn_216 ?_
  unfold sp_216
  refine bk_216_0 (fun h0 => ?_) (fun h0 => ?_)
  · rw [if_pos h0]
    refine bk_216_9 (fun h1 => ?_) (fun h1 => ?_)
    · rw [if_pos h1]
      refine bk_216_18 ?_
      exact bk_216_19 ⟨rfl, rfl, rfl⟩
    · rw [if_neg h1]
      refine bk_216_14 ?_
      exact bk_216_19 ⟨rfl, rfl, rfl⟩
  · rw [if_neg h0]
    refine bk_216_5 ?_
    exact bk_216_19 ⟨rfl, rfl, rfl⟩
/-- VectorShelfModel.outside(III)I -/
def sp_220 (x0 : Int32) (x1 : Int32) (x2 : Int32) : Int32 := (if x1 ≤ x0 then (if x0 ≤ x2 then 0 else (x0 - x2)) else (x1 - x0))
theorem cs_220 {l : LX} {d : Nat} {I : Nat → Nat → Int32} {F : Nat → Nat → UInt32} {L : Nat → Nat → Int64} {t : Nat} {x0 : Int32} {x1 : Int32} {x2 : Int32} : Con l 220 (d + 0) 0 0 [.int x0, .int x1, .int x2] SH (I, F, L, RT t) (rI (sp_220 x0 x1 x2) (I, F, L, RT t)) := by
  refine cn_220 ?_
  unfold sp_220
  refine bk_220_0 (fun h0 => ?_) (fun h0 => ?_)
  · rw [if_pos h0]
    refine bk_220_11 (fun h1 => ?_) (fun h1 => ?_)
    · rw [if_pos h1]
      refine bk_220_22 ?_
      exact bk_220_23 ⟨rfl, rfl, rfl⟩
    · rw [if_neg h1]
      refine bk_220_16 ?_
      exact bk_220_23 ⟨rfl, rfl, rfl⟩
  · rw [if_neg h0]
    refine bk_220_5 ?_
    exact bk_220_23 ⟨rfl, rfl, rfl⟩
/-- VectorShelfModel.termF(II)F -/
def sp_222 (I : Nat → Nat → Int32) (x1 : Int32) (x2 : Int32) : UInt32 := (if (sp_187 I) = 0 then (if (I 78 3) = 2 then (FP.i2f x1) else (if ¬ (I 78 3) = 4 then (if ¬ (I 78 3) = 0 then (FP.fmul (FP.fmul (FP.i2f x1) (FP.i2f x1)) (FP.i2f (I 78 (4 + x2).toNatClampNeg))) else (FP.fmul (FP.i2f x1) (FP.i2f x1))) else (FP.i2f x1))) else (if (I 78 3) = 2 then (FP.i2f (sp_188 I x1)) else (if ¬ (I 78 3) = 4 then (if ¬ (I 78 3) = 0 then (FP.fmul (FP.fmul (FP.i2f (sp_188 I x1)) (FP.i2f (sp_188 I x1))) (FP.i2f (I 78 (4 + x2).toNatClampNeg))) else (FP.fmul (FP.i2f (sp_188 I x1)) (FP.i2f (sp_188 I x1)))) else (FP.i2f (sp_188 I x1)))))
theorem cs_222 {l : LX} {d : Nat} {I : Nat → Nat → Int32} {F : Nat → Nat → UInt32} {L : Nat → Nat → Int64} {t : Nat} {x1 : Int32} {x2 : Int32} (p1 : ((sp_187 I) = 0) → (¬ ((I 78 3) = 2)) → (¬ (I 78 3) = 4) → vf_n32 (FP.fmul (FP.i2f x1) (FP.i2f x1))) (p2 : ((sp_187 I) = 0) → (¬ ((I 78 3) = 2)) → (¬ (I 78 3) = 4) → (¬ (I 78 3) = 0) → vp_in (4 + x2) 7) (p3 : ((sp_187 I) = 0) → (¬ ((I 78 3) = 2)) → (¬ (I 78 3) = 4) → (¬ (I 78 3) = 0) → vf_n32 (FP.fmul (FP.fmul (FP.i2f x1) (FP.i2f x1)) (FP.i2f (I 78 (4 + x2).toNatClampNeg)))) (p4 : (¬ ((sp_187 I) = 0)) → (¬ ((I 78 3) = 2)) → (¬ (I 78 3) = 4) → vf_n32 (FP.fmul (FP.i2f (sp_188 I x1)) (FP.i2f (sp_188 I x1)))) (p5 : (¬ ((sp_187 I) = 0)) → (¬ ((I 78 3) = 2)) → (¬ (I 78 3) = 4) → (¬ (I 78 3) = 0) → vp_in (4 + x2) 7) (p6 : (¬ ((sp_187 I) = 0)) → (¬ ((I 78 3) = 2)) → (¬ (I 78 3) = 4) → (¬ (I 78 3) = 0) → vf_n32 (FP.fmul (FP.fmul (FP.i2f (sp_188 I x1)) (FP.i2f (sp_188 I x1))) (FP.i2f (I 78 (4 + x2).toNatClampNeg)))) : Con l 222 (d + 1) 0 0 [.ref 74, .int x1, .int x2] SH (I, F, L, RT t) (rF (sp_222 I x1 x2) (I, F, L, RT t)) := by
  refine cn_222 ?_
  unfold sp_222
  refine bk_222_0 (cs_187 (d := d + 0) ) ?_
  refine bk_222_4 (fun h0 => ?_) (fun h0 => ?_)
  · rw [if_pos h0]
    refine bk_222_15 ?_
    refine bk_222_16 (fun h1 => ?_) (fun h1 => ?_)
    · rw [if_pos h1]
      exact bk_222_38 ⟨rfl, rfl, rfl⟩
    · rw [if_neg h1]
      refine bk_222_28 (fun h2 => ?_) (fun h2 => ?_)
      · rw [if_pos h2]
        refine bk_222_40 (p1 h0 h1 h2) (fun h3 => ?_) (fun h3 => ?_)
        · rw [if_pos h3]
          refine bk_222_59 (p2 h0 h1 h2 h3) (p3 h0 h1 h2 h3) ?_
          exact bk_222_71 ⟨rfl, rfl, rfl⟩
        · rw [if_neg h3]
          refine bk_222_54 ?_
          exact bk_222_71 ⟨rfl, rfl, rfl⟩
      · rw [if_neg h2]
        exact bk_222_38 ⟨rfl, rfl, rfl⟩
  · rw [if_neg h0]
    refine bk_222_7 (cs_188 (d := d + 0) ) ?_
    refine bk_222_12 ?_
    refine bk_222_16 (fun h1 => ?_) (fun h1 => ?_)
    · rw [if_pos h1]
      exact bk_222_38 ⟨rfl, rfl, rfl⟩
    · rw [if_neg h1]
      refine bk_222_28 (fun h2 => ?_) (fun h2 => ?_)
      · rw [if_pos h2]
        refine bk_222_40 (p4 h0 h1 h2) (fun h3 => ?_) (fun h3 => ?_)
        · rw [if_pos h3]
          refine bk_222_59 (p5 h0 h1 h2 h3) (p6 h0 h1 h2 h3) ?_
          exact bk_222_71 ⟨rfl, rfl, rfl⟩
        · rw [if_neg h3]
          refine bk_222_54 ?_
          exact bk_222_71 ⟨rfl, rfl, rfl⟩
      · rw [if_neg h2]
        exact bk_222_38 ⟨rfl, rfl, rfl⟩
/-- VectorShelfModel.isCell(I)Z -/
def sp_224 (I : Nat → Nat → Int32) (x1 : Int32) : Int32 := (sp_170 (Int32.toInt64 x1) (0 : Int64) (Int32.toInt64 ((I 74 13) - 1)))
theorem cs_224 {l : LX} {d : Nat} {I : Nat → Nat → Int32} {F : Nat → Nat → UInt32} {L : Nat → Nat → Int64} {t : Nat} {x1 : Int32} : Con l 224 (d + 1) 0 0 [.ref 74, .int x1] SH (I, F, L, RT t) (rI (sp_224 I x1) (I, F, L, RT t)) := by
  refine cn_224 ?_
  unfold sp_224
  refine bk_224_0 (cs_170 (d := d + 0) ) ?_
  exact bk_224_13 (sb_170 ..) ⟨rfl, rfl, rfl⟩
theorem sb_224 (I : Nat → Nat → Int32) (x1 : Int32) : (sp_224 I x1) &&& 1 = (sp_224 I x1) := by
  unfold sp_224
  repeat' split
  all_goals first | rfl | exact sb_170 ..
/-- VectorShelfModel.outsideBox(II)I -/
def sp_226 (I : Nat → Nat → Int32) (x1 : Int32) (x2 : Int32) : Int32 := (sp_220 (I 79 x2.toNatClampNeg) (I 81 ((3 * x1) + x2).toNatClampNeg) (I 82 ((3 * x1) + x2).toNatClampNeg))
theorem cs_226 {l : LX} {d : Nat} {I : Nat → Nat → Int32} {F : Nat → Nat → UInt32} {L : Nat → Nat → Int64} {t : Nat} {x1 : Int32} {x2 : Int32} (p1 : vp_in x2 3) (p2 : vp_in ((3 * x1) + x2) 12) : Con l 226 (d + 1) 0 0 [.ref 74, .int x1, .int x2] SH (I, F, L, RT t) (rI (sp_226 I x1 x2) (I, F, L, RT t)) := by
  refine cn_226 ?_
  unfold sp_226
  refine bk_226_0 p1 p2 (cs_220 (d := d + 0) ) ?_
  exact bk_226_29 ⟨rfl, rfl, rfl⟩
/-- VectorShelfModel.isAhead(II)Z -/
def sp_242 (I : Nat → Nat → Int32) (x1 : Int32) (x2 : Int32) : Int32 := (if (I 96 x1.toNatClampNeg) < (I 96 x2.toNatClampNeg) then 1 else (if ¬ (I 96 x1.toNatClampNeg) = (I 96 x2.toNatClampNeg) then 0 else (if x2 ≤ x1 then 0 else 1)))
theorem cs_242 {l : LX} {d : Nat} {I : Nat → Nat → Int32} {F : Nat → Nat → UInt32} {L : Nat → Nat → Int64} {t : Nat} {x1 : Int32} {x2 : Int32} (p1 : vp_in x1 12) (p2 : vp_in x2 12) (p3 : (¬ ((I 96 x1.toNatClampNeg) < (I 96 x2.toNatClampNeg))) → vp_in x1 12) (p4 : (¬ ((I 96 x1.toNatClampNeg) < (I 96 x2.toNatClampNeg))) → vp_in x2 12) : Con l 242 (d + 0) 0 0 [.ref 74, .int x1, .int x2] SH (I, F, L, RT t) (rI (sp_242 I x1 x2) (I, F, L, RT t)) := by
  refine cn_242 ?_
  unfold sp_242
  refine bk_242_0 p1 p2 (fun h0 => ?_) (fun h0 => ?_)
  · rw [if_pos h0]
    refine bk_242_35 ?_
    exact bk_242_40 (by decide) ⟨rfl, rfl, rfl⟩
  · rw [if_neg h0]
    refine bk_242_15 (p3 h0) (p4 h0) (fun h1 => ?_) (fun h1 => ?_)
    · rw [if_pos h1]
      refine bk_242_39 ?_
      exact bk_242_40 (by decide) ⟨rfl, rfl, rfl⟩
    · rw [if_neg h1]
      refine bk_242_30 (fun h2 => ?_) (fun h2 => ?_)
      · rw [if_pos h2]
        refine bk_242_39 ?_
        exact bk_242_40 (by decide) ⟨rfl, rfl, rfl⟩
      · rw [if_neg h2]
        refine bk_242_35 ?_
        exact bk_242_40 (by decide) ⟨rfl, rfl, rfl⟩
theorem sb_242 (I : Nat → Nat → Int32) (x1 : Int32) (x2 : Int32) : (sp_242 I x1 x2) &&& 1 = (sp_242 I x1 x2) := by
  unfold sp_242
  repeat' split
  all_goals first | rfl
/-- VectorShelfModel.isSheet(I)Z -/
def sp_262 (x0 : Int32) : Int32 := (sp_170 (Int32.toInt64 x0) (0 : Int64) (3 : Int64))
theorem cs_262 {l : LX} {d : Nat} {I : Nat → Nat → Int32} {F : Nat → Nat → UInt32} {L : Nat → Nat → Int64} {t : Nat} {x0 : Int32} : Con l 262 (d + 1) 0 0 [.int x0] SH (I, F, L, RT t) (rI (sp_262 x0) (I, F, L, RT t)) := by
  refine cn_262 ?_
  unfold sp_262
  refine bk_262_0 (cs_170 (d := d + 0) ) ?_
  exact bk_262_9 (sb_170 ..) ⟨rfl, rfl, rfl⟩
theorem sb_262 (x0 : Int32) : (sp_262 x0) &&& 1 = (sp_262 x0) := by
  unfold sp_262
  repeat' split
  all_goals first | rfl | exact sb_170 ..
/-- VectorShelfModel.itemOf(II)I -/
def sp_264 (I : Nat → Nat → Int32) (F : Nat → Nat → UInt32) (x1 : Int32) (x2 : Int32) : Int32 := (if (I 112 x1.toNatClampNeg) = 0 then (if (I 116 ((40 * x1) + x2).toNatClampNeg) = 0 then (FP.f2i (FP.fmul 1082130432 (F 115 ((40 * x1) + x2).toNatClampNeg))) else 0) else (I 114 ((40 * x1) + x2).toNatClampNeg))
theorem cs_264 {l : LX} {d : Nat} {I : Nat → Nat → Int32} {F : Nat → Nat → UInt32} {L : Nat → Nat → Int64} {t : Nat} {x1 : Int32} {x2 : Int32} (p1 : vp_in x1 4) (p2 : ((I 112 x1.toNatClampNeg) = 0) → vp_in ((40 * x1) + x2) 160) (p3 : ((I 112 x1.toNatClampNeg) = 0) → ((I 116 ((40 * x1) + x2).toNatClampNeg) = 0) → vp_in ((40 * x1) + x2) 160) (p4 : ((I 112 x1.toNatClampNeg) = 0) → ((I 116 ((40 * x1) + x2).toNatClampNeg) = 0) → vf_n32 (FP.fmul 1082130432 (F 115 ((40 * x1) + x2).toNatClampNeg))) (p5 : (¬ ((I 112 x1.toNatClampNeg) = 0)) → vp_in ((40 * x1) + x2) 160) : Con l 264 (d + 0) 0 0 [.ref 74, .int x1, .int x2] SH (I, F, L, RT t) (rI (sp_264 I F x1 x2) (I, F, L, RT t)) := by
  refine cn_264 ?_
  unfold sp_264
  refine bk_264_0 p1 (fun h0 => ?_) (fun h0 => ?_)
  · rw [if_pos h0]
    refine bk_264_23 (p2 h0) (fun h1 => ?_) (fun h1 => ?_)
    · rw [if_pos h1]
      refine bk_264_36 (p3 h0 h1) (p4 h0 h1) ?_
      exact bk_264_46 ⟨rfl, rfl, rfl⟩
    · rw [if_neg h1]
      refine bk_264_32 ?_
      exact bk_264_46 ⟨rfl, rfl, rfl⟩
  · rw [if_neg h0]
    exact bk_264_16 (p5 h0) ⟨rfl, rfl, rfl⟩
/-- VectorShelfModel.lays(III)V -/
def fn_265 (I : Nat → Nat → Int32) (F : Nat → Nat → UInt32) (L : Nat → Nat → Int64) (t : Nat) (x1 : Int32) (x2 : Int32) (x3 : Int32) : (Nat → Nat → Int32) × (Nat → Nat → UInt32) × (Nat → Nat → Int64) × Nat := (if ¬ x1 = 1 then (if ¬ x1 = 2 then (if ¬ x1 = 3 then ((up2 I 87 x2.toNatClampNeg x3), F, L, t) else ((up2 I 78 4 x3), F, L, t)) else ((up2 I 74 4 x3), F, L, t)) else ((up2 I 78 3 x3), F, L, t))
theorem ci_265 {l : LX} {d : Nat} {I : Nat → Nat → Int32} {F : Nat → Nat → UInt32} {L : Nat → Nat → Int64} {t : Nat} {x1 : Int32} {x2 : Int32} {x3 : Int32} (p1 : (¬ x1 = 1) → (¬ x1 = 2) → (¬ x1 = 3) → vp_in x2 12) : Con l 265 (d + 0) 0 0 [.ref 74, .int x1, .int x2, .int x3] SH (I, F, L, RT t) (rTV (fn_265 I F L t x1 x2 x3)) := by
  refine cn_265 ?_
  unfold fn_265
  refine bk_265_0 (fun h0 => ?_) (fun h0 => ?_)
  · rw [if_pos h0]
    refine bk_265_15 (fun h1 => ?_) (fun h1 => ?_)
    · rw [if_pos h1]
      refine bk_265_28 (fun h2 => ?_) (fun h2 => ?_)
      · rw [if_pos h2]
        refine bk_265_43 (p1 h0 h1 h2) ?_
        exact bk_265_50 ⟨rfl, rfl, rfl⟩
      · rw [if_neg h2]
        refine bk_265_33 ?_
        exact bk_265_50 ⟨rfl, rfl, rfl⟩
    · rw [if_neg h1]
      refine bk_265_20 ?_
      exact bk_265_50 ⟨rfl, rfl, rfl⟩
  · rw [if_neg h0]
    refine bk_265_5 ?_
    exact bk_265_50 ⟨rfl, rfl, rfl⟩
/-- VectorShelfModel.isItem(II)Z -/
def sp_272 (I : Nat → Nat → Int32) (x1 : Int32) (x2 : Int32) : Int32 := (sp_170 (Int32.toInt64 x2) (0 : Int64) (Int32.toInt64 ((I 113 x1.toNatClampNeg) - 1)))
theorem cs_272 {l : LX} {d : Nat} {I : Nat → Nat → Int32} {F : Nat → Nat → UInt32} {L : Nat → Nat → Int64} {t : Nat} {x1 : Int32} {x2 : Int32} (p1 : vp_in x1 4) : Con l 272 (d + 1) 0 0 [.ref 74, .int x1, .int x2] SH (I, F, L, RT t) (rI (sp_272 I x1 x2) (I, F, L, RT t)) := by
  refine cn_272 ?_
  unfold sp_272
  refine bk_272_0 p1 (cs_170 (d := d + 0) ) ?_
  exact bk_272_15 (sb_170 ..) ⟨rfl, rfl, rfl⟩
theorem sb_272 (I : Nat → Nat → Int32) (x1 : Int32) (x2 : Int32) : (sp_272 I x1 x2) &&& 1 = (sp_272 I x1 x2) := by
  unfold sp_272
  repeat' split
  all_goals first | rfl | exact sb_170 ..
/-- VectorShelfModel.blank(II)I -/
def fn_273 (I : Nat → Nat → Int32) (F : Nat → Nat → UInt32) (L : Nat → Nat → Int64) (t : Nat) (x1 : Int32) (x2 : Int32) : Int32 × (Nat → Nat → Int32) × (Nat → Nat → UInt32) × (Nat → Nat → Int64) × Nat := (if ¬ (sp_262 x1) = 0 then (if ¬ (I 111 x1.toNatClampNeg) = 0 then (if (I 112 x1.toNatClampNeg) = 0 then (if ¬ (sp_272 I x1 x2) = 0 then (1, (up2 I 116 ((40 * x1) + x2).toNatClampNeg (vp_nar (bT 0) 1)), F, L, t) else ((-12), I, F, L, t)) else ((-13), I, F, L, t)) else ((-11), I, F, L, t)) else ((-2), I, F, L, t))
theorem ci_273 {l : LX} {d : Nat} {I : Nat → Nat → Int32} {F : Nat → Nat → UInt32} {L : Nat → Nat → Int64} {t : Nat} {x1 : Int32} {x2 : Int32} (p1 : (¬ (sp_262 x1) = 0) → vp_in x1 4) (p2 : (¬ (sp_262 x1) = 0) → (¬ (I 111 x1.toNatClampNeg) = 0) → vp_in x1 4) (p3 : (¬ (sp_262 x1) = 0) → (¬ (I 111 x1.toNatClampNeg) = 0) → ((I 112 x1.toNatClampNeg) = 0) → (vp_in x1 4)) (p4 : (¬ (sp_262 x1) = 0) → (¬ (I 111 x1.toNatClampNeg) = 0) → ((I 112 x1.toNatClampNeg) = 0) → (¬ (sp_272 I x1 x2) = 0) → vp_in ((40 * x1) + x2) 160) : Con l 273 (d + 2) 0 0 [.ref 74, .int x1, .int x2] SH (I, F, L, RT t) (rT (fn_273 I F L t x1 x2)) := by
  refine cn_273 ?_
  unfold fn_273
  refine bk_273_0 (cs_262 (d := d + 0) ) ?_
  refine bk_273_4 (fun h0 => ?_) (fun h0 => ?_)
  · rw [if_pos h0]
    refine bk_273_10 (p1 h0) (fun h1 => ?_) (fun h1 => ?_)
    · rw [if_pos h1]
      refine bk_273_22 (p2 h0 h1) (fun h2 => ?_) (fun h2 => ?_)
      · rw [if_pos h2]
        refine bk_273_34 (cs_272 (d := d + 0) (p3 h0 h1 h2)) ?_
        refine bk_273_40 (fun h3 => ?_) (fun h3 => ?_)
        · rw [if_pos h3]
          exact bk_273_46 (p4 h0 h1 h2 h3) ⟨rfl, rfl, rfl⟩
        · rw [if_neg h3]
          exact bk_273_43 ⟨rfl, rfl, rfl⟩
      · rw [if_neg h2]
        exact bk_273_31 ⟨rfl, rfl, rfl⟩
    · rw [if_neg h1]
      exact bk_273_19 ⟨rfl, rfl, rfl⟩
  · rw [if_neg h0]
    exact bk_273_7 ⟨rfl, rfl, rfl⟩
/-- VectorShelfModel.item(II)I -/
def sp_274 (I : Nat → Nat → Int32) (F : Nat → Nat → UInt32) (x1 : Int32) (x2 : Int32) : Int32 := (if (sp_262 x1) = 0 then (-99999) else (if (I 111 x1.toNatClampNeg) = 0 then (-99999) else (if (sp_272 I x1 x2) = 0 then (-99999) else (sp_264 I F x1 x2))))
theorem cs_274 {l : LX} {d : Nat} {I : Nat → Nat → Int32} {F : Nat → Nat → UInt32} {L : Nat → Nat → Int64} {t : Nat} {x1 : Int32} {x2 : Int32} (p1 : (¬ ((sp_262 x1) = 0)) → vp_in x1 4) (p2 : (¬ ((sp_262 x1) = 0)) → (¬ ((I 111 x1.toNatClampNeg) = 0)) → (vp_in x1 4)) (p3 : (¬ ((sp_262 x1) = 0)) → (¬ ((I 111 x1.toNatClampNeg) = 0)) → (¬ ((sp_272 I x1 x2) = 0)) → (vp_in x1 4)) (p4 : (¬ ((sp_262 x1) = 0)) → (¬ ((I 111 x1.toNatClampNeg) = 0)) → (¬ ((sp_272 I x1 x2) = 0)) → (((I 112 x1.toNatClampNeg) = 0) → vp_in ((40 * x1) + x2) 160)) (p5 : (¬ ((sp_262 x1) = 0)) → (¬ ((I 111 x1.toNatClampNeg) = 0)) → (¬ ((sp_272 I x1 x2) = 0)) → (((I 112 x1.toNatClampNeg) = 0) → ((I 116 ((40 * x1) + x2).toNatClampNeg) = 0) → vp_in ((40 * x1) + x2) 160)) (p6 : (¬ ((sp_262 x1) = 0)) → (¬ ((I 111 x1.toNatClampNeg) = 0)) → (¬ ((sp_272 I x1 x2) = 0)) → (((I 112 x1.toNatClampNeg) = 0) → ((I 116 ((40 * x1) + x2).toNatClampNeg) = 0) → vf_n32 (FP.fmul 1082130432 (F 115 ((40 * x1) + x2).toNatClampNeg)))) (p7 : (¬ ((sp_262 x1) = 0)) → (¬ ((I 111 x1.toNatClampNeg) = 0)) → (¬ ((sp_272 I x1 x2) = 0)) → ((¬ ((I 112 x1.toNatClampNeg) = 0)) → vp_in ((40 * x1) + x2) 160)) : Con l 274 (d + 2) 0 0 [.ref 74, .int x1, .int x2] SH (I, F, L, RT t) (rI (sp_274 I F x1 x2) (I, F, L, RT t)) := by
  refine cn_274 ?_
  unfold sp_274
  refine bk_274_0 (cs_262 (d := d + 0) ) ?_
  refine bk_274_4 (fun h0 => ?_) (fun h0 => ?_)
  · rw [if_pos h0]
    refine bk_274_34 ?_
    exact bk_274_37 ⟨rfl, rfl, rfl⟩
  · rw [if_neg h0]
    refine bk_274_7 (p1 h0) (fun h1 => ?_) (fun h1 => ?_)
    · rw [if_pos h1]
      refine bk_274_34 ?_
      exact bk_274_37 ⟨rfl, rfl, rfl⟩
    · rw [if_neg h1]
      refine bk_274_16 (cs_272 (d := d + 0) (p2 h0 h1)) ?_
      refine bk_274_22 (fun h2 => ?_) (fun h2 => ?_)
      · rw [if_pos h2]
        refine bk_274_34 ?_
        exact bk_274_37 ⟨rfl, rfl, rfl⟩
      · rw [if_neg h2]
        refine bk_274_25 (cs_264 (d := d + 1) (p3 h0 h1 h2) (p4 h0 h1 h2) (p5 h0 h1 h2) (p6 h0 h1 h2) (p7 h0 h1 h2)) ?_
        refine bk_274_31 ?_
        exact bk_274_37 ⟨rfl, rfl, rfl⟩
/-- VectorShelfModel.rest(III)I -/
def sp_276 (I : Nat → Nat → Int32) (x1 : Int32) (x2 : Int32) (x3 : Int32) : Int32 := (if ¬ (sp_262 x1) = 0 then (if ¬ (I 111 x1.toNatClampNeg) = 0 then (if (I 112 x1.toNatClampNeg) = 1 then (if (sp_272 I x1 x2) = 0 then (-12) else (if ¬ (sp_272 I x1 x3) = 0 then (if ¬ (I 114 ((40 * x1) + x3).toNatClampNeg) = 0 then ((I 114 ((40 * x1) + x2).toNatClampNeg) - (I 114 ((40 * x1) + x2).toNatClampNeg) / (I 114 ((40 * x1) + x3).toNatClampNeg) * (I 114 ((40 * x1) + x3).toNatClampNeg)) else (-15)) else (-12))) else (-13)) else (-11)) else (-2))
theorem cs_276 {l : LX} {d : Nat} {I : Nat → Nat → Int32} {F : Nat → Nat → UInt32} {L : Nat → Nat → Int64} {t : Nat} {x1 : Int32} {x2 : Int32} {x3 : Int32} (p1 : (¬ (sp_262 x1) = 0) → vp_in x1 4) (p2 : (¬ (sp_262 x1) = 0) → (¬ (I 111 x1.toNatClampNeg) = 0) → vp_in x1 4) (p3 : (¬ (sp_262 x1) = 0) → (¬ (I 111 x1.toNatClampNeg) = 0) → ((I 112 x1.toNatClampNeg) = 1) → (vp_in x1 4)) (p4 : (¬ (sp_262 x1) = 0) → (¬ (I 111 x1.toNatClampNeg) = 0) → ((I 112 x1.toNatClampNeg) = 1) → (¬ ((sp_272 I x1 x2) = 0)) → (vp_in x1 4)) (p5 : (¬ (sp_262 x1) = 0) → (¬ (I 111 x1.toNatClampNeg) = 0) → ((I 112 x1.toNatClampNeg) = 1) → (¬ ((sp_272 I x1 x2) = 0)) → (¬ (sp_272 I x1 x3) = 0) → vp_in ((40 * x1) + x3) 160) (p6 : (¬ (sp_262 x1) = 0) → (¬ (I 111 x1.toNatClampNeg) = 0) → ((I 112 x1.toNatClampNeg) = 1) → (¬ ((sp_272 I x1 x2) = 0)) → (¬ (sp_272 I x1 x3) = 0) → (¬ (I 114 ((40 * x1) + x3).toNatClampNeg) = 0) → vp_in ((40 * x1) + x2) 160) (p7 : (¬ (sp_262 x1) = 0) → (¬ (I 111 x1.toNatClampNeg) = 0) → ((I 112 x1.toNatClampNeg) = 1) → (¬ ((sp_272 I x1 x2) = 0)) → (¬ (sp_272 I x1 x3) = 0) → (¬ (I 114 ((40 * x1) + x3).toNatClampNeg) = 0) → ¬ ((I 114 ((40 * x1) + x3).toNatClampNeg) : Int32) = 0) : Con l 276 (d + 2) 0 0 [.ref 74, .int x1, .int x2, .int x3] SH (I, F, L, RT t) (rI (sp_276 I x1 x2 x3) (I, F, L, RT t)) := by
  refine cn_276 ?_
  unfold sp_276
  refine bk_276_0 (cs_262 (d := d + 0) ) ?_
  refine bk_276_4 (fun h0 => ?_) (fun h0 => ?_)
  · rw [if_pos h0]
    refine bk_276_10 (p1 h0) (fun h1 => ?_) (fun h1 => ?_)
    · rw [if_pos h1]
      refine bk_276_22 (p2 h0 h1) (fun h2 => ?_) (fun h2 => ?_)
      · rw [if_pos h2]
        refine bk_276_35 (cs_272 (d := d + 0) (p3 h0 h1 h2)) ?_
        refine bk_276_41 (fun h3 => ?_) (fun h3 => ?_)
        · rw [if_pos h3]
          exact bk_276_53 ⟨rfl, rfl, rfl⟩
        · rw [if_neg h3]
          refine bk_276_44 (cs_272 (d := d + 0) (p4 h0 h1 h2 h3)) ?_
          refine bk_276_50 (fun h4 => ?_) (fun h4 => ?_)
          · rw [if_pos h4]
            refine bk_276_56 (p5 h0 h1 h2 h3 h4) (fun h5 => ?_) (fun h5 => ?_)
            · rw [if_pos h5]
              refine bk_276_79 (p6 h0 h1 h2 h3 h4 h5) (p7 h0 h1 h2 h3 h4 h5) ?_
              exact bk_276_93 ⟨rfl, rfl, rfl⟩
            · rw [if_neg h5]
              refine bk_276_74 ?_
              exact bk_276_93 ⟨rfl, rfl, rfl⟩
          · rw [if_neg h4]
            exact bk_276_53 ⟨rfl, rfl, rfl⟩
      · rw [if_neg h2]
        exact bk_276_32 ⟨rfl, rfl, rfl⟩
    · rw [if_neg h1]
      exact bk_276_19 ⟨rfl, rfl, rfl⟩
  · rw [if_neg h0]
    exact bk_276_7 ⟨rfl, rfl, rfl⟩
/-- VectorShelfModel.over(I)I -/
def sp_281 (x0 : Int32) : Int32 := (if ¬ x0 = 0 then (if ¬ x0 = 3 then (if ¬ x0 = 4 then (if ¬ x0 = 5 then 0 else 3) else 2) else 1) else (-1))
theorem cs_281 {l : LX} {d : Nat} {I : Nat → Nat → Int32} {F : Nat → Nat → UInt32} {L : Nat → Nat → Int64} {t : Nat} {x0 : Int32} : Con l 281 (d + 0) 0 0 [.int x0] SH (I, F, L, RT t) (rI (sp_281 x0) (I, F, L, RT t)) := by
  refine cn_281 ?_
  unfold sp_281
  refine bk_281_0 (fun h0 => ?_) (fun h0 => ?_)
  · rw [if_pos h0]
    refine bk_281_8 (fun h1 => ?_) (fun h1 => ?_)
    · rw [if_pos h1]
      refine bk_281_17 (fun h2 => ?_) (fun h2 => ?_)
      · rw [if_pos h2]
        refine bk_281_26 (fun h3 => ?_) (fun h3 => ?_)
        · rw [if_pos h3]
          refine bk_281_35 ?_
          exact bk_281_36 ⟨rfl, rfl, rfl⟩
        · rw [if_neg h3]
          refine bk_281_31 ?_
          exact bk_281_36 ⟨rfl, rfl, rfl⟩
      · rw [if_neg h2]
        refine bk_281_22 ?_
        exact bk_281_36 ⟨rfl, rfl, rfl⟩
    · rw [if_neg h1]
      refine bk_281_13 ?_
      exact bk_281_36 ⟨rfl, rfl, rfl⟩
  · rw [if_neg h0]
    refine bk_281_4 ?_
    exact bk_281_36 ⟨rfl, rfl, rfl⟩
/-- java/lang/Math.min(II)I -/
def sp_282 (x0 : Int32) (x1 : Int32) : Int32 := (if x1 < x0 then x1 else x0)
theorem cs_282 {l : LX} {d : Nat} {I : Nat → Nat → Int32} {F : Nat → Nat → UInt32} {L : Nat → Nat → Int64} {t : Nat} {x0 : Int32} {x1 : Int32} : Con l 282 (d + 0) 0 0 [.int x0, .int x1] SH (I, F, L, RT t) (rI (sp_282 x0 x1) (I, F, L, RT t)) := by
  refine cn_282 ?_
  unfold sp_282
  refine bk_282_0 (fun h0 => ?_) (fun h0 => ?_)
  · rw [if_pos h0]
    refine bk_282_9 ?_
    exact bk_282_10 ⟨rfl, rfl, rfl⟩
  · rw [if_neg h0]
    refine bk_282_5 ?_
    exact bk_282_10 ⟨rfl, rfl, rfl⟩
/-- java/lang/Math.max(II)I -/
def sp_283 (x0 : Int32) (x1 : Int32) : Int32 := (if x0 < x1 then x1 else x0)
theorem cs_283 {l : LX} {d : Nat} {I : Nat → Nat → Int32} {F : Nat → Nat → UInt32} {L : Nat → Nat → Int64} {t : Nat} {x0 : Int32} {x1 : Int32} : Con l 283 (d + 0) 0 0 [.int x0, .int x1] SH (I, F, L, RT t) (rI (sp_283 x0 x1) (I, F, L, RT t)) := by
  refine cn_283 ?_
  unfold sp_283
  refine bk_283_0 (fun h0 => ?_) (fun h0 => ?_)
  · rw [if_pos h0]
    refine bk_283_9 ?_
    exact bk_283_10 ⟨rfl, rfl, rfl⟩
  · rw [if_neg h0]
    refine bk_283_5 ?_
    exact bk_283_10 ⟨rfl, rfl, rfl⟩
/-- java/lang/Math.floorDiv(II)I -/
def sp_284 (x0 : Int32) (x1 : Int32) : Int32 := (if 0 ≤ (x0 ^^^ x1) then (x0 / x1) else (if ((x0 / x1) * x1) = x0 then (x0 / x1) else ((x0 / x1) - 1)))
theorem cs_284 {l : LX} {d : Nat} {I : Nat → Nat → Int32} {F : Nat → Nat → UInt32} {L : Nat → Nat → Int64} {t : Nat} {x0 : Int32} {x1 : Int32} (p1 : ¬ (x1 : Int32) = 0) : Con l 284 (d + 0) 0 0 [.int x0, .int x1] SH (I, F, L, RT t) (rI (sp_284 x0 x1) (I, F, L, RT t)) := by
  refine cn_284 ?_
  unfold sp_284
  refine bk_284_0 p1 (fun h0 => ?_) (fun h0 => ?_)
  · rw [if_pos h0]
    exact bk_284_21 ⟨rfl, rfl, rfl⟩
  · rw [if_neg h0]
    refine bk_284_10 (fun h1 => ?_) (fun h1 => ?_)
    · rw [if_pos h1]
      exact bk_284_21 ⟨rfl, rfl, rfl⟩
    · rw [if_neg h1]
      exact bk_284_17 ⟨rfl, rfl, rfl⟩
/-- java/lang/Math.abs(I)I -/
def sp_285 (x0 : Int32) : Int32 := (if 0 ≤ x0 then x0 else (-x0))
theorem cs_285 {l : LX} {d : Nat} {I : Nat → Nat → Int32} {F : Nat → Nat → UInt32} {L : Nat → Nat → Int64} {t : Nat} {x0 : Int32} : Con l 285 (d + 0) 0 0 [.int x0] SH (I, F, L, RT t) (rI (sp_285 x0) (I, F, L, RT t)) := by
  refine cn_285 ?_
  unfold sp_285
  refine bk_285_0 (fun h0 => ?_) (fun h0 => ?_)
  · rw [if_pos h0]
    refine bk_285_9 ?_
    exact bk_285_10 ⟨rfl, rfl, rfl⟩
  · rw [if_neg h0]
    refine bk_285_4 ?_
    exact bk_285_10 ⟨rfl, rfl, rfl⟩
/-- java/lang/Integer.bitCount(I)I -/
def sp_286 (x0 : Int32) : Int32 := ((((((((x0 - (((x0.toUInt32 >>> (Int32.toUInt32 1 &&& Int32.toUInt32 31)).toInt32) &&& 1431655765)) &&& 858993459) + ((((x0 - (((x0.toUInt32 >>> (Int32.toUInt32 1 &&& Int32.toUInt32 31)).toInt32) &&& 1431655765)).toUInt32 >>> (Int32.toUInt32 2 &&& Int32.toUInt32 31)).toInt32) &&& 858993459)) + (((((x0 - (((x0.toUInt32 >>> (Int32.toUInt32 1 &&& Int32.toUInt32 31)).toInt32) &&& 1431655765)) &&& 858993459) + ((((x0 - (((x0.toUInt32 >>> (Int32.toUInt32 1 &&& Int32.toUInt32 31)).toInt32) &&& 1431655765)).toUInt32 >>> (Int32.toUInt32 2 &&& Int32.toUInt32 31)).toInt32) &&& 858993459)).toUInt32 >>> (Int32.toUInt32 4 &&& Int32.toUInt32 31)).toInt32)) &&& 252645135) + (((((((x0 - (((x0.toUInt32 >>> (Int32.toUInt32 1 &&& Int32.toUInt32 31)).toInt32) &&& 1431655765)) &&& 858993459) + ((((x0 - (((x0.toUInt32 >>> (Int32.toUInt32 1 &&& Int32.toUInt32 31)).toInt32) &&& 1431655765)).toUInt32 >>> (Int32.toUInt32 2 &&& Int32.toUInt32 31)).toInt32) &&& 858993459)) + (((((x0 - (((x0.toUInt32 >>> (Int32.toUInt32 1 &&& Int32.toUInt32 31)).toInt32) &&& 1431655765)) &&& 858993459) + ((((x0 - (((x0.toUInt32 >>> (Int32.toUInt32 1 &&& Int32.toUInt32 31)).toInt32) &&& 1431655765)).toUInt32 >>> (Int32.toUInt32 2 &&& Int32.toUInt32 31)).toInt32) &&& 858993459)).toUInt32 >>> (Int32.toUInt32 4 &&& Int32.toUInt32 31)).toInt32)) &&& 252645135).toUInt32 >>> (Int32.toUInt32 8 &&& Int32.toUInt32 31)).toInt32)) + ((((((((x0 - (((x0.toUInt32 >>> (Int32.toUInt32 1 &&& Int32.toUInt32 31)).toInt32) &&& 1431655765)) &&& 858993459) + ((((x0 - (((x0.toUInt32 >>> (Int32.toUInt32 1 &&& Int32.toUInt32 31)).toInt32) &&& 1431655765)).toUInt32 >>> (Int32.toUInt32 2 &&& Int32.toUInt32 31)).toInt32) &&& 858993459)) + (((((x0 - (((x0.toUInt32 >>> (Int32.toUInt32 1 &&& Int32.toUInt32 31)).toInt32) &&& 1431655765)) &&& 858993459) + ((((x0 - (((x0.toUInt32 >>> (Int32.toUInt32 1 &&& Int32.toUInt32 31)).toInt32) &&& 1431655765)).toUInt32 >>> (Int32.toUInt32 2 &&& Int32.toUInt32 31)).toInt32) &&& 858993459)).toUInt32 >>> (Int32.toUInt32 4 &&& Int32.toUInt32 31)).toInt32)) &&& 252645135) + (((((((x0 - (((x0.toUInt32 >>> (Int32.toUInt32 1 &&& Int32.toUInt32 31)).toInt32) &&& 1431655765)) &&& 858993459) + ((((x0 - (((x0.toUInt32 >>> (Int32.toUInt32 1 &&& Int32.toUInt32 31)).toInt32) &&& 1431655765)).toUInt32 >>> (Int32.toUInt32 2 &&& Int32.toUInt32 31)).toInt32) &&& 858993459)) + (((((x0 - (((x0.toUInt32 >>> (Int32.toUInt32 1 &&& Int32.toUInt32 31)).toInt32) &&& 1431655765)) &&& 858993459) + ((((x0 - (((x0.toUInt32 >>> (Int32.toUInt32 1 &&& Int32.toUInt32 31)).toInt32) &&& 1431655765)).toUInt32 >>> (Int32.toUInt32 2 &&& Int32.toUInt32 31)).toInt32) &&& 858993459)).toUInt32 >>> (Int32.toUInt32 4 &&& Int32.toUInt32 31)).toInt32)) &&& 252645135).toUInt32 >>> (Int32.toUInt32 8 &&& Int32.toUInt32 31)).toInt32)).toUInt32 >>> (Int32.toUInt32 16 &&& Int32.toUInt32 31)).toInt32)) &&& 63)
theorem cs_286 {l : LX} {d : Nat} {I : Nat → Nat → Int32} {F : Nat → Nat → UInt32} {L : Nat → Nat → Int64} {t : Nat} {x0 : Int32} : Con l 286 (d + 0) 0 0 [.int x0] SH (I, F, L, RT t) (rI (sp_286 x0) (I, F, L, RT t)) := by
  refine cn_286 ?_
  unfold sp_286
  exact bk_286_0 ⟨rfl, rfl, rfl⟩
/-- VectorShelf$Judge.turn(I)V -/
def fn_16 (I : Nat → Nat → Int32) (F : Nat → Nat → UInt32) (L : Nat → Nat → Int64) (t : Nat) (x1 : Int32) : (Nat → Nat → Int32) × (Nat → Nat → UInt32) × (Nat → Nat → Int64) × Nat := (if (I 35 1) ≤ 0 then (I, F, L, t) else (if ¬ x1 = (-7) then (if ¬ (I 36 ((I 35 1) - 1).toNatClampNeg) = 0 then ((up2 I 36 ((I 35 1) - 1).toNatClampNeg (sp_17 (0 : Int32))), F, L, t) else ((up2 I 36 ((I 35 1) - 1).toNatClampNeg (sp_17 (1 : Int32))), F, L, t)) else ((up2 I 36 ((I 35 1) - 1).toNatClampNeg (-(I 36 ((I 35 1) - 1).toNatClampNeg))), F, L, t)))
theorem ci_16 {l : LX} {d : Nat} {I : Nat → Nat → Int32} {F : Nat → Nat → UInt32} {L : Nat → Nat → Int64} {t : Nat} {x1 : Int32} (p1 : (¬ ((I 35 1) ≤ 0)) → vp_in ((I 35 1) - 1) 160) (p2 : (¬ ((I 35 1) ≤ 0)) → (¬ x1 = (-7)) → (¬ (I 36 ((I 35 1) - 1).toNatClampNeg) = 0) → vp_in ((I 35 1) - 1) 160) (p3 : (¬ ((I 35 1) ≤ 0)) → (¬ x1 = (-7)) → (¬ (¬ (I 36 ((I 35 1) - 1).toNatClampNeg) = 0)) → vp_in ((I 35 1) - 1) 160) (p4 : (¬ ((I 35 1) ≤ 0)) → (¬ (¬ x1 = (-7))) → vp_in ((I 35 1) - 1) 160) : Con l 16 (d + 1) 0 0 [.ref 35, .int x1] SH (I, F, L, RT t) (rTV (fn_16 I F L t x1)) := by
  refine cn_16 ?_
  unfold fn_16
  refine bk_16_0 (fun h0 => ?_) (fun h0 => ?_)
  · rw [if_pos h0]
    exact bk_16_53 ⟨rfl, rfl, rfl⟩
  · rw [if_neg h0]
    refine bk_16_7 (p1 h0) (fun h1 => ?_) (fun h1 => ?_)
    · rw [if_pos h1]
      refine bk_16_40 (fun h2 => ?_) (fun h2 => ?_)
      · rw [if_pos h2]
        refine bk_16_48 ?_
        refine bk_16_49 (cs_17 (d := d + 0) ) ?_
        refine bk_16_52 (p2 h0 h1 h2) ?_
        exact bk_16_53 ⟨rfl, rfl, rfl⟩
      · rw [if_neg h2]
        refine bk_16_44 ?_
        refine bk_16_49 (cs_17 (d := d + 0) ) ?_
        refine bk_16_52 (p3 h0 h1 h2) ?_
        exact bk_16_53 ⟨rfl, rfl, rfl⟩
    · rw [if_neg h1]
      refine bk_16_35 ?_
      refine bk_16_52 (p4 h0 h1) ?_
      exact bk_16_53 ⟨rfl, rfl, rfl⟩
/-- VectorShelf$Judge.join(I)V -/
def fn_18 (I : Nat → Nat → Int32) (F : Nat → Nat → UInt32) (L : Nat → Nat → Int64) (t : Nat) (x1 : Int32) : (Nat → Nat → Int32) × (Nat → Nat → UInt32) × (Nat → Nat → Int64) × Nat := (if (I 35 1) ≤ 1 then (I, F, L, t) else ((up2 (up2 I 35 1 ((I 35 1) - 1)) 36 (((I 35 1) - 1) - 1).toNatClampNeg (sp_19 x1 (I 36 (((I 35 1) - 1) - 1).toNatClampNeg) (I 36 ((I 35 1) - 1).toNatClampNeg))), F, L, t))
theorem ci_18 {l : LX} {d : Nat} {I : Nat → Nat → Int32} {F : Nat → Nat → UInt32} {L : Nat → Nat → Int64} {t : Nat} {x1 : Int32} (p1 : (¬ ((I 35 1) ≤ 1)) → vp_in (((I 35 1) - 1) - 1) 160) (p2 : (¬ ((I 35 1) ≤ 1)) → vp_in ((I 35 1) - 1) 160) (p3 : (¬ ((I 35 1) ≤ 1)) → vp_in (((I 35 1) - 1) - 1) 160) : Con l 18 (d + 2) 0 0 [.ref 35, .int x1] SH (I, F, L, RT t) (rTV (fn_18 I F L t x1)) := by
  refine cn_18 ?_
  unfold fn_18
  refine bk_18_0 (fun h0 => ?_) (fun h0 => ?_)
  · rw [if_pos h0]
    exact bk_18_53 ⟨rfl, rfl, rfl⟩
  · rw [if_neg h0]
    refine bk_18_8 (p1 h0) (p2 h0) (cs_19 (d := d + 0) ) ?_
    refine bk_18_52 (p3 h0) ?_
    exact bk_18_53 ⟨rfl, rfl, rfl⟩
/-- VectorShelf$Judge.isFit(LVectorShelf$Shelf;I)Z -/
def sp_20 (I : Nat → Nat → Int32) (r1 : Nat) (x2 : Int32) : Int32 := (sp_111 (sp_21 I r1) x2)
theorem cs_20 {l : LX} {d : Nat} {I : Nat → Nat → Int32} {F : Nat → Nat → UInt32} {L : Nat → Nat → Int64} {t : Nat} {r1 : Nat} {x2 : Int32} (hr1 : isS r1) : Con l 20 (d + 1) 0 0 [.ref 35, .ref r1, .int x2] SH (I, F, L, RT t) (rI (sp_20 I r1 x2) (I, F, L, RT t)) := by
  refine cn_20 ?_
  unfold sp_20
  refine bk_20_0 (cs_21 (d := d + 0) hr1) ?_
  refine bk_20_5 (cs_111 (d := d + 0) ) ?_
  exact bk_20_9 (sb_111 ..) ⟨rfl, rfl, rfl⟩
theorem sb_20 (I : Nat → Nat → Int32) (r1 : Nat) (x2 : Int32) : (sp_20 I r1 x2) &&& 1 = (sp_20 I r1 x2) := by
  unfold sp_20
  repeat' split
  all_goals first | rfl | exact sb_111 ..
/-- VectorShelf$Measure.lowOf(III)F -/
def sp_25 (I : Nat → Nat → Int32) (b : Nat) (x1 : Int32) (x2 : Int32) (x3 : Int32) : UInt32 := (FP.fmul (sp_28 I b (sp_27 I b (sp_27 I b (sp_26 I b (0 : Int32) x1) (sp_26 I b (1 : Int32) x2)) (sp_26 I b (2 : Int32) x3))) 1065353200)
theorem cs_25 {l : LX} {d : Nat} {I : Nat → Nat → Int32} {F : Nat → Nat → UInt32} {L : Nat → Nat → Int64} {t : Nat} {b : Nat} {x1 : Int32} {x2 : Int32} {x3 : Int32} (hb : isM b) (p1 : (vp_in (0 : Int32) 3)) (p2 : (((I b 0) = 0) → vf_n32 (FP.fmul (FP.i2f x1) (FP.i2f x1)))) (p3 : (((I b 0) = 1) → vf_n32 (FP.fmul (FP.i2f x1) (FP.i2f x1)))) (p4 : (((I b 0) = 1) → vf_n32 (FP.fmul (FP.fmul (FP.i2f x1) (FP.i2f x1)) (FP.i2f (I (b + 1) (0 : Int32).toNatClampNeg))))) (p5 : (((I b 0) = 3) → (x1 ≤ (I b 1)) → vf_n32 (FP.fmul FP.fconst0 FP.fconst0))) (p6 : (((I b 0) = 3) → (x1 ≤ (I b 1)) → vf_n32 (FP.fmul (FP.fmul FP.fconst0 FP.fconst0) (FP.i2f (I (b + 1) (0 : Int32).toNatClampNeg))))) (p7 : (((I b 0) = 3) → (¬ (x1 ≤ (I b 1))) → vf_n32 (FP.fmul (FP.i2f (x1 - (I b 1))) (FP.i2f (x1 - (I b 1)))))) (p8 : (((I b 0) = 3) → (¬ (x1 ≤ (I b 1))) → vf_n32 (FP.fmul (FP.fmul (FP.i2f (x1 - (I b 1))) (FP.i2f (x1 - (I b 1)))) (FP.i2f (I (b + 1) (0 : Int32).toNatClampNeg))))) (p9 : ((¬ (I b 0) = 0) → (¬ (I b 0) = 1) → (¬ (I b 0) = 2) → (¬ (I b 0) = 3) → (¬ (I b 0) = 4) → (x1 ≤ (I b 1)) → vf_n32 (FP.fmul FP.fconst0 FP.fconst0))) (p10 : ((¬ (I b 0) = 0) → (¬ (I b 0) = 1) → (¬ (I b 0) = 2) → (¬ (I b 0) = 3) → (¬ (I b 0) = 4) → (x1 ≤ (I b 1)) → vf_n32 (FP.fmul (FP.fmul FP.fconst0 FP.fconst0) (FP.i2f (I (b + 1) (0 : Int32).toNatClampNeg))))) (p11 : ((¬ (I b 0) = 0) → (¬ (I b 0) = 1) → (¬ (I b 0) = 2) → (¬ (I b 0) = 3) → (¬ (I b 0) = 4) → (¬ (x1 ≤ (I b 1))) → vf_n32 (FP.fmul (FP.i2f (x1 - (I b 1))) (FP.i2f (x1 - (I b 1)))))) (p12 : ((¬ (I b 0) = 0) → (¬ (I b 0) = 1) → (¬ (I b 0) = 2) → (¬ (I b 0) = 3) → (¬ (I b 0) = 4) → (¬ (x1 ≤ (I b 1))) → vf_n32 (FP.fmul (FP.fmul (FP.i2f (x1 - (I b 1))) (FP.i2f (x1 - (I b 1)))) (FP.i2f (I (b + 1) (0 : Int32).toNatClampNeg))))) (p13 : (vp_in (1 : Int32) 3)) (p14 : (((I b 0) = 0) → vf_n32 (FP.fmul (FP.i2f x2) (FP.i2f x2)))) (p15 : (((I b 0) = 1) → vf_n32 (FP.fmul (FP.i2f x2) (FP.i2f x2)))) (p16 : (((I b 0) = 1) → vf_n32 (FP.fmul (FP.fmul (FP.i2f x2) (FP.i2f x2)) (FP.i2f (I (b + 1) (1 : Int32).toNatClampNeg))))) (p17 : (((I b 0) = 3) → (x2 ≤ (I b 1)) → vf_n32 (FP.fmul FP.fconst0 FP.fconst0))) (p18 : (((I b 0) = 3) → (x2 ≤ (I b 1)) → vf_n32 (FP.fmul (FP.fmul FP.fconst0 FP.fconst0) (FP.i2f (I (b + 1) (1 : Int32).toNatClampNeg))))) (p19 : (((I b 0) = 3) → (¬ (x2 ≤ (I b 1))) → vf_n32 (FP.fmul (FP.i2f (x2 - (I b 1))) (FP.i2f (x2 - (I b 1)))))) (p20 : (((I b 0) = 3) → (¬ (x2 ≤ (I b 1))) → vf_n32 (FP.fmul (FP.fmul (FP.i2f (x2 - (I b 1))) (FP.i2f (x2 - (I b 1)))) (FP.i2f (I (b + 1) (1 : Int32).toNatClampNeg))))) (p21 : ((¬ (I b 0) = 0) → (¬ (I b 0) = 1) → (¬ (I b 0) = 2) → (¬ (I b 0) = 3) → (¬ (I b 0) = 4) → (x2 ≤ (I b 1)) → vf_n32 (FP.fmul FP.fconst0 FP.fconst0))) (p22 : ((¬ (I b 0) = 0) → (¬ (I b 0) = 1) → (¬ (I b 0) = 2) → (¬ (I b 0) = 3) → (¬ (I b 0) = 4) → (x2 ≤ (I b 1)) → vf_n32 (FP.fmul (FP.fmul FP.fconst0 FP.fconst0) (FP.i2f (I (b + 1) (1 : Int32).toNatClampNeg))))) (p23 : ((¬ (I b 0) = 0) → (¬ (I b 0) = 1) → (¬ (I b 0) = 2) → (¬ (I b 0) = 3) → (¬ (I b 0) = 4) → (¬ (x2 ≤ (I b 1))) → vf_n32 (FP.fmul (FP.i2f (x2 - (I b 1))) (FP.i2f (x2 - (I b 1)))))) (p24 : ((¬ (I b 0) = 0) → (¬ (I b 0) = 1) → (¬ (I b 0) = 2) → (¬ (I b 0) = 3) → (¬ (I b 0) = 4) → (¬ (x2 ≤ (I b 1))) → vf_n32 (FP.fmul (FP.fmul (FP.i2f (x2 - (I b 1))) (FP.i2f (x2 - (I b 1)))) (FP.i2f (I (b + 1) (1 : Int32).toNatClampNeg))))) (p25 : ((¬ (I b 0) = 4) → vf_n32 (FP.fadd (sp_26 I b (0 : Int32) x1) (sp_26 I b (1 : Int32) x2)))) (p26 : (vp_in (2 : Int32) 3)) (p27 : (((I b 0) = 0) → vf_n32 (FP.fmul (FP.i2f x3) (FP.i2f x3)))) (p28 : (((I b 0) = 1) → vf_n32 (FP.fmul (FP.i2f x3) (FP.i2f x3)))) (p29 : (((I b 0) = 1) → vf_n32 (FP.fmul (FP.fmul (FP.i2f x3) (FP.i2f x3)) (FP.i2f (I (b + 1) (2 : Int32).toNatClampNeg))))) (p30 : (((I b 0) = 3) → (x3 ≤ (I b 1)) → vf_n32 (FP.fmul FP.fconst0 FP.fconst0))) (p31 : (((I b 0) = 3) → (x3 ≤ (I b 1)) → vf_n32 (FP.fmul (FP.fmul FP.fconst0 FP.fconst0) (FP.i2f (I (b + 1) (2 : Int32).toNatClampNeg))))) (p32 : (((I b 0) = 3) → (¬ (x3 ≤ (I b 1))) → vf_n32 (FP.fmul (FP.i2f (x3 - (I b 1))) (FP.i2f (x3 - (I b 1)))))) (p33 : (((I b 0) = 3) → (¬ (x3 ≤ (I b 1))) → vf_n32 (FP.fmul (FP.fmul (FP.i2f (x3 - (I b 1))) (FP.i2f (x3 - (I b 1)))) (FP.i2f (I (b + 1) (2 : Int32).toNatClampNeg))))) (p34 : ((¬ (I b 0) = 0) → (¬ (I b 0) = 1) → (¬ (I b 0) = 2) → (¬ (I b 0) = 3) → (¬ (I b 0) = 4) → (x3 ≤ (I b 1)) → vf_n32 (FP.fmul FP.fconst0 FP.fconst0))) (p35 : ((¬ (I b 0) = 0) → (¬ (I b 0) = 1) → (¬ (I b 0) = 2) → (¬ (I b 0) = 3) → (¬ (I b 0) = 4) → (x3 ≤ (I b 1)) → vf_n32 (FP.fmul (FP.fmul FP.fconst0 FP.fconst0) (FP.i2f (I (b + 1) (2 : Int32).toNatClampNeg))))) (p36 : ((¬ (I b 0) = 0) → (¬ (I b 0) = 1) → (¬ (I b 0) = 2) → (¬ (I b 0) = 3) → (¬ (I b 0) = 4) → (¬ (x3 ≤ (I b 1))) → vf_n32 (FP.fmul (FP.i2f (x3 - (I b 1))) (FP.i2f (x3 - (I b 1)))))) (p37 : ((¬ (I b 0) = 0) → (¬ (I b 0) = 1) → (¬ (I b 0) = 2) → (¬ (I b 0) = 3) → (¬ (I b 0) = 4) → (¬ (x3 ≤ (I b 1))) → vf_n32 (FP.fmul (FP.fmul (FP.i2f (x3 - (I b 1))) (FP.i2f (x3 - (I b 1)))) (FP.i2f (I (b + 1) (2 : Int32).toNatClampNeg))))) (p38 : ((¬ (I b 0) = 4) → vf_n32 (FP.fadd (sp_27 I b (sp_26 I b (0 : Int32) x1) (sp_26 I b (1 : Int32) x2)) (sp_26 I b (2 : Int32) x3)))) (p39 : ((¬ (I b 0) = 2) → (¬ (¬ (I b 0) = 4)) → vf_n32 (FP.fmul 1082130432 (sp_27 I b (sp_27 I b (sp_26 I b (0 : Int32) x1) (sp_26 I b (1 : Int32) x2)) (sp_26 I b (2 : Int32) x3))))) (p40 : ((¬ (I b 0) = 2) → (¬ (¬ (I b 0) = 4)) → vf_n32 (FP.fadd (FP.fmul 1082130432 (sp_27 I b (sp_27 I b (sp_26 I b (0 : Int32) x1) (sp_26 I b (1 : Int32) x2)) (sp_26 I b (2 : Int32) x3))) FP.fconst1))) (p41 : ((¬ (¬ (I b 0) = 2)) → vf_n32 (FP.fmul 1082130432 (sp_27 I b (sp_27 I b (sp_26 I b (0 : Int32) x1) (sp_26 I b (1 : Int32) x2)) (sp_26 I b (2 : Int32) x3))))) (p42 : vf_n32 (FP.fmul (sp_28 I b (sp_27 I b (sp_27 I b (sp_26 I b (0 : Int32) x1) (sp_26 I b (1 : Int32) x2)) (sp_26 I b (2 : Int32) x3))) 1065353200)) : Con l 25 (d + 1) 0 0 [.ref b, .int x1, .int x2, .int x3] SH (I, F, L, RT t) (rF (sp_25 I b x1 x2 x3) (I, F, L, RT t)) := by
  refine cn_25 ?_
  unfold sp_25
  refine bk_25_0 hb (cs_26 (d := d + 0) hb (p1) (p2) (p3) (p4) (p5) (p6) (p7) (p8) (p9) (p10) (p11) (p12)) ?_
  refine bk_25_9 hb (cs_26 (d := d + 0) hb (p13) (p14) (p15) (p16) (p17) (p18) (p19) (p20) (p21) (p22) (p23) (p24)) ?_
  refine bk_25_15 hb (cs_27 (d := d + 0) hb (p25)) ?_
  refine bk_25_18 hb (cs_26 (d := d + 0) hb (p26) (p27) (p28) (p29) (p30) (p31) (p32) (p33) (p34) (p35) (p36) (p37)) ?_
  refine bk_25_24 hb (cs_27 (d := d + 0) hb (p38)) ?_
  refine bk_25_27 hb (cs_28 (d := d + 0) hb (p39) (p40) (p41)) ?_
  exact bk_25_30 p42 ⟨rfl, rfl, rfl⟩
/-- VectorShelf$Measure.tell(III)I -/
def sp_29 (I : Nat → Nat → Int32) (b : Nat) (x1 : Int32) (x2 : Int32) (x3 : Int32) : Int32 := (if ¬ (I b 0) = 4 then (if ¬ (I b 0) = 2 then (if ¬ (I b 0) = 5 then (((sp_30 I b (0 : Int32) x1) + (sp_30 I b (1 : Int32) x2)) + (sp_30 I b (2 : Int32) x3)) else (sp_282 (((sp_30 I b (0 : Int32) x1) + (sp_30 I b (1 : Int32) x2)) + (sp_30 I b (2 : Int32) x3)) (I b 2))) else (4 * (((sp_30 I b (0 : Int32) x1) + (sp_30 I b (1 : Int32) x2)) + (sp_30 I b (2 : Int32) x3)))) else ((4 * (sp_283 (sp_283 (sp_30 I b (0 : Int32) x1) (sp_30 I b (1 : Int32) x2)) (sp_30 I b (2 : Int32) x3))) + 1))
theorem cs_29 {l : LX} {d : Nat} {I : Nat → Nat → Int32} {F : Nat → Nat → UInt32} {L : Nat → Nat → Int64} {t : Nat} {b : Nat} {x1 : Int32} {x2 : Int32} {x3 : Int32} (hb : isM b) (p1 : (((I b 0) = 1) → vp_in (0 : Int32) 3)) (p2 : (((I b 0) = 3) → (x1 ≤ (I b 1)) → vp_in (0 : Int32) 3)) (p3 : (((I b 0) = 3) → (¬ (x1 ≤ (I b 1))) → vp_in (0 : Int32) 3)) (p4 : ((¬ (I b 0) = 0) → (¬ (I b 0) = 1) → (¬ (I b 0) = 2) → (¬ (I b 0) = 3) → (¬ (I b 0) = 4) → (x1 ≤ (I b 1)) → vp_in (0 : Int32) 3)) (p5 : ((¬ (I b 0) = 0) → (¬ (I b 0) = 1) → (¬ (I b 0) = 2) → (¬ (I b 0) = 3) → (¬ (I b 0) = 4) → (¬ (x1 ≤ (I b 1))) → vp_in (0 : Int32) 3)) (p6 : (((I b 0) = 1) → vp_in (1 : Int32) 3)) (p7 : (((I b 0) = 3) → (x2 ≤ (I b 1)) → vp_in (1 : Int32) 3)) (p8 : (((I b 0) = 3) → (¬ (x2 ≤ (I b 1))) → vp_in (1 : Int32) 3)) (p9 : ((¬ (I b 0) = 0) → (¬ (I b 0) = 1) → (¬ (I b 0) = 2) → (¬ (I b 0) = 3) → (¬ (I b 0) = 4) → (x2 ≤ (I b 1)) → vp_in (1 : Int32) 3)) (p10 : ((¬ (I b 0) = 0) → (¬ (I b 0) = 1) → (¬ (I b 0) = 2) → (¬ (I b 0) = 3) → (¬ (I b 0) = 4) → (¬ (x2 ≤ (I b 1))) → vp_in (1 : Int32) 3)) (p11 : (((I b 0) = 1) → vp_in (2 : Int32) 3)) (p12 : (((I b 0) = 3) → (x3 ≤ (I b 1)) → vp_in (2 : Int32) 3)) (p13 : (((I b 0) = 3) → (¬ (x3 ≤ (I b 1))) → vp_in (2 : Int32) 3)) (p14 : ((¬ (I b 0) = 0) → (¬ (I b 0) = 1) → (¬ (I b 0) = 2) → (¬ (I b 0) = 3) → (¬ (I b 0) = 4) → (x3 ≤ (I b 1)) → vp_in (2 : Int32) 3)) (p15 : ((¬ (I b 0) = 0) → (¬ (I b 0) = 1) → (¬ (I b 0) = 2) → (¬ (I b 0) = 3) → (¬ (I b 0) = 4) → (¬ (x3 ≤ (I b 1))) → vp_in (2 : Int32) 3)) : Con l 29 (d + 1) 0 0 [.ref b, .int x1, .int x2, .int x3] SH (I, F, L, RT t) (rI (sp_29 I b x1 x2 x3) (I, F, L, RT t)) := by
  refine cn_29 ?_
  unfold sp_29
  refine bk_29_0 hb (cs_30 (d := d + 0) hb (p1) (p2) (p3) (p4) (p5)) ?_
  refine bk_29_6 hb (cs_30 (d := d + 0) hb (p6) (p7) (p8) (p9) (p10)) ?_
  refine bk_29_14 hb (cs_30 (d := d + 0) hb (p11) (p12) (p13) (p14) (p15)) ?_
  refine bk_29_22 hb (fun h0 => ?_) (fun h0 => ?_)
  · rw [if_pos h0]
    refine bk_29_49 hb (fun h1 => ?_) (fun h1 => ?_)
    · rw [if_pos h1]
      refine bk_29_72 hb (fun h2 => ?_) (fun h2 => ?_)
      · rw [if_pos h2]
        refine bk_29_92 ?_
        exact bk_29_94 ⟨rfl, rfl, rfl⟩
      · rw [if_neg h2]
        refine bk_29_80 hb (cs_282 (d := d + 0) ) ?_
        refine bk_29_89 ?_
        exact bk_29_94 ⟨rfl, rfl, rfl⟩
    · rw [if_neg h1]
      exact bk_29_67 ⟨rfl, rfl, rfl⟩
  · rw [if_neg h0]
    refine bk_29_32 (cs_283 (d := d + 0) ) ?_
    refine bk_29_40 (cs_283 (d := d + 0) ) ?_
    exact bk_29_45 ⟨rfl, rfl, rfl⟩
/-- VectorShelf$Reading.heldAt(I)I -/
def sp_42 (I : Nat → Nat → Int32) (x1 : Int32) : Int32 := (if (sp_107 x1 (0 : Int32) ((I 38 3) - 1)) = 0 then (-1) else (I 40 x1.toNatClampNeg))
theorem cs_42 {l : LX} {d : Nat} {I : Nat → Nat → Int32} {F : Nat → Nat → UInt32} {L : Nat → Nat → Int64} {t : Nat} {x1 : Int32} (p1 : (¬ ((sp_107 x1 (0 : Int32) ((I 38 3) - 1)) = 0)) → vp_in x1 6) : Con l 42 (d + 1) 0 0 [.ref 38, .int x1] SH (I, F, L, RT t) (rI (sp_42 I x1) (I, F, L, RT t)) := by
  refine cn_42 ?_
  unfold sp_42
  refine bk_42_0 (cs_107 (d := d + 0) ) ?_
  refine bk_42_11 (fun h0 => ?_) (fun h0 => ?_)
  · rw [if_pos h0]
    refine bk_42_23 ?_
    exact bk_42_24 ⟨rfl, rfl, rfl⟩
  · rw [if_neg h0]
    refine bk_42_14 (p1 h0) ?_
    exact bk_42_24 ⟨rfl, rfl, rfl⟩
/-- VectorShelf$Shelf.addCell(III)I -/
def fn_53 (I : Nat → Nat → Int32) (F : Nat → Nat → UInt32) (L : Nat → Nat → Int64) (t : Nat) (b : Nat) (x1 : Int32) (x2 : Int32) (x3 : Int32) : Int32 × (Nat → Nat → Int32) × (Nat → Nat → UInt32) × (Nat → Nat → Int64) × Nat := (if (I b 4) < 4 then (bndV (fn_54 (up2 (up2 (up2 I (b + 4) (3 * (I b 4)).toNatClampNeg x1) (b + 4) ((3 * (I b 4)) + 1).toNatClampNeg x2) (b + 4) ((3 * (I b 4)) + 2).toNatClampNeg x3) F L t b (I b 4)) (fun I1 F1 L1 t1 => ((I b 4), (up2 I1 b 4 ((I1 b 4) + 1)), F1, L1, t1))) else ((-4), I, F, L, t))
theorem ci_53 {l : LX} {d : Nat} {I : Nat → Nat → Int32} {F : Nat → Nat → UInt32} {L : Nat → Nat → Int64} {t : Nat} {b : Nat} {x1 : Int32} {x2 : Int32} {x3 : Int32} (hb : isS b) (p1 : ((I b 4) < 4) → vp_in (3 * (I b 4)) 12) (p2 : ((I b 4) < 4) → vp_in ((3 * (I b 4)) + 1) 12) (p3 : ((I b 4) < 4) → vp_in ((3 * (I b 4)) + 2) 12) (p4 : ((I b 4) < 4) → (vp_in ((3 * (I b 4)) + 0) 12)) (p5 : ((I b 4) < 4) → (vp_in ((3 * (I b 4)) + (0 + 1)) 12)) (p6 : ((I b 4) < 4) → (vp_in ((3 * (I b 4)) + ((0 + 1) + 1)) 12)) : Con l 53 (d + 1) 0 0 [.ref b, .int x1, .int x2, .int x3] SH (I, F, L, RT t) (rT (fn_53 I F L t b x1 x2 x3)) := by
  refine cn_53 ?_
  unfold fn_53
  refine bk_53_0 hb (fun h0 => ?_) (fun h0 => ?_)
  · rw [if_pos h0]
    refine bk_53_11 hb (p1 h0) (p2 h0) (p3 h0) (Con_QV (ci_54 (d := d + 0) hb (p4 h0) (p5 h0) (p6 h0))) (fun I1 F1 L1 t1 e1 => ?_)
    rw [← e1]
    dsimp only [bndV]
    exact bk_53_57 hb ⟨rfl, rfl, rfl⟩
  · rw [if_neg h0]
    exact bk_53_8 ⟨rfl, rfl, rfl⟩
/-- VectorShelf$Shelf.isThere(I)Z -/
def sp_61 (I : Nat → Nat → Int32) (b : Nat) (x1 : Int32) : Int32 := (sp_111 (I b 12) x1)
theorem cs_61 {l : LX} {d : Nat} {I : Nat → Nat → Int32} {F : Nat → Nat → UInt32} {L : Nat → Nat → Int64} {t : Nat} {b : Nat} {x1 : Int32} (hb : isS b) : Con l 61 (d + 1) 0 0 [.ref b, .int x1] SH (I, F, L, RT t) (rI (sp_61 I b x1) (I, F, L, RT t)) := by
  refine cn_61 ?_
  unfold sp_61
  refine bk_61_0 hb (cs_111 (d := d + 0) ) ?_
  exact bk_61_8 (sb_111 ..) ⟨rfl, rfl, rfl⟩
theorem sb_61 (I : Nat → Nat → Int32) (b : Nat) (x1 : Int32) : (sp_61 I b x1) &&& 1 = (sp_61 I b x1) := by
  unfold sp_61
  repeat' split
  all_goals first | rfl | exact sb_111 ..
/-- VectorShelf$Shelf.codeOf(II)I -/
def sp_62 (I : Nat → Nat → Int32) (b : Nat) (x1 : Int32) (x2 : Int32) : Int32 := (if (I (b + 9) x1.toNatClampNeg) = (-1) then 0 else (if ¬ (I b 1) = 0 then (sp_283 (-128 : Int32) (sp_282 (127 : Int32) (sp_284 ((I (b + 7) ((3 * x1) + x2).toNatClampNeg) - (I (b + 4) ((3 * (I (b + 9) x1.toNatClampNeg)) + x2).toNatClampNeg)) (I b 1)))) else 0))
theorem cs_62 {l : LX} {d : Nat} {I : Nat → Nat → Int32} {F : Nat → Nat → UInt32} {L : Nat → Nat → Int64} {t : Nat} {b : Nat} {x1 : Int32} {x2 : Int32} (hb : isS b) (p1 : vp_in x1 12) (p2 : (¬ ((I (b + 9) x1.toNatClampNeg) = (-1))) → (¬ (I b 1) = 0) → vp_in ((3 * x1) + x2) 36) (p3 : (¬ ((I (b + 9) x1.toNatClampNeg) = (-1))) → (¬ (I b 1) = 0) → vp_in ((3 * (I (b + 9) x1.toNatClampNeg)) + x2) 12) (p4 : (¬ ((I (b + 9) x1.toNatClampNeg) = (-1))) → (¬ (I b 1) = 0) → (¬ ((I b 1) : Int32) = 0)) : Con l 62 (d + 1) 0 0 [.ref b, .int x1, .int x2] SH (I, F, L, RT t) (rI (sp_62 I b x1 x2) (I, F, L, RT t)) := by
  refine cn_62 ?_
  unfold sp_62
  refine bk_62_0 hb p1 (fun h0 => ?_) (fun h0 => ?_)
  · rw [if_pos h0]
    exact bk_62_19 ⟨rfl, rfl, rfl⟩
  · rw [if_neg h0]
    refine bk_62_12 hb (fun h1 => ?_) (fun h1 => ?_)
    · rw [if_pos h1]
      refine bk_62_21 hb (p2 h0 h1) (p3 h0 h1) (cs_284 (d := d + 0) (p4 h0 h1)) ?_
      refine bk_62_49 (cs_282 (d := d + 0) ) ?_
      refine bk_62_60 (cs_283 (d := d + 0) ) ?_
      exact bk_62_63 ⟨rfl, rfl, rfl⟩
    · rw [if_neg h1]
      exact bk_62_19 ⟨rfl, rfl, rfl⟩
/-- VectorShelf$Shelf.outsideOfSpan(II)I -/
def sp_64 (I : Nat → Nat → Int32) (b : Nat) (x1 : Int32) (x2 : Int32) : Int32 := (if ¬ (I (b + 9) x1.toNatClampNeg) = (-1) then (if ¬ (sp_62 I b x1 x2) = (-128) then (if ¬ (sp_62 I b x1 x2) = 127 then (sp_65 (I (b + 3) x2.toNatClampNeg) ((I (b + 4) ((3 * (I (b + 9) x1.toNatClampNeg)) + x2).toNatClampNeg) + ((sp_62 I b x1 x2) * (I b 1))) ((((I (b + 4) ((3 * (I (b + 9) x1.toNatClampNeg)) + x2).toNatClampNeg) + ((sp_62 I b x1 x2) * (I b 1))) + (I b 1)) - 1)) else (sp_65 (I (b + 3) x2.toNatClampNeg) ((I (b + 4) ((3 * (I (b + 9) x1.toNatClampNeg)) + x2).toNatClampNeg) + ((sp_62 I b x1 x2) * (I b 1))) (999 : Int32))) else (if ¬ (sp_62 I b x1 x2) = 127 then (sp_65 (I (b + 3) x2.toNatClampNeg) (-999 : Int32) ((((I (b + 4) ((3 * (I (b + 9) x1.toNatClampNeg)) + x2).toNatClampNeg) + ((sp_62 I b x1 x2) * (I b 1))) + (I b 1)) - 1)) else (sp_65 (I (b + 3) x2.toNatClampNeg) (-999 : Int32) (999 : Int32)))) else 0)
theorem cs_64 {l : LX} {d : Nat} {I : Nat → Nat → Int32} {F : Nat → Nat → UInt32} {L : Nat → Nat → Int64} {t : Nat} {b : Nat} {x1 : Int32} {x2 : Int32} (hb : isS b) (p1 : vp_in x1 12) (p2 : (¬ (I (b + 9) x1.toNatClampNeg) = (-1)) → (vp_in x1 12)) (p3 : (¬ (I (b + 9) x1.toNatClampNeg) = (-1)) → ((¬ ((I (b + 9) x1.toNatClampNeg) = (-1))) → (¬ (I b 1) = 0) → vp_in ((3 * x1) + x2) 36)) (p4 : (¬ (I (b + 9) x1.toNatClampNeg) = (-1)) → ((¬ ((I (b + 9) x1.toNatClampNeg) = (-1))) → (¬ (I b 1) = 0) → vp_in ((3 * (I (b + 9) x1.toNatClampNeg)) + x2) 12)) (p5 : (¬ (I (b + 9) x1.toNatClampNeg) = (-1)) → ((¬ ((I (b + 9) x1.toNatClampNeg) = (-1))) → (¬ (I b 1) = 0) → (¬ ((I b 1) : Int32) = 0))) (p6 : (¬ (I (b + 9) x1.toNatClampNeg) = (-1)) → vp_in ((3 * (I (b + 9) x1.toNatClampNeg)) + x2) 12) (p7 : (¬ (I (b + 9) x1.toNatClampNeg) = (-1)) → vp_in x2 3) : Con l 64 (d + 2) 0 0 [.ref b, .int x1, .int x2] SH (I, F, L, RT t) (rI (sp_64 I b x1 x2) (I, F, L, RT t)) := by
  refine cn_64 ?_
  unfold sp_64
  refine bk_64_0 hb p1 (fun h0 => ?_) (fun h0 => ?_)
  · rw [if_pos h0]
    refine bk_64_14 hb (cs_62 (d := d + 0) hb (p2 h0) (p3 h0) (p4 h0) (p5 h0)) ?_
    refine bk_64_20 hb (p6 h0) (p7 h0) (fun h1 => ?_) (fun h1 => ?_)
    · rw [if_pos h1]
      refine bk_64_72 ?_
      refine bk_64_74 (fun h2 => ?_) (fun h2 => ?_)
      · rw [if_pos h2]
        refine bk_64_87 ?_
        refine bk_64_89 (cs_65 (d := d + 1) ) ?_
        exact bk_64_92 ⟨rfl, rfl, rfl⟩
      · rw [if_neg h2]
        refine bk_64_81 ?_
        refine bk_64_89 (cs_65 (d := d + 1) ) ?_
        exact bk_64_92 ⟨rfl, rfl, rfl⟩
    · rw [if_neg h1]
      refine bk_64_66 ?_
      refine bk_64_74 (fun h2 => ?_) (fun h2 => ?_)
      · rw [if_pos h2]
        refine bk_64_87 ?_
        refine bk_64_89 (cs_65 (d := d + 1) ) ?_
        exact bk_64_92 ⟨rfl, rfl, rfl⟩
      · rw [if_neg h2]
        refine bk_64_81 ?_
        refine bk_64_89 (cs_65 (d := d + 1) ) ?_
        exact bk_64_92 ⟨rfl, rfl, rfl⟩
  · rw [if_neg h0]
    exact bk_64_12 ⟨rfl, rfl, rfl⟩
/-- VectorShelf$Shelf.lowOfCell(I)F -/
def sp_68 (I : Nat → Nat → Int32) (b : Nat) (x1 : Int32) : UInt32 := (sp_25 I (b + 1) (sp_65 (I (b + 3) 0) (I (b + 5) (3 * x1).toNatClampNeg) (I (b + 6) (3 * x1).toNatClampNeg)) (sp_65 (I (b + 3) 1) (I (b + 5) ((3 * x1) + 1).toNatClampNeg) (I (b + 6) ((3 * x1) + 1).toNatClampNeg)) (sp_65 (I (b + 3) 2) (I (b + 5) ((3 * x1) + 2).toNatClampNeg) (I (b + 6) ((3 * x1) + 2).toNatClampNeg)))
theorem cs_68 {l : LX} {d : Nat} {I : Nat → Nat → Int32} {F : Nat → Nat → UInt32} {L : Nat → Nat → Int64} {t : Nat} {b : Nat} {x1 : Int32} (hb : isS b) (p1 : vp_in (3 * x1) 12) (p2 : vp_in ((3 * x1) + 1) 12) (p3 : vp_in ((3 * x1) + 2) 12) (p4 : ((vp_in (0 : Int32) 3))) (p5 : ((((I (b + 1) 0) = 0) → vf_n32 (FP.fmul (FP.i2f (sp_65 (I (b + 3) 0) (I (b + 5) (3 * x1).toNatClampNeg) (I (b + 6) (3 * x1).toNatClampNeg))) (FP.i2f (sp_65 (I (b + 3) 0) (I (b + 5) (3 * x1).toNatClampNeg) (I (b + 6) (3 * x1).toNatClampNeg))))))) (p6 : ((((I (b + 1) 0) = 1) → vf_n32 (FP.fmul (FP.i2f (sp_65 (I (b + 3) 0) (I (b + 5) (3 * x1).toNatClampNeg) (I (b + 6) (3 * x1).toNatClampNeg))) (FP.i2f (sp_65 (I (b + 3) 0) (I (b + 5) (3 * x1).toNatClampNeg) (I (b + 6) (3 * x1).toNatClampNeg))))))) (p7 : ((((I (b + 1) 0) = 1) → vf_n32 (FP.fmul (FP.fmul (FP.i2f (sp_65 (I (b + 3) 0) (I (b + 5) (3 * x1).toNatClampNeg) (I (b + 6) (3 * x1).toNatClampNeg))) (FP.i2f (sp_65 (I (b + 3) 0) (I (b + 5) (3 * x1).toNatClampNeg) (I (b + 6) (3 * x1).toNatClampNeg)))) (FP.i2f (I ((b + 1) + 1) (0 : Int32).toNatClampNeg)))))) (p8 : ((((I (b + 1) 0) = 3) → ((sp_65 (I (b + 3) 0) (I (b + 5) (3 * x1).toNatClampNeg) (I (b + 6) (3 * x1).toNatClampNeg)) ≤ (I (b + 1) 1)) → vf_n32 (FP.fmul FP.fconst0 FP.fconst0)))) (p9 : ((((I (b + 1) 0) = 3) → ((sp_65 (I (b + 3) 0) (I (b + 5) (3 * x1).toNatClampNeg) (I (b + 6) (3 * x1).toNatClampNeg)) ≤ (I (b + 1) 1)) → vf_n32 (FP.fmul (FP.fmul FP.fconst0 FP.fconst0) (FP.i2f (I ((b + 1) + 1) (0 : Int32).toNatClampNeg)))))) (p10 : ((((I (b + 1) 0) = 3) → (¬ ((sp_65 (I (b + 3) 0) (I (b + 5) (3 * x1).toNatClampNeg) (I (b + 6) (3 * x1).toNatClampNeg)) ≤ (I (b + 1) 1))) → vf_n32 (FP.fmul (FP.i2f ((sp_65 (I (b + 3) 0) (I (b + 5) (3 * x1).toNatClampNeg) (I (b + 6) (3 * x1).toNatClampNeg)) - (I (b + 1) 1))) (FP.i2f ((sp_65 (I (b + 3) 0) (I (b + 5) (3 * x1).toNatClampNeg) (I (b + 6) (3 * x1).toNatClampNeg)) - (I (b + 1) 1))))))) (p11 : ((((I (b + 1) 0) = 3) → (¬ ((sp_65 (I (b + 3) 0) (I (b + 5) (3 * x1).toNatClampNeg) (I (b + 6) (3 * x1).toNatClampNeg)) ≤ (I (b + 1) 1))) → vf_n32 (FP.fmul (FP.fmul (FP.i2f ((sp_65 (I (b + 3) 0) (I (b + 5) (3 * x1).toNatClampNeg) (I (b + 6) (3 * x1).toNatClampNeg)) - (I (b + 1) 1))) (FP.i2f ((sp_65 (I (b + 3) 0) (I (b + 5) (3 * x1).toNatClampNeg) (I (b + 6) (3 * x1).toNatClampNeg)) - (I (b + 1) 1)))) (FP.i2f (I ((b + 1) + 1) (0 : Int32).toNatClampNeg)))))) (p12 : (((¬ (I (b + 1) 0) = 0) → (¬ (I (b + 1) 0) = 1) → (¬ (I (b + 1) 0) = 2) → (¬ (I (b + 1) 0) = 3) → (¬ (I (b + 1) 0) = 4) → ((sp_65 (I (b + 3) 0) (I (b + 5) (3 * x1).toNatClampNeg) (I (b + 6) (3 * x1).toNatClampNeg)) ≤ (I (b + 1) 1)) → vf_n32 (FP.fmul FP.fconst0 FP.fconst0)))) (p13 : (((¬ (I (b + 1) 0) = 0) → (¬ (I (b + 1) 0) = 1) → (¬ (I (b + 1) 0) = 2) → (¬ (I (b + 1) 0) = 3) → (¬ (I (b + 1) 0) = 4) → ((sp_65 (I (b + 3) 0) (I (b + 5) (3 * x1).toNatClampNeg) (I (b + 6) (3 * x1).toNatClampNeg)) ≤ (I (b + 1) 1)) → vf_n32 (FP.fmul (FP.fmul FP.fconst0 FP.fconst0) (FP.i2f (I ((b + 1) + 1) (0 : Int32).toNatClampNeg)))))) (p14 : (((¬ (I (b + 1) 0) = 0) → (¬ (I (b + 1) 0) = 1) → (¬ (I (b + 1) 0) = 2) → (¬ (I (b + 1) 0) = 3) → (¬ (I (b + 1) 0) = 4) → (¬ ((sp_65 (I (b + 3) 0) (I (b + 5) (3 * x1).toNatClampNeg) (I (b + 6) (3 * x1).toNatClampNeg)) ≤ (I (b + 1) 1))) → vf_n32 (FP.fmul (FP.i2f ((sp_65 (I (b + 3) 0) (I (b + 5) (3 * x1).toNatClampNeg) (I (b + 6) (3 * x1).toNatClampNeg)) - (I (b + 1) 1))) (FP.i2f ((sp_65 (I (b + 3) 0) (I (b + 5) (3 * x1).toNatClampNeg) (I (b + 6) (3 * x1).toNatClampNeg)) - (I (b + 1) 1))))))) (p15 : (((¬ (I (b + 1) 0) = 0) → (¬ (I (b + 1) 0) = 1) → (¬ (I (b + 1) 0) = 2) → (¬ (I (b + 1) 0) = 3) → (¬ (I (b + 1) 0) = 4) → (¬ ((sp_65 (I (b + 3) 0) (I (b + 5) (3 * x1).toNatClampNeg) (I (b + 6) (3 * x1).toNatClampNeg)) ≤ (I (b + 1) 1))) → vf_n32 (FP.fmul (FP.fmul (FP.i2f ((sp_65 (I (b + 3) 0) (I (b + 5) (3 * x1).toNatClampNeg) (I (b + 6) (3 * x1).toNatClampNeg)) - (I (b + 1) 1))) (FP.i2f ((sp_65 (I (b + 3) 0) (I (b + 5) (3 * x1).toNatClampNeg) (I (b + 6) (3 * x1).toNatClampNeg)) - (I (b + 1) 1)))) (FP.i2f (I ((b + 1) + 1) (0 : Int32).toNatClampNeg)))))) (p16 : ((vp_in (1 : Int32) 3))) (p17 : ((((I (b + 1) 0) = 0) → vf_n32 (FP.fmul (FP.i2f (sp_65 (I (b + 3) 1) (I (b + 5) ((3 * x1) + 1).toNatClampNeg) (I (b + 6) ((3 * x1) + 1).toNatClampNeg))) (FP.i2f (sp_65 (I (b + 3) 1) (I (b + 5) ((3 * x1) + 1).toNatClampNeg) (I (b + 6) ((3 * x1) + 1).toNatClampNeg))))))) (p18 : ((((I (b + 1) 0) = 1) → vf_n32 (FP.fmul (FP.i2f (sp_65 (I (b + 3) 1) (I (b + 5) ((3 * x1) + 1).toNatClampNeg) (I (b + 6) ((3 * x1) + 1).toNatClampNeg))) (FP.i2f (sp_65 (I (b + 3) 1) (I (b + 5) ((3 * x1) + 1).toNatClampNeg) (I (b + 6) ((3 * x1) + 1).toNatClampNeg))))))) (p19 : ((((I (b + 1) 0) = 1) → vf_n32 (FP.fmul (FP.fmul (FP.i2f (sp_65 (I (b + 3) 1) (I (b + 5) ((3 * x1) + 1).toNatClampNeg) (I (b + 6) ((3 * x1) + 1).toNatClampNeg))) (FP.i2f (sp_65 (I (b + 3) 1) (I (b + 5) ((3 * x1) + 1).toNatClampNeg) (I (b + 6) ((3 * x1) + 1).toNatClampNeg)))) (FP.i2f (I ((b + 1) + 1) (1 : Int32).toNatClampNeg)))))) (p20 : ((((I (b + 1) 0) = 3) → ((sp_65 (I (b + 3) 1) (I (b + 5) ((3 * x1) + 1).toNatClampNeg) (I (b + 6) ((3 * x1) + 1).toNatClampNeg)) ≤ (I (b + 1) 1)) → vf_n32 (FP.fmul FP.fconst0 FP.fconst0)))) (p21 : ((((I (b + 1) 0) = 3) → ((sp_65 (I (b + 3) 1) (I (b + 5) ((3 * x1) + 1).toNatClampNeg) (I (b + 6) ((3 * x1) + 1).toNatClampNeg)) ≤ (I (b + 1) 1)) → vf_n32 (FP.fmul (FP.fmul FP.fconst0 FP.fconst0) (FP.i2f (I ((b + 1) + 1) (1 : Int32).toNatClampNeg)))))) (p22 : ((((I (b + 1) 0) = 3) → (¬ ((sp_65 (I (b + 3) 1) (I (b + 5) ((3 * x1) + 1).toNatClampNeg) (I (b + 6) ((3 * x1) + 1).toNatClampNeg)) ≤ (I (b + 1) 1))) → vf_n32 (FP.fmul (FP.i2f ((sp_65 (I (b + 3) 1) (I (b + 5) ((3 * x1) + 1).toNatClampNeg) (I (b + 6) ((3 * x1) + 1).toNatClampNeg)) - (I (b + 1) 1))) (FP.i2f ((sp_65 (I (b + 3) 1) (I (b + 5) ((3 * x1) + 1).toNatClampNeg) (I (b + 6) ((3 * x1) + 1).toNatClampNeg)) - (I (b + 1) 1))))))) (p23 : ((((I (b + 1) 0) = 3) → (¬ ((sp_65 (I (b + 3) 1) (I (b + 5) ((3 * x1) + 1).toNatClampNeg) (I (b + 6) ((3 * x1) + 1).toNatClampNeg)) ≤ (I (b + 1) 1))) → vf_n32 (FP.fmul (FP.fmul (FP.i2f ((sp_65 (I (b + 3) 1) (I (b + 5) ((3 * x1) + 1).toNatClampNeg) (I (b + 6) ((3 * x1) + 1).toNatClampNeg)) - (I (b + 1) 1))) (FP.i2f ((sp_65 (I (b + 3) 1) (I (b + 5) ((3 * x1) + 1).toNatClampNeg) (I (b + 6) ((3 * x1) + 1).toNatClampNeg)) - (I (b + 1) 1)))) (FP.i2f (I ((b + 1) + 1) (1 : Int32).toNatClampNeg)))))) (p24 : (((¬ (I (b + 1) 0) = 0) → (¬ (I (b + 1) 0) = 1) → (¬ (I (b + 1) 0) = 2) → (¬ (I (b + 1) 0) = 3) → (¬ (I (b + 1) 0) = 4) → ((sp_65 (I (b + 3) 1) (I (b + 5) ((3 * x1) + 1).toNatClampNeg) (I (b + 6) ((3 * x1) + 1).toNatClampNeg)) ≤ (I (b + 1) 1)) → vf_n32 (FP.fmul FP.fconst0 FP.fconst0)))) (p25 : (((¬ (I (b + 1) 0) = 0) → (¬ (I (b + 1) 0) = 1) → (¬ (I (b + 1) 0) = 2) → (¬ (I (b + 1) 0) = 3) → (¬ (I (b + 1) 0) = 4) → ((sp_65 (I (b + 3) 1) (I (b + 5) ((3 * x1) + 1).toNatClampNeg) (I (b + 6) ((3 * x1) + 1).toNatClampNeg)) ≤ (I (b + 1) 1)) → vf_n32 (FP.fmul (FP.fmul FP.fconst0 FP.fconst0) (FP.i2f (I ((b + 1) + 1) (1 : Int32).toNatClampNeg)))))) (p26 : (((¬ (I (b + 1) 0) = 0) → (¬ (I (b + 1) 0) = 1) → (¬ (I (b + 1) 0) = 2) → (¬ (I (b + 1) 0) = 3) → (¬ (I (b + 1) 0) = 4) → (¬ ((sp_65 (I (b + 3) 1) (I (b + 5) ((3 * x1) + 1).toNatClampNeg) (I (b + 6) ((3 * x1) + 1).toNatClampNeg)) ≤ (I (b + 1) 1))) → vf_n32 (FP.fmul (FP.i2f ((sp_65 (I (b + 3) 1) (I (b + 5) ((3 * x1) + 1).toNatClampNeg) (I (b + 6) ((3 * x1) + 1).toNatClampNeg)) - (I (b + 1) 1))) (FP.i2f ((sp_65 (I (b + 3) 1) (I (b + 5) ((3 * x1) + 1).toNatClampNeg) (I (b + 6) ((3 * x1) + 1).toNatClampNeg)) - (I (b + 1) 1))))))) (p27 : (((¬ (I (b + 1) 0) = 0) → (¬ (I (b + 1) 0) = 1) → (¬ (I (b + 1) 0) = 2) → (¬ (I (b + 1) 0) = 3) → (¬ (I (b + 1) 0) = 4) → (¬ ((sp_65 (I (b + 3) 1) (I (b + 5) ((3 * x1) + 1).toNatClampNeg) (I (b + 6) ((3 * x1) + 1).toNatClampNeg)) ≤ (I (b + 1) 1))) → vf_n32 (FP.fmul (FP.fmul (FP.i2f ((sp_65 (I (b + 3) 1) (I (b + 5) ((3 * x1) + 1).toNatClampNeg) (I (b + 6) ((3 * x1) + 1).toNatClampNeg)) - (I (b + 1) 1))) (FP.i2f ((sp_65 (I (b + 3) 1) (I (b + 5) ((3 * x1) + 1).toNatClampNeg) (I (b + 6) ((3 * x1) + 1).toNatClampNeg)) - (I (b + 1) 1)))) (FP.i2f (I ((b + 1) + 1) (1 : Int32).toNatClampNeg)))))) (p28 : (((¬ (I (b + 1) 0) = 4) → vf_n32 (FP.fadd (sp_26 I (b + 1) (0 : Int32) (sp_65 (I (b + 3) 0) (I (b + 5) (3 * x1).toNatClampNeg) (I (b + 6) (3 * x1).toNatClampNeg))) (sp_26 I (b + 1) (1 : Int32) (sp_65 (I (b + 3) 1) (I (b + 5) ((3 * x1) + 1).toNatClampNeg) (I (b + 6) ((3 * x1) + 1).toNatClampNeg))))))) (p29 : ((vp_in (2 : Int32) 3))) (p30 : ((((I (b + 1) 0) = 0) → vf_n32 (FP.fmul (FP.i2f (sp_65 (I (b + 3) 2) (I (b + 5) ((3 * x1) + 2).toNatClampNeg) (I (b + 6) ((3 * x1) + 2).toNatClampNeg))) (FP.i2f (sp_65 (I (b + 3) 2) (I (b + 5) ((3 * x1) + 2).toNatClampNeg) (I (b + 6) ((3 * x1) + 2).toNatClampNeg))))))) (p31 : ((((I (b + 1) 0) = 1) → vf_n32 (FP.fmul (FP.i2f (sp_65 (I (b + 3) 2) (I (b + 5) ((3 * x1) + 2).toNatClampNeg) (I (b + 6) ((3 * x1) + 2).toNatClampNeg))) (FP.i2f (sp_65 (I (b + 3) 2) (I (b + 5) ((3 * x1) + 2).toNatClampNeg) (I (b + 6) ((3 * x1) + 2).toNatClampNeg))))))) (p32 : ((((I (b + 1) 0) = 1) → vf_n32 (FP.fmul (FP.fmul (FP.i2f (sp_65 (I (b + 3) 2) (I (b + 5) ((3 * x1) + 2).toNatClampNeg) (I (b + 6) ((3 * x1) + 2).toNatClampNeg))) (FP.i2f (sp_65 (I (b + 3) 2) (I (b + 5) ((3 * x1) + 2).toNatClampNeg) (I (b + 6) ((3 * x1) + 2).toNatClampNeg)))) (FP.i2f (I ((b + 1) + 1) (2 : Int32).toNatClampNeg)))))) (p33 : ((((I (b + 1) 0) = 3) → ((sp_65 (I (b + 3) 2) (I (b + 5) ((3 * x1) + 2).toNatClampNeg) (I (b + 6) ((3 * x1) + 2).toNatClampNeg)) ≤ (I (b + 1) 1)) → vf_n32 (FP.fmul FP.fconst0 FP.fconst0)))) (p34 : ((((I (b + 1) 0) = 3) → ((sp_65 (I (b + 3) 2) (I (b + 5) ((3 * x1) + 2).toNatClampNeg) (I (b + 6) ((3 * x1) + 2).toNatClampNeg)) ≤ (I (b + 1) 1)) → vf_n32 (FP.fmul (FP.fmul FP.fconst0 FP.fconst0) (FP.i2f (I ((b + 1) + 1) (2 : Int32).toNatClampNeg)))))) (p35 : ((((I (b + 1) 0) = 3) → (¬ ((sp_65 (I (b + 3) 2) (I (b + 5) ((3 * x1) + 2).toNatClampNeg) (I (b + 6) ((3 * x1) + 2).toNatClampNeg)) ≤ (I (b + 1) 1))) → vf_n32 (FP.fmul (FP.i2f ((sp_65 (I (b + 3) 2) (I (b + 5) ((3 * x1) + 2).toNatClampNeg) (I (b + 6) ((3 * x1) + 2).toNatClampNeg)) - (I (b + 1) 1))) (FP.i2f ((sp_65 (I (b + 3) 2) (I (b + 5) ((3 * x1) + 2).toNatClampNeg) (I (b + 6) ((3 * x1) + 2).toNatClampNeg)) - (I (b + 1) 1))))))) (p36 : ((((I (b + 1) 0) = 3) → (¬ ((sp_65 (I (b + 3) 2) (I (b + 5) ((3 * x1) + 2).toNatClampNeg) (I (b + 6) ((3 * x1) + 2).toNatClampNeg)) ≤ (I (b + 1) 1))) → vf_n32 (FP.fmul (FP.fmul (FP.i2f ((sp_65 (I (b + 3) 2) (I (b + 5) ((3 * x1) + 2).toNatClampNeg) (I (b + 6) ((3 * x1) + 2).toNatClampNeg)) - (I (b + 1) 1))) (FP.i2f ((sp_65 (I (b + 3) 2) (I (b + 5) ((3 * x1) + 2).toNatClampNeg) (I (b + 6) ((3 * x1) + 2).toNatClampNeg)) - (I (b + 1) 1)))) (FP.i2f (I ((b + 1) + 1) (2 : Int32).toNatClampNeg)))))) (p37 : (((¬ (I (b + 1) 0) = 0) → (¬ (I (b + 1) 0) = 1) → (¬ (I (b + 1) 0) = 2) → (¬ (I (b + 1) 0) = 3) → (¬ (I (b + 1) 0) = 4) → ((sp_65 (I (b + 3) 2) (I (b + 5) ((3 * x1) + 2).toNatClampNeg) (I (b + 6) ((3 * x1) + 2).toNatClampNeg)) ≤ (I (b + 1) 1)) → vf_n32 (FP.fmul FP.fconst0 FP.fconst0)))) (p38 : (((¬ (I (b + 1) 0) = 0) → (¬ (I (b + 1) 0) = 1) → (¬ (I (b + 1) 0) = 2) → (¬ (I (b + 1) 0) = 3) → (¬ (I (b + 1) 0) = 4) → ((sp_65 (I (b + 3) 2) (I (b + 5) ((3 * x1) + 2).toNatClampNeg) (I (b + 6) ((3 * x1) + 2).toNatClampNeg)) ≤ (I (b + 1) 1)) → vf_n32 (FP.fmul (FP.fmul FP.fconst0 FP.fconst0) (FP.i2f (I ((b + 1) + 1) (2 : Int32).toNatClampNeg)))))) (p39 : (((¬ (I (b + 1) 0) = 0) → (¬ (I (b + 1) 0) = 1) → (¬ (I (b + 1) 0) = 2) → (¬ (I (b + 1) 0) = 3) → (¬ (I (b + 1) 0) = 4) → (¬ ((sp_65 (I (b + 3) 2) (I (b + 5) ((3 * x1) + 2).toNatClampNeg) (I (b + 6) ((3 * x1) + 2).toNatClampNeg)) ≤ (I (b + 1) 1))) → vf_n32 (FP.fmul (FP.i2f ((sp_65 (I (b + 3) 2) (I (b + 5) ((3 * x1) + 2).toNatClampNeg) (I (b + 6) ((3 * x1) + 2).toNatClampNeg)) - (I (b + 1) 1))) (FP.i2f ((sp_65 (I (b + 3) 2) (I (b + 5) ((3 * x1) + 2).toNatClampNeg) (I (b + 6) ((3 * x1) + 2).toNatClampNeg)) - (I (b + 1) 1))))))) (p40 : (((¬ (I (b + 1) 0) = 0) → (¬ (I (b + 1) 0) = 1) → (¬ (I (b + 1) 0) = 2) → (¬ (I (b + 1) 0) = 3) → (¬ (I (b + 1) 0) = 4) → (¬ ((sp_65 (I (b + 3) 2) (I (b + 5) ((3 * x1) + 2).toNatClampNeg) (I (b + 6) ((3 * x1) + 2).toNatClampNeg)) ≤ (I (b + 1) 1))) → vf_n32 (FP.fmul (FP.fmul (FP.i2f ((sp_65 (I (b + 3) 2) (I (b + 5) ((3 * x1) + 2).toNatClampNeg) (I (b + 6) ((3 * x1) + 2).toNatClampNeg)) - (I (b + 1) 1))) (FP.i2f ((sp_65 (I (b + 3) 2) (I (b + 5) ((3 * x1) + 2).toNatClampNeg) (I (b + 6) ((3 * x1) + 2).toNatClampNeg)) - (I (b + 1) 1)))) (FP.i2f (I ((b + 1) + 1) (2 : Int32).toNatClampNeg)))))) (p41 : (((¬ (I (b + 1) 0) = 4) → vf_n32 (FP.fadd (sp_27 I (b + 1) (sp_26 I (b + 1) (0 : Int32) (sp_65 (I (b + 3) 0) (I (b + 5) (3 * x1).toNatClampNeg) (I (b + 6) (3 * x1).toNatClampNeg))) (sp_26 I (b + 1) (1 : Int32) (sp_65 (I (b + 3) 1) (I (b + 5) ((3 * x1) + 1).toNatClampNeg) (I (b + 6) ((3 * x1) + 1).toNatClampNeg)))) (sp_26 I (b + 1) (2 : Int32) (sp_65 (I (b + 3) 2) (I (b + 5) ((3 * x1) + 2).toNatClampNeg) (I (b + 6) ((3 * x1) + 2).toNatClampNeg))))))) (p42 : (((¬ (I (b + 1) 0) = 2) → (¬ (¬ (I (b + 1) 0) = 4)) → vf_n32 (FP.fmul 1082130432 (sp_27 I (b + 1) (sp_27 I (b + 1) (sp_26 I (b + 1) (0 : Int32) (sp_65 (I (b + 3) 0) (I (b + 5) (3 * x1).toNatClampNeg) (I (b + 6) (3 * x1).toNatClampNeg))) (sp_26 I (b + 1) (1 : Int32) (sp_65 (I (b + 3) 1) (I (b + 5) ((3 * x1) + 1).toNatClampNeg) (I (b + 6) ((3 * x1) + 1).toNatClampNeg)))) (sp_26 I (b + 1) (2 : Int32) (sp_65 (I (b + 3) 2) (I (b + 5) ((3 * x1) + 2).toNatClampNeg) (I (b + 6) ((3 * x1) + 2).toNatClampNeg)))))))) (p43 : (((¬ (I (b + 1) 0) = 2) → (¬ (¬ (I (b + 1) 0) = 4)) → vf_n32 (FP.fadd (FP.fmul 1082130432 (sp_27 I (b + 1) (sp_27 I (b + 1) (sp_26 I (b + 1) (0 : Int32) (sp_65 (I (b + 3) 0) (I (b + 5) (3 * x1).toNatClampNeg) (I (b + 6) (3 * x1).toNatClampNeg))) (sp_26 I (b + 1) (1 : Int32) (sp_65 (I (b + 3) 1) (I (b + 5) ((3 * x1) + 1).toNatClampNeg) (I (b + 6) ((3 * x1) + 1).toNatClampNeg)))) (sp_26 I (b + 1) (2 : Int32) (sp_65 (I (b + 3) 2) (I (b + 5) ((3 * x1) + 2).toNatClampNeg) (I (b + 6) ((3 * x1) + 2).toNatClampNeg))))) FP.fconst1)))) (p44 : (((¬ (¬ (I (b + 1) 0) = 2)) → vf_n32 (FP.fmul 1082130432 (sp_27 I (b + 1) (sp_27 I (b + 1) (sp_26 I (b + 1) (0 : Int32) (sp_65 (I (b + 3) 0) (I (b + 5) (3 * x1).toNatClampNeg) (I (b + 6) (3 * x1).toNatClampNeg))) (sp_26 I (b + 1) (1 : Int32) (sp_65 (I (b + 3) 1) (I (b + 5) ((3 * x1) + 1).toNatClampNeg) (I (b + 6) ((3 * x1) + 1).toNatClampNeg)))) (sp_26 I (b + 1) (2 : Int32) (sp_65 (I (b + 3) 2) (I (b + 5) ((3 * x1) + 2).toNatClampNeg) (I (b + 6) ((3 * x1) + 2).toNatClampNeg)))))))) (p45 : (vf_n32 (FP.fmul (sp_28 I (b + 1) (sp_27 I (b + 1) (sp_27 I (b + 1) (sp_26 I (b + 1) (0 : Int32) (sp_65 (I (b + 3) 0) (I (b + 5) (3 * x1).toNatClampNeg) (I (b + 6) (3 * x1).toNatClampNeg))) (sp_26 I (b + 1) (1 : Int32) (sp_65 (I (b + 3) 1) (I (b + 5) ((3 * x1) + 1).toNatClampNeg) (I (b + 6) ((3 * x1) + 1).toNatClampNeg)))) (sp_26 I (b + 1) (2 : Int32) (sp_65 (I (b + 3) 2) (I (b + 5) ((3 * x1) + 2).toNatClampNeg) (I (b + 6) ((3 * x1) + 2).toNatClampNeg))))) 1065353200))) : Con l 68 (d + 2) 0 0 [.ref b, .int x1] SH (I, F, L, RT t) (rF (sp_68 I b x1) (I, F, L, RT t)) := by
  refine cn_68 ?_
  unfold sp_68
  refine bk_68_0 hb p1 (cs_65 (d := d + 1) ) ?_
  refine bk_68_29 hb p2 (cs_65 (d := d + 1) ) ?_
  refine bk_68_54 hb p3 (cs_65 (d := d + 1) ) ?_
  refine bk_68_79 hb (cs_25 (d := d + 0) (isM_S hb) (p4) (p5) (p6) (p7) (p8) (p9) (p10) (p11) (p12) (p13) (p14) (p15) (p16) (p17) (p18) (p19) (p20) (p21) (p22) (p23) (p24) (p25) (p26) (p27) (p28) (p29) (p30) (p31) (p32) (p33) (p34) (p35) (p36) (p37) (p38) (p39) (p40) (p41) (p42) (p43) (p44) (p45)) ?_
  exact bk_68_82 ⟨rfl, rfl, rfl⟩
/-- VectorShelf$Shelf.between(II)I -/
def sp_71 (I : Nat → Nat → Int32) (b : Nat) (x1 : Int32) (x2 : Int32) : Int32 := (sp_29 I (b + 1) (sp_285 ((I (b + 7) (3 * x1).toNatClampNeg) - (I (b + 7) (3 * x2).toNatClampNeg))) (sp_285 ((I (b + 7) ((3 * x1) + 1).toNatClampNeg) - (I (b + 7) ((3 * x2) + 1).toNatClampNeg))) (sp_285 ((I (b + 7) ((3 * x1) + 2).toNatClampNeg) - (I (b + 7) ((3 * x2) + 2).toNatClampNeg))))
theorem cs_71 {l : LX} {d : Nat} {I : Nat → Nat → Int32} {F : Nat → Nat → UInt32} {L : Nat → Nat → Int64} {t : Nat} {b : Nat} {x1 : Int32} {x2 : Int32} (hb : isS b) (p1 : vp_in (3 * x1) 36) (p2 : vp_in (3 * x2) 36) (p3 : vp_in ((3 * x1) + 1) 36) (p4 : vp_in ((3 * x2) + 1) 36) (p5 : vp_in ((3 * x1) + 2) 36) (p6 : vp_in ((3 * x2) + 2) 36) (p7 : ((((I (b + 1) 0) = 1) → vp_in (0 : Int32) 3))) (p8 : ((((I (b + 1) 0) = 3) → ((sp_285 ((I (b + 7) (3 * x1).toNatClampNeg) - (I (b + 7) (3 * x2).toNatClampNeg))) ≤ (I (b + 1) 1)) → vp_in (0 : Int32) 3))) (p9 : ((((I (b + 1) 0) = 3) → (¬ ((sp_285 ((I (b + 7) (3 * x1).toNatClampNeg) - (I (b + 7) (3 * x2).toNatClampNeg))) ≤ (I (b + 1) 1))) → vp_in (0 : Int32) 3))) (p10 : (((¬ (I (b + 1) 0) = 0) → (¬ (I (b + 1) 0) = 1) → (¬ (I (b + 1) 0) = 2) → (¬ (I (b + 1) 0) = 3) → (¬ (I (b + 1) 0) = 4) → ((sp_285 ((I (b + 7) (3 * x1).toNatClampNeg) - (I (b + 7) (3 * x2).toNatClampNeg))) ≤ (I (b + 1) 1)) → vp_in (0 : Int32) 3))) (p11 : (((¬ (I (b + 1) 0) = 0) → (¬ (I (b + 1) 0) = 1) → (¬ (I (b + 1) 0) = 2) → (¬ (I (b + 1) 0) = 3) → (¬ (I (b + 1) 0) = 4) → (¬ ((sp_285 ((I (b + 7) (3 * x1).toNatClampNeg) - (I (b + 7) (3 * x2).toNatClampNeg))) ≤ (I (b + 1) 1))) → vp_in (0 : Int32) 3))) (p12 : ((((I (b + 1) 0) = 1) → vp_in (1 : Int32) 3))) (p13 : ((((I (b + 1) 0) = 3) → ((sp_285 ((I (b + 7) ((3 * x1) + 1).toNatClampNeg) - (I (b + 7) ((3 * x2) + 1).toNatClampNeg))) ≤ (I (b + 1) 1)) → vp_in (1 : Int32) 3))) (p14 : ((((I (b + 1) 0) = 3) → (¬ ((sp_285 ((I (b + 7) ((3 * x1) + 1).toNatClampNeg) - (I (b + 7) ((3 * x2) + 1).toNatClampNeg))) ≤ (I (b + 1) 1))) → vp_in (1 : Int32) 3))) (p15 : (((¬ (I (b + 1) 0) = 0) → (¬ (I (b + 1) 0) = 1) → (¬ (I (b + 1) 0) = 2) → (¬ (I (b + 1) 0) = 3) → (¬ (I (b + 1) 0) = 4) → ((sp_285 ((I (b + 7) ((3 * x1) + 1).toNatClampNeg) - (I (b + 7) ((3 * x2) + 1).toNatClampNeg))) ≤ (I (b + 1) 1)) → vp_in (1 : Int32) 3))) (p16 : (((¬ (I (b + 1) 0) = 0) → (¬ (I (b + 1) 0) = 1) → (¬ (I (b + 1) 0) = 2) → (¬ (I (b + 1) 0) = 3) → (¬ (I (b + 1) 0) = 4) → (¬ ((sp_285 ((I (b + 7) ((3 * x1) + 1).toNatClampNeg) - (I (b + 7) ((3 * x2) + 1).toNatClampNeg))) ≤ (I (b + 1) 1))) → vp_in (1 : Int32) 3))) (p17 : ((((I (b + 1) 0) = 1) → vp_in (2 : Int32) 3))) (p18 : ((((I (b + 1) 0) = 3) → ((sp_285 ((I (b + 7) ((3 * x1) + 2).toNatClampNeg) - (I (b + 7) ((3 * x2) + 2).toNatClampNeg))) ≤ (I (b + 1) 1)) → vp_in (2 : Int32) 3))) (p19 : ((((I (b + 1) 0) = 3) → (¬ ((sp_285 ((I (b + 7) ((3 * x1) + 2).toNatClampNeg) - (I (b + 7) ((3 * x2) + 2).toNatClampNeg))) ≤ (I (b + 1) 1))) → vp_in (2 : Int32) 3))) (p20 : (((¬ (I (b + 1) 0) = 0) → (¬ (I (b + 1) 0) = 1) → (¬ (I (b + 1) 0) = 2) → (¬ (I (b + 1) 0) = 3) → (¬ (I (b + 1) 0) = 4) → ((sp_285 ((I (b + 7) ((3 * x1) + 2).toNatClampNeg) - (I (b + 7) ((3 * x2) + 2).toNatClampNeg))) ≤ (I (b + 1) 1)) → vp_in (2 : Int32) 3))) (p21 : (((¬ (I (b + 1) 0) = 0) → (¬ (I (b + 1) 0) = 1) → (¬ (I (b + 1) 0) = 2) → (¬ (I (b + 1) 0) = 3) → (¬ (I (b + 1) 0) = 4) → (¬ ((sp_285 ((I (b + 7) ((3 * x1) + 2).toNatClampNeg) - (I (b + 7) ((3 * x2) + 2).toNatClampNeg))) ≤ (I (b + 1) 1))) → vp_in (2 : Int32) 3))) : Con l 71 (d + 2) 0 0 [.ref b, .int x1, .int x2] SH (I, F, L, RT t) (rI (sp_71 I b x1 x2) (I, F, L, RT t)) := by
  refine cn_71 ?_
  unfold sp_71
  refine bk_71_0 hb p1 p2 (cs_285 (d := d + 1) ) ?_
  refine bk_71_30 hb p3 p4 (cs_285 (d := d + 1) ) ?_
  refine bk_71_51 hb p5 p6 (cs_285 (d := d + 1) ) ?_
  refine bk_71_72 hb (cs_29 (d := d + 0) (isM_S hb) (p7) (p8) (p9) (p10) (p11) (p12) (p13) (p14) (p15) (p16) (p17) (p18) (p19) (p20) (p21)) ?_
  exact bk_71_75 ⟨rfl, rfl, rfl⟩
/-- VectorShelf$Shelf.standAt(I)V -/
def fn_78 (I : Nat → Nat → Int32) (F : Nat → Nat → UInt32) (L : Nat → Nat → Int64) (t : Nat) (b : Nat) (x1 : Int32) : (Nat → Nat → Int32) × (Nat → Nat → UInt32) × (Nat → Nat → Int64) × Nat := (if (sp_107 x1 (0 : Int32) ((I b 8) - 1)) = 0 then (bndV (fn_70 I F L t b (0 : Int32) (0 : Int32) (0 : Int32)) (fun I1 F1 L1 t1 => (I1, F1, L1, t1))) else (bndV (fn_70 I F L t b (I (b + 7) (3 * x1).toNatClampNeg) (I (b + 7) ((3 * x1) + 1).toNatClampNeg) (I (b + 7) ((3 * x1) + 2).toNatClampNeg)) (fun I2 F2 L2 t2 => (I2, F2, L2, t2))))
theorem ci_78 {l : LX} {d : Nat} {I : Nat → Nat → Int32} {F : Nat → Nat → UInt32} {L : Nat → Nat → Int64} {t : Nat} {b : Nat} {x1 : Int32} (hb : isS b) (p1 : (¬ ((sp_107 x1 (0 : Int32) ((I b 8) - 1)) = 0)) → vp_in (3 * x1) 36) (p2 : (¬ ((sp_107 x1 (0 : Int32) ((I b 8) - 1)) = 0)) → vp_in ((3 * x1) + 1) 36) (p3 : (¬ ((sp_107 x1 (0 : Int32) ((I b 8) - 1)) = 0)) → vp_in ((3 * x1) + 2) 36) : Con l 78 (d + 1) 0 0 [.ref b, .int x1] SH (I, F, L, RT t) (rTV (fn_78 I F L t b x1)) := by
  refine cn_78 ?_
  unfold fn_78
  refine bk_78_0 hb (cs_107 (d := d + 0) ) ?_
  refine bk_78_11 (fun h0 => ?_) (fun h0 => ?_)
  · rw [if_pos h0]
    refine bk_78_49 hb (Con_QV (ci_70 (d := d + 0) hb)) (fun I1 F1 L1 t1 e1 => ?_)
    rw [← e1]
    dsimp only [bndV]
    exact bk_78_56 ⟨rfl, rfl, rfl⟩
  · rw [if_neg h0]
    refine bk_78_14 hb (p1 h0) (p2 h0) (p3 h0) (Con_QV (ci_70 (d := d + 0) hb)) (fun I2 F2 L2 t2 e2 => ?_)
    rw [← e2]
    dsimp only [bndV]
    refine bk_78_46 ?_
    exact bk_78_56 ⟨rfl, rfl, rfl⟩
/-- VectorShelf.isPlace(III)Z -/
def sp_106 (x0 : Int32) (x1 : Int32) (x2 : Int32) : Int32 := (if (sp_107 x0 (-999 : Int32) (999 : Int32)) = 0 then 0 else (if (sp_107 x1 (-999 : Int32) (999 : Int32)) = 0 then 0 else (if (sp_107 x2 (-999 : Int32) (999 : Int32)) = 0 then 0 else 1)))
theorem cs_106 {l : LX} {d : Nat} {I : Nat → Nat → Int32} {F : Nat → Nat → UInt32} {L : Nat → Nat → Int64} {t : Nat} {x0 : Int32} {x1 : Int32} {x2 : Int32} : Con l 106 (d + 1) 0 0 [.int x0, .int x1, .int x2] SH (I, F, L, RT t) (rI (sp_106 x0 x1 x2) (I, F, L, RT t)) := by
  refine cn_106 ?_
  unfold sp_106
  refine bk_106_0 (cs_107 (d := d + 0) ) ?_
  refine bk_106_10 (fun h0 => ?_) (fun h0 => ?_)
  · rw [if_pos h0]
    refine bk_106_43 ?_
    exact bk_106_44 (by decide) ⟨rfl, rfl, rfl⟩
  · rw [if_neg h0]
    refine bk_106_13 (cs_107 (d := d + 0) ) ?_
    refine bk_106_23 (fun h1 => ?_) (fun h1 => ?_)
    · rw [if_pos h1]
      refine bk_106_43 ?_
      exact bk_106_44 (by decide) ⟨rfl, rfl, rfl⟩
    · rw [if_neg h1]
      refine bk_106_26 (cs_107 (d := d + 0) ) ?_
      refine bk_106_36 (fun h2 => ?_) (fun h2 => ?_)
      · rw [if_pos h2]
        refine bk_106_43 ?_
        exact bk_106_44 (by decide) ⟨rfl, rfl, rfl⟩
      · rw [if_neg h2]
        refine bk_106_39 ?_
        exact bk_106_44 (by decide) ⟨rfl, rfl, rfl⟩
theorem sb_106 (x0 : Int32) (x1 : Int32) (x2 : Int32) : (sp_106 x0 x1 x2) &&& 1 = (sp_106 x0 x1 x2) := by
  unfold sp_106
  repeat' split
  all_goals first | rfl | exact sb_107 ..
/-- VectorShelf.drop(II)I -/
def fn_112 (I : Nat → Nat → Int32) (F : Nat → Nat → UInt32) (L : Nat → Nat → Int64) (t : Nat) (x1 : Int32) (x2 : Int32) : Int32 × (Nat → Nat → Int32) × (Nat → Nat → UInt32) × (Nat → Nat → Int64) × Nat := (if (sp_110 I x1) = 0 then ((-2), I, F, L, t) else (if ¬ (sp_107 x2 (0 : Int32) (1 : Int32)) = 0 then (if ¬ (I 10 x1.toNatClampNeg) = (-1) then (if (sp_61 I 1 x1) = 0 then (if ¬ x2 = 0 then (bndV (fn_56 I F L t 1 x1 (0 : Int32)) (fun I1 F1 L1 t1 => (1, I1, F1, L1, t1))) else (bndV (fn_56 I F L t 1 x1 (1 : Int32)) (fun I2 F2 L2 t2 => (1, I2, F2, L2, t2)))) else (if ¬ x2 = 0 then (bndV (fn_56 I F L t 1 x1 (0 : Int32)) (fun I3 F3 L3 t3 => (0, I3, F3, L3, t3))) else (bndV (fn_56 I F L t 1 x1 (1 : Int32)) (fun I4 F4 L4 t4 => (0, I4, F4, L4, t4))))) else ((-3), I, F, L, t)) else ((-2), I, F, L, t)))
theorem ci_112 {l : LX} {d : Nat} {I : Nat → Nat → Int32} {F : Nat → Nat → UInt32} {L : Nat → Nat → Int64} {t : Nat} {x1 : Int32} {x2 : Int32} (p1 : (¬ ((sp_110 I x1) = 0)) → (¬ (sp_107 x2 (0 : Int32) (1 : Int32)) = 0) → vp_in x1 12) : Con l 112 (d + 2) 0 0 [.ref 0, .int x1, .int x2] SH (I, F, L, RT t) (rT (fn_112 I F L t x1 x2)) := by
  refine cn_112 ?_
  unfold fn_112
  refine bk_112_0 (cs_110 (d := d + 0) ) ?_
  refine bk_112_5 (fun h0 => ?_) (fun h0 => ?_)
  · rw [if_pos h0]
    exact bk_112_17 ⟨rfl, rfl, rfl⟩
  · rw [if_neg h0]
    refine bk_112_8 (cs_107 (d := d + 1) ) ?_
    refine bk_112_14 (fun h1 => ?_) (fun h1 => ?_)
    · rw [if_pos h1]
      refine bk_112_20 (p1 h0 h1) (fun h2 => ?_) (fun h2 => ?_)
      · rw [if_pos h2]
        refine bk_112_36 (cs_61 (d := d + 0) (by first | decide | (unfold isS; decide) | (unfold isS; omega))) ?_
        refine bk_112_44 (fun h3 => ?_) (fun h3 => ?_)
        · rw [if_pos h3]
          refine bk_112_51 ?_
          refine bk_112_52 (fun h4 => ?_) (fun h4 => ?_)
          · rw [if_pos h4]
            refine bk_112_66 ?_
            refine bk_112_67 (Con_QV (ci_56 (d := d + 1) (by first | decide | (unfold isS; decide) | (unfold isS; omega)))) (fun I1 F1 L1 t1 e1 => ?_)
            rw [← e1]
            dsimp only [bndV]
            exact bk_112_70 ⟨rfl, rfl, rfl⟩
          · rw [if_neg h4]
            refine bk_112_62 ?_
            refine bk_112_67 (Con_QV (ci_56 (d := d + 1) (by first | decide | (unfold isS; decide) | (unfold isS; omega)))) (fun I2 F2 L2 t2 e2 => ?_)
            rw [← e2]
            dsimp only [bndV]
            exact bk_112_70 ⟨rfl, rfl, rfl⟩
        · rw [if_neg h3]
          refine bk_112_47 ?_
          refine bk_112_52 (fun h4 => ?_) (fun h4 => ?_)
          · rw [if_pos h4]
            refine bk_112_66 ?_
            refine bk_112_67 (Con_QV (ci_56 (d := d + 1) (by first | decide | (unfold isS; decide) | (unfold isS; omega)))) (fun I3 F3 L3 t3 e3 => ?_)
            rw [← e3]
            dsimp only [bndV]
            exact bk_112_70 ⟨rfl, rfl, rfl⟩
          · rw [if_neg h4]
            refine bk_112_62 ?_
            refine bk_112_67 (Con_QV (ci_56 (d := d + 1) (by first | decide | (unfold isS; decide) | (unfold isS; omega)))) (fun I4 F4 L4 t4 e4 => ?_)
            rw [← e4]
            dsimp only [bndV]
            exact bk_112_70 ⟨rfl, rfl, rfl⟩
      · rw [if_neg h2]
        exact bk_112_33 ⟨rfl, rfl, rfl⟩
    · rw [if_neg h1]
      exact bk_112_17 ⟨rfl, rfl, rfl⟩
/-- VectorShelf.set(II)I -/
def fn_117 (I : Nat → Nat → Int32) (F : Nat → Nat → UInt32) (L : Nat → Nat → Int64) (t : Nat) (x1 : Int32) (x2 : Int32) : Int32 × (Nat → Nat → Int32) × (Nat → Nat → UInt32) × (Nat → Nat → Int64) × Nat := (if ¬ (sp_118 x1 x2) = 0 then (bnd (fn_69 I F L t 1 x1 x2) (fun z1 I1 F1 L1 t1 => (z1, I1, F1, L1, t1))) else ((-2), I, F, L, t))
theorem ci_117 {l : LX} {d : Nat} {I : Nat → Nat → Int32} {F : Nat → Nat → UInt32} {L : Nat → Nat → Int64} {t : Nat} {x1 : Int32} {x2 : Int32} (p1 : (¬ (sp_118 x1 x2) = 0) → ((x1 = 4) → vp_in (x1 - 4) 3)) (p2 : (¬ (sp_118 x1 x2) = 0) → ((x1 = 5) → vp_in (x1 - 4) 3)) (p3 : (¬ (sp_118 x1 x2) = 0) → ((x1 = 6) → vp_in (x1 - 4) 3)) : Con l 117 (d + 2) 0 0 [.ref 0, .int x1, .int x2] SH (I, F, L, RT t) (rT (fn_117 I F L t x1 x2)) := by
  refine cn_117 ?_
  unfold fn_117
  refine bk_117_0 (cs_118 (d := d + 0) ) ?_
  refine bk_117_5 (fun h0 => ?_) (fun h0 => ?_)
  · rw [if_pos h0]
    refine bk_117_11 (Con_Q (ci_69 (d := d + 1) (by first | decide | (unfold isS; decide) | (unfold isS; omega)) (p1 h0) (p2 h0) (p3 h0))) (fun z1 I1 F1 L1 t1 e1 => ?_)
    rw [← e1]
    dsimp only [bnd]
    exact bk_117_20 ⟨rfl, rfl, rfl⟩
  · rw [if_neg h0]
    exact bk_117_8 ⟨rfl, rfl, rfl⟩
/-- VectorShelf.apart(II)I -/
def sp_121 (I : Nat → Nat → Int32) (x1 : Int32) (x2 : Int32) : Int32 := (if (sp_110 I x1) = 0 then (-2) else (if ¬ (sp_110 I x2) = 0 then (sp_71 I 1 x1 x2) else (-2)))
theorem cs_121 {l : LX} {d : Nat} {I : Nat → Nat → Int32} {F : Nat → Nat → UInt32} {L : Nat → Nat → Int64} {t : Nat} {x1 : Int32} {x2 : Int32} (p1 : (¬ ((sp_110 I x1) = 0)) → (¬ (sp_110 I x2) = 0) → (vp_in (3 * x1) 36)) (p2 : (¬ ((sp_110 I x1) = 0)) → (¬ (sp_110 I x2) = 0) → (vp_in (3 * x2) 36)) (p3 : (¬ ((sp_110 I x1) = 0)) → (¬ (sp_110 I x2) = 0) → (vp_in ((3 * x1) + 1) 36)) (p4 : (¬ ((sp_110 I x1) = 0)) → (¬ (sp_110 I x2) = 0) → (vp_in ((3 * x2) + 1) 36)) (p5 : (¬ ((sp_110 I x1) = 0)) → (¬ (sp_110 I x2) = 0) → (vp_in ((3 * x1) + 2) 36)) (p6 : (¬ ((sp_110 I x1) = 0)) → (¬ (sp_110 I x2) = 0) → (vp_in ((3 * x2) + 2) 36)) (p7 : (¬ ((sp_110 I x1) = 0)) → (¬ (sp_110 I x2) = 0) → (((((I (1 + 1) 0) = 1) → vp_in (0 : Int32) 3)))) (p8 : (¬ ((sp_110 I x1) = 0)) → (¬ (sp_110 I x2) = 0) → (((((I (1 + 1) 0) = 3) → ((sp_285 ((I (1 + 7) (3 * x1).toNatClampNeg) - (I (1 + 7) (3 * x2).toNatClampNeg))) ≤ (I (1 + 1) 1)) → vp_in (0 : Int32) 3)))) (p9 : (¬ ((sp_110 I x1) = 0)) → (¬ (sp_110 I x2) = 0) → (((((I (1 + 1) 0) = 3) → (¬ ((sp_285 ((I (1 + 7) (3 * x1).toNatClampNeg) - (I (1 + 7) (3 * x2).toNatClampNeg))) ≤ (I (1 + 1) 1))) → vp_in (0 : Int32) 3)))) (p10 : (¬ ((sp_110 I x1) = 0)) → (¬ (sp_110 I x2) = 0) → ((((¬ (I (1 + 1) 0) = 0) → (¬ (I (1 + 1) 0) = 1) → (¬ (I (1 + 1) 0) = 2) → (¬ (I (1 + 1) 0) = 3) → (¬ (I (1 + 1) 0) = 4) → ((sp_285 ((I (1 + 7) (3 * x1).toNatClampNeg) - (I (1 + 7) (3 * x2).toNatClampNeg))) ≤ (I (1 + 1) 1)) → vp_in (0 : Int32) 3)))) (p11 : (¬ ((sp_110 I x1) = 0)) → (¬ (sp_110 I x2) = 0) → ((((¬ (I (1 + 1) 0) = 0) → (¬ (I (1 + 1) 0) = 1) → (¬ (I (1 + 1) 0) = 2) → (¬ (I (1 + 1) 0) = 3) → (¬ (I (1 + 1) 0) = 4) → (¬ ((sp_285 ((I (1 + 7) (3 * x1).toNatClampNeg) - (I (1 + 7) (3 * x2).toNatClampNeg))) ≤ (I (1 + 1) 1))) → vp_in (0 : Int32) 3)))) (p12 : (¬ ((sp_110 I x1) = 0)) → (¬ (sp_110 I x2) = 0) → (((((I (1 + 1) 0) = 1) → vp_in (1 : Int32) 3)))) (p13 : (¬ ((sp_110 I x1) = 0)) → (¬ (sp_110 I x2) = 0) → (((((I (1 + 1) 0) = 3) → ((sp_285 ((I (1 + 7) ((3 * x1) + 1).toNatClampNeg) - (I (1 + 7) ((3 * x2) + 1).toNatClampNeg))) ≤ (I (1 + 1) 1)) → vp_in (1 : Int32) 3)))) (p14 : (¬ ((sp_110 I x1) = 0)) → (¬ (sp_110 I x2) = 0) → (((((I (1 + 1) 0) = 3) → (¬ ((sp_285 ((I (1 + 7) ((3 * x1) + 1).toNatClampNeg) - (I (1 + 7) ((3 * x2) + 1).toNatClampNeg))) ≤ (I (1 + 1) 1))) → vp_in (1 : Int32) 3)))) (p15 : (¬ ((sp_110 I x1) = 0)) → (¬ (sp_110 I x2) = 0) → ((((¬ (I (1 + 1) 0) = 0) → (¬ (I (1 + 1) 0) = 1) → (¬ (I (1 + 1) 0) = 2) → (¬ (I (1 + 1) 0) = 3) → (¬ (I (1 + 1) 0) = 4) → ((sp_285 ((I (1 + 7) ((3 * x1) + 1).toNatClampNeg) - (I (1 + 7) ((3 * x2) + 1).toNatClampNeg))) ≤ (I (1 + 1) 1)) → vp_in (1 : Int32) 3)))) (p16 : (¬ ((sp_110 I x1) = 0)) → (¬ (sp_110 I x2) = 0) → ((((¬ (I (1 + 1) 0) = 0) → (¬ (I (1 + 1) 0) = 1) → (¬ (I (1 + 1) 0) = 2) → (¬ (I (1 + 1) 0) = 3) → (¬ (I (1 + 1) 0) = 4) → (¬ ((sp_285 ((I (1 + 7) ((3 * x1) + 1).toNatClampNeg) - (I (1 + 7) ((3 * x2) + 1).toNatClampNeg))) ≤ (I (1 + 1) 1))) → vp_in (1 : Int32) 3)))) (p17 : (¬ ((sp_110 I x1) = 0)) → (¬ (sp_110 I x2) = 0) → (((((I (1 + 1) 0) = 1) → vp_in (2 : Int32) 3)))) (p18 : (¬ ((sp_110 I x1) = 0)) → (¬ (sp_110 I x2) = 0) → (((((I (1 + 1) 0) = 3) → ((sp_285 ((I (1 + 7) ((3 * x1) + 2).toNatClampNeg) - (I (1 + 7) ((3 * x2) + 2).toNatClampNeg))) ≤ (I (1 + 1) 1)) → vp_in (2 : Int32) 3)))) (p19 : (¬ ((sp_110 I x1) = 0)) → (¬ (sp_110 I x2) = 0) → (((((I (1 + 1) 0) = 3) → (¬ ((sp_285 ((I (1 + 7) ((3 * x1) + 2).toNatClampNeg) - (I (1 + 7) ((3 * x2) + 2).toNatClampNeg))) ≤ (I (1 + 1) 1))) → vp_in (2 : Int32) 3)))) (p20 : (¬ ((sp_110 I x1) = 0)) → (¬ (sp_110 I x2) = 0) → ((((¬ (I (1 + 1) 0) = 0) → (¬ (I (1 + 1) 0) = 1) → (¬ (I (1 + 1) 0) = 2) → (¬ (I (1 + 1) 0) = 3) → (¬ (I (1 + 1) 0) = 4) → ((sp_285 ((I (1 + 7) ((3 * x1) + 2).toNatClampNeg) - (I (1 + 7) ((3 * x2) + 2).toNatClampNeg))) ≤ (I (1 + 1) 1)) → vp_in (2 : Int32) 3)))) (p21 : (¬ ((sp_110 I x1) = 0)) → (¬ (sp_110 I x2) = 0) → ((((¬ (I (1 + 1) 0) = 0) → (¬ (I (1 + 1) 0) = 1) → (¬ (I (1 + 1) 0) = 2) → (¬ (I (1 + 1) 0) = 3) → (¬ (I (1 + 1) 0) = 4) → (¬ ((sp_285 ((I (1 + 7) ((3 * x1) + 2).toNatClampNeg) - (I (1 + 7) ((3 * x2) + 2).toNatClampNeg))) ≤ (I (1 + 1) 1))) → vp_in (2 : Int32) 3)))) : Con l 121 (d + 3) 0 0 [.ref 0, .int x1, .int x2] SH (I, F, L, RT t) (rI (sp_121 I x1 x2) (I, F, L, RT t)) := by
  refine cn_121 ?_
  unfold sp_121
  refine bk_121_0 (cs_110 (d := d + 1) ) ?_
  refine bk_121_5 (fun h0 => ?_) (fun h0 => ?_)
  · rw [if_pos h0]
    exact bk_121_16 ⟨rfl, rfl, rfl⟩
  · rw [if_neg h0]
    refine bk_121_8 (cs_110 (d := d + 1) ) ?_
    refine bk_121_13 (fun h1 => ?_) (fun h1 => ?_)
    · rw [if_pos h1]
      refine bk_121_19 (cs_71 (d := d + 0) (by first | decide | (unfold isS; decide) | (unfold isS; omega)) (p1 h0 h1) (p2 h0 h1) (p3 h0 h1) (p4 h0 h1) (p5 h0 h1) (p6 h0 h1) (p7 h0 h1) (p8 h0 h1) (p9 h0 h1) (p10 h0 h1) (p11 h0 h1) (p12 h0 h1) (p13 h0 h1) (p14 h0 h1) (p15 h0 h1) (p16 h0 h1) (p17 h0 h1) (p18 h0 h1) (p19 h0 h1) (p20 h0 h1) (p21 h0 h1)) ?_
      exact bk_121_28 ⟨rfl, rfl, rfl⟩
    · rw [if_neg h1]
      exact bk_121_16 ⟨rfl, rfl, rfl⟩
/-- VectorShelfModel.set(II)I -/
def fn_169 (I : Nat → Nat → Int32) (F : Nat → Nat → UInt32) (L : Nat → Nat → Int64) (t : Nat) (x1 : Int32) (x2 : Int32) : Int32 × (Nat → Nat → Int32) × (Nat → Nat → UInt32) × (Nat → Nat → Int64) × Nat := (if (sp_170 (Int32.toInt64 x1) (0 : Int64) (6 : Int64)) = 0 then ((-2), I, F, L, t) else (if x1 = 0 then (if ¬ (sp_170 (Int32.toInt64 x2) (1 : Int64) (Int32.toInt64 (sp_171 x1))) = 0 then ((I 78 x1.toNatClampNeg), (up2 I 78 x1.toNatClampNeg x2), F, L, t) else ((-2), I, F, L, t)) else (if x1 ≤ 3 then (if ¬ (sp_170 (Int32.toInt64 x2) (0 : Int64) (Int32.toInt64 (sp_171 x1))) = 0 then ((I 78 x1.toNatClampNeg), (up2 I 78 x1.toNatClampNeg x2), F, L, t) else ((-2), I, F, L, t)) else (if ¬ (sp_170 (Int32.toInt64 x2) (1 : Int64) (Int32.toInt64 (sp_171 x1))) = 0 then ((I 78 x1.toNatClampNeg), (up2 I 78 x1.toNatClampNeg x2), F, L, t) else ((-2), I, F, L, t)))))
theorem ci_169 {l : LX} {d : Nat} {I : Nat → Nat → Int32} {F : Nat → Nat → UInt32} {L : Nat → Nat → Int64} {t : Nat} {x1 : Int32} {x2 : Int32} (p1 : (¬ ((sp_170 (Int32.toInt64 x1) (0 : Int64) (6 : Int64)) = 0)) → (x1 = 0) → (¬ (sp_170 (Int32.toInt64 x2) (1 : Int64) (Int32.toInt64 (sp_171 x1))) = 0) → vp_in x1 7) (p2 : (¬ ((sp_170 (Int32.toInt64 x1) (0 : Int64) (6 : Int64)) = 0)) → (¬ (x1 = 0)) → (x1 ≤ 3) → (¬ (sp_170 (Int32.toInt64 x2) (0 : Int64) (Int32.toInt64 (sp_171 x1))) = 0) → vp_in x1 7) (p3 : (¬ ((sp_170 (Int32.toInt64 x1) (0 : Int64) (6 : Int64)) = 0)) → (¬ (x1 = 0)) → (¬ (x1 ≤ 3)) → (¬ (sp_170 (Int32.toInt64 x2) (1 : Int64) (Int32.toInt64 (sp_171 x1))) = 0) → vp_in x1 7) : Con l 169 (d + 1) 0 0 [.ref 74, .int x1, .int x2] SH (I, F, L, RT t) (rT (fn_169 I F L t x1 x2)) := by
  refine cn_169 ?_
  unfold fn_169
  refine bk_169_0 (cs_170 (d := d + 0) ) ?_
  refine bk_169_9 (fun h0 => ?_) (fun h0 => ?_)
  · rw [if_pos h0]
    exact bk_169_40 ⟨rfl, rfl, rfl⟩
  · rw [if_neg h0]
    refine bk_169_12 (fun h1 => ?_) (fun h1 => ?_)
    · rw [if_pos h1]
      refine bk_169_23 ?_
      refine bk_169_28 (cs_171 (d := d + 0) ) ?_
      refine bk_169_33 (cs_170 (d := d + 0) ) ?_
      refine bk_169_37 (fun h2 => ?_) (fun h2 => ?_)
      · rw [if_pos h2]
        exact bk_169_43 (p1 h0 h1 h2) ⟨rfl, rfl, rfl⟩
      · rw [if_neg h2]
        exact bk_169_40 ⟨rfl, rfl, rfl⟩
    · rw [if_neg h1]
      refine bk_169_18 (fun h2 => ?_) (fun h2 => ?_)
      · rw [if_pos h2]
        refine bk_169_27 ?_
        refine bk_169_28 (cs_171 (d := d + 0) ) ?_
        refine bk_169_33 (cs_170 (d := d + 0) ) ?_
        refine bk_169_37 (fun h3 => ?_) (fun h3 => ?_)
        · rw [if_pos h3]
          exact bk_169_43 (p2 h0 h1 h2 h3) ⟨rfl, rfl, rfl⟩
        · rw [if_neg h3]
          exact bk_169_40 ⟨rfl, rfl, rfl⟩
      · rw [if_neg h2]
        refine bk_169_23 ?_
        refine bk_169_28 (cs_171 (d := d + 0) ) ?_
        refine bk_169_33 (cs_170 (d := d + 0) ) ?_
        refine bk_169_37 (fun h3 => ?_) (fun h3 => ?_)
        · rw [if_pos h3]
          exact bk_169_43 (p3 h0 h1 h2 h3) ⟨rfl, rfl, rfl⟩
        · rw [if_neg h3]
          exact bk_169_40 ⟨rfl, rfl, rfl⟩
/-- VectorShelfModel.cell(III)I -/
def fn_172 (I : Nat → Nat → Int32) (F : Nat → Nat → UInt32) (L : Nat → Nat → Int64) (t : Nat) (x1 : Int32) (x2 : Int32) (x3 : Int32) : Int32 × (Nat → Nat → Int32) × (Nat → Nat → UInt32) × (Nat → Nat → Int64) × Nat := (if ¬ (sp_173 x1 x2 x3) = 0 then (if ¬ (I 74 13) = 4 then ((((I 74 13) + 1) - 1), (up2 (up2 (up2 (up2 (up2 I 80 (3 * (I 74 13)).toNatClampNeg x1) 80 ((3 * (I 74 13)) + 1).toNatClampNeg x2) 80 ((3 * (I 74 13)) + 2).toNatClampNeg x3) 83 (I 74 13).toNatClampNeg (vp_nar (bT 0) 0)) 74 13 ((I 74 13) + 1)), F, L, t) else ((-4), I, F, L, t)) else ((-2), I, F, L, t))
theorem ci_172 {l : LX} {d : Nat} {I : Nat → Nat → Int32} {F : Nat → Nat → UInt32} {L : Nat → Nat → Int64} {t : Nat} {x1 : Int32} {x2 : Int32} {x3 : Int32} (p1 : (¬ (sp_173 x1 x2 x3) = 0) → (¬ (I 74 13) = 4) → vp_in (3 * (I 74 13)) 12) (p2 : (¬ (sp_173 x1 x2 x3) = 0) → (¬ (I 74 13) = 4) → vp_in ((3 * (I 74 13)) + 1) 12) (p3 : (¬ (sp_173 x1 x2 x3) = 0) → (¬ (I 74 13) = 4) → vp_in ((3 * (I 74 13)) + 2) 12) (p4 : (¬ (sp_173 x1 x2 x3) = 0) → (¬ (I 74 13) = 4) → vp_in (I 74 13) 4) : Con l 172 (d + 2) 0 0 [.ref 74, .int x1, .int x2, .int x3] SH (I, F, L, RT t) (rT (fn_172 I F L t x1 x2 x3)) := by
  refine cn_172 ?_
  unfold fn_172
  refine bk_172_0 (cs_173 (d := d + 0) ) ?_
  refine bk_172_6 (fun h0 => ?_) (fun h0 => ?_)
  · rw [if_pos h0]
    refine bk_172_12 (fun h1 => ?_) (fun h1 => ?_)
    · rw [if_pos h1]
      exact bk_172_23 (p1 h0 h1) (p2 h0 h1) (p3 h0 h1) (p4 h0 h1) ⟨rfl, rfl, rfl⟩
    · rw [if_neg h1]
      exact bk_172_20 ⟨rfl, rfl, rfl⟩
  · rw [if_neg h0]
    exact bk_172_9 ⟨rfl, rfl, rfl⟩
/-- VectorShelfModel.term(II)I -/
def sp_186 (I : Nat → Nat → Int32) (x1 : Int32) (x2 : Int32) : Int32 := (if (sp_187 I) = 0 then (if (I 78 3) = 2 then x1 else (if ¬ (I 78 3) = 4 then (if ¬ (I 78 3) = 0 then ((x1 * x1) * (I 78 (4 + x2).toNatClampNeg)) else (x1 * x1)) else x1)) else (if (I 78 3) = 2 then (sp_188 I x1) else (if ¬ (I 78 3) = 4 then (if ¬ (I 78 3) = 0 then (((sp_188 I x1) * (sp_188 I x1)) * (I 78 (4 + x2).toNatClampNeg)) else ((sp_188 I x1) * (sp_188 I x1))) else (sp_188 I x1))))
theorem cs_186 {l : LX} {d : Nat} {I : Nat → Nat → Int32} {F : Nat → Nat → UInt32} {L : Nat → Nat → Int64} {t : Nat} {x1 : Int32} {x2 : Int32} (p1 : ((sp_187 I) = 0) → (¬ ((I 78 3) = 2)) → (¬ (I 78 3) = 4) → (¬ (I 78 3) = 0) → vp_in (4 + x2) 7) (p2 : (¬ ((sp_187 I) = 0)) → (¬ ((I 78 3) = 2)) → (¬ (I 78 3) = 4) → (¬ (I 78 3) = 0) → vp_in (4 + x2) 7) : Con l 186 (d + 1) 0 0 [.ref 74, .int x1, .int x2] SH (I, F, L, RT t) (rI (sp_186 I x1 x2) (I, F, L, RT t)) := by
  refine cn_186 ?_
  unfold sp_186
  refine bk_186_0 (cs_187 (d := d + 0) ) ?_
  refine bk_186_4 (fun h0 => ?_) (fun h0 => ?_)
  · rw [if_pos h0]
    refine bk_186_15 ?_
    refine bk_186_16 (fun h1 => ?_) (fun h1 => ?_)
    · rw [if_pos h1]
      exact bk_186_37 ⟨rfl, rfl, rfl⟩
    · rw [if_neg h1]
      refine bk_186_27 (fun h2 => ?_) (fun h2 => ?_)
      · rw [if_pos h2]
        refine bk_186_39 (fun h3 => ?_) (fun h3 => ?_)
        · rw [if_pos h3]
          refine bk_186_54 (p1 h0 h1 h2 h3) ?_
          exact bk_186_66 ⟨rfl, rfl, rfl⟩
        · rw [if_neg h3]
          refine bk_186_48 ?_
          exact bk_186_66 ⟨rfl, rfl, rfl⟩
      · rw [if_neg h2]
        exact bk_186_37 ⟨rfl, rfl, rfl⟩
  · rw [if_neg h0]
    refine bk_186_7 (cs_188 (d := d + 0) ) ?_
    refine bk_186_12 ?_
    refine bk_186_16 (fun h1 => ?_) (fun h1 => ?_)
    · rw [if_pos h1]
      exact bk_186_37 ⟨rfl, rfl, rfl⟩
    · rw [if_neg h1]
      refine bk_186_27 (fun h2 => ?_) (fun h2 => ?_)
      · rw [if_pos h2]
        refine bk_186_39 (fun h3 => ?_) (fun h3 => ?_)
        · rw [if_pos h3]
          refine bk_186_54 (p2 h0 h1 h2 h3) ?_
          exact bk_186_66 ⟨rfl, rfl, rfl⟩
        · rw [if_neg h3]
          refine bk_186_48 ?_
          exact bk_186_66 ⟨rfl, rfl, rfl⟩
      · rw [if_neg h2]
        exact bk_186_37 ⟨rfl, rfl, rfl⟩
/-- VectorShelfModel.high(I)I -/
def sp_189 (x1 : Int32) : Int32 := (if (sp_170 (Int32.toInt64 x1) (0 : Int64) (999999999 : Int64)) = 0 then (-2) else (FP.f2i (sp_190 x1)))
theorem cs_189 {l : LX} {d : Nat} {I : Nat → Nat → Int32} {F : Nat → Nat → UInt32} {L : Nat → Nat → Int64} {t : Nat} {x1 : Int32} (p1 : (¬ ((sp_170 (Int32.toInt64 x1) (0 : Int64) (999999999 : Int64)) = 0)) → (vf_n32 (FP.fmul (FP.i2f x1) 1065353224))) : Con l 189 (d + 1) 0 0 [.ref 74, .int x1] SH (I, F, L, RT t) (rI (sp_189 x1) (I, F, L, RT t)) := by
  refine cn_189 ?_
  unfold sp_189
  refine bk_189_0 (cs_170 (d := d + 0) ) ?_
  refine bk_189_9 (fun h0 => ?_) (fun h0 => ?_)
  · rw [if_pos h0]
    refine bk_189_20 ?_
    exact bk_189_22 ⟨rfl, rfl, rfl⟩
  · rw [if_neg h0]
    refine bk_189_12 (cs_190 (d := d + 0) (p1 h0)) ?_
    refine bk_189_16 ?_
    exact bk_189_22 ⟨rfl, rfl, rfl⟩
/-- VectorShelfModel.isWord(IIIIIIII)Z -/
def sp_196 (I : Nat → Nat → Int32) (x1 : Int32) (x2 : Int32) (x3 : Int32) (x4 : Int32) (x5 : Int32) (x6 : Int32) (x7 : Int32) (x8 : Int32) : Int32 := (if ¬ (I 74 32) = 0 then 0 else (if ¬ (I 74 28) = 1 then 0 else (if ((I 74 29) + 8) < (I 74 27) then 0 else (if (sp_197 I (0 : Int32) x1) = 0 then 0 else (if (sp_197 I (1 : Int32) x2) = 0 then 0 else (if (sp_197 I (2 : Int32) x3) = 0 then 0 else (if (sp_197 I (3 : Int32) x4) = 0 then 0 else (if (sp_197 I (4 : Int32) x5) = 0 then 0 else (if (sp_197 I (5 : Int32) x6) = 0 then 0 else (if (sp_197 I (6 : Int32) x7) = 0 then 0 else (if (sp_197 I (7 : Int32) x8) = 0 then 0 else 1)))))))))))
theorem cs_196 {l : LX} {d : Nat} {I : Nat → Nat → Int32} {F : Nat → Nat → UInt32} {L : Nat → Nat → Int64} {t : Nat} {x1 : Int32} {x2 : Int32} {x3 : Int32} {x4 : Int32} {x5 : Int32} {x6 : Int32} {x7 : Int32} {x8 : Int32} (p1 : (¬ (¬ (I 74 32) = 0)) → (¬ (¬ (I 74 28) = 1)) → (¬ (((I 74 29) + 8) < (I 74 27))) → ((¬ ((I 74 27) ≤ ((I 74 29) + (0 : Int32)))) → ((¬ ((I 74 26) ≤ ((I 74 29) + (0 : Int32)))) → vp_in ((I 74 25) + ((I 74 29) + (0 : Int32))) 960))) (p2 : (¬ (¬ (I 74 32) = 0)) → (¬ (¬ (I 74 28) = 1)) → (¬ (((I 74 29) + 8) < (I 74 27))) → (¬ ((sp_197 I (0 : Int32) x1) = 0)) → ((¬ ((I 74 27) ≤ ((I 74 29) + (1 : Int32)))) → ((¬ ((I 74 26) ≤ ((I 74 29) + (1 : Int32)))) → vp_in ((I 74 25) + ((I 74 29) + (1 : Int32))) 960))) (p3 : (¬ (¬ (I 74 32) = 0)) → (¬ (¬ (I 74 28) = 1)) → (¬ (((I 74 29) + 8) < (I 74 27))) → (¬ ((sp_197 I (0 : Int32) x1) = 0)) → (¬ ((sp_197 I (1 : Int32) x2) = 0)) → ((¬ ((I 74 27) ≤ ((I 74 29) + (2 : Int32)))) → ((¬ ((I 74 26) ≤ ((I 74 29) + (2 : Int32)))) → vp_in ((I 74 25) + ((I 74 29) + (2 : Int32))) 960))) (p4 : (¬ (¬ (I 74 32) = 0)) → (¬ (¬ (I 74 28) = 1)) → (¬ (((I 74 29) + 8) < (I 74 27))) → (¬ ((sp_197 I (0 : Int32) x1) = 0)) → (¬ ((sp_197 I (1 : Int32) x2) = 0)) → (¬ ((sp_197 I (2 : Int32) x3) = 0)) → ((¬ ((I 74 27) ≤ ((I 74 29) + (3 : Int32)))) → ((¬ ((I 74 26) ≤ ((I 74 29) + (3 : Int32)))) → vp_in ((I 74 25) + ((I 74 29) + (3 : Int32))) 960))) (p5 : (¬ (¬ (I 74 32) = 0)) → (¬ (¬ (I 74 28) = 1)) → (¬ (((I 74 29) + 8) < (I 74 27))) → (¬ ((sp_197 I (0 : Int32) x1) = 0)) → (¬ ((sp_197 I (1 : Int32) x2) = 0)) → (¬ ((sp_197 I (2 : Int32) x3) = 0)) → (¬ ((sp_197 I (3 : Int32) x4) = 0)) → ((¬ ((I 74 27) ≤ ((I 74 29) + (4 : Int32)))) → ((¬ ((I 74 26) ≤ ((I 74 29) + (4 : Int32)))) → vp_in ((I 74 25) + ((I 74 29) + (4 : Int32))) 960))) (p6 : (¬ (¬ (I 74 32) = 0)) → (¬ (¬ (I 74 28) = 1)) → (¬ (((I 74 29) + 8) < (I 74 27))) → (¬ ((sp_197 I (0 : Int32) x1) = 0)) → (¬ ((sp_197 I (1 : Int32) x2) = 0)) → (¬ ((sp_197 I (2 : Int32) x3) = 0)) → (¬ ((sp_197 I (3 : Int32) x4) = 0)) → (¬ ((sp_197 I (4 : Int32) x5) = 0)) → ((¬ ((I 74 27) ≤ ((I 74 29) + (5 : Int32)))) → ((¬ ((I 74 26) ≤ ((I 74 29) + (5 : Int32)))) → vp_in ((I 74 25) + ((I 74 29) + (5 : Int32))) 960))) (p7 : (¬ (¬ (I 74 32) = 0)) → (¬ (¬ (I 74 28) = 1)) → (¬ (((I 74 29) + 8) < (I 74 27))) → (¬ ((sp_197 I (0 : Int32) x1) = 0)) → (¬ ((sp_197 I (1 : Int32) x2) = 0)) → (¬ ((sp_197 I (2 : Int32) x3) = 0)) → (¬ ((sp_197 I (3 : Int32) x4) = 0)) → (¬ ((sp_197 I (4 : Int32) x5) = 0)) → (¬ ((sp_197 I (5 : Int32) x6) = 0)) → ((¬ ((I 74 27) ≤ ((I 74 29) + (6 : Int32)))) → ((¬ ((I 74 26) ≤ ((I 74 29) + (6 : Int32)))) → vp_in ((I 74 25) + ((I 74 29) + (6 : Int32))) 960))) (p8 : (¬ (¬ (I 74 32) = 0)) → (¬ (¬ (I 74 28) = 1)) → (¬ (((I 74 29) + 8) < (I 74 27))) → (¬ ((sp_197 I (0 : Int32) x1) = 0)) → (¬ ((sp_197 I (1 : Int32) x2) = 0)) → (¬ ((sp_197 I (2 : Int32) x3) = 0)) → (¬ ((sp_197 I (3 : Int32) x4) = 0)) → (¬ ((sp_197 I (4 : Int32) x5) = 0)) → (¬ ((sp_197 I (5 : Int32) x6) = 0)) → (¬ ((sp_197 I (6 : Int32) x7) = 0)) → ((¬ ((I 74 27) ≤ ((I 74 29) + (7 : Int32)))) → ((¬ ((I 74 26) ≤ ((I 74 29) + (7 : Int32)))) → vp_in ((I 74 25) + ((I 74 29) + (7 : Int32))) 960))) : Con l 196 (d + 2) 0 0 [.ref 74, .int x1, .int x2, .int x3, .int x4, .int x5, .int x6, .int x7, .int x8] SH (I, F, L, RT t) (rI (sp_196 I x1 x2 x3 x4 x5 x6 x7 x8) (I, F, L, RT t)) := by
  refine cn_196 ?_
  unfold sp_196
  refine bk_196_0 (fun h0 => ?_) (fun h0 => ?_)
  · rw [if_pos h0]
    refine bk_196_112 ?_
    exact bk_196_113 (by decide) ⟨rfl, rfl, rfl⟩
  · rw [if_neg h0]
    refine bk_196_7 (fun h1 => ?_) (fun h1 => ?_)
    · rw [if_pos h1]
      refine bk_196_112 ?_
      exact bk_196_113 (by decide) ⟨rfl, rfl, rfl⟩
    · rw [if_neg h1]
      refine bk_196_15 (fun h2 => ?_) (fun h2 => ?_)
      · rw [if_pos h2]
        refine bk_196_112 ?_
        exact bk_196_113 (by decide) ⟨rfl, rfl, rfl⟩
      · rw [if_neg h2]
        refine bk_196_29 (cs_197 (d := d + 0) (p1 h0 h1 h2)) ?_
        refine bk_196_35 (fun h3 => ?_) (fun h3 => ?_)
        · rw [if_pos h3]
          refine bk_196_112 ?_
          exact bk_196_113 (by decide) ⟨rfl, rfl, rfl⟩
        · rw [if_neg h3]
          refine bk_196_38 (cs_197 (d := d + 0) (p2 h0 h1 h2 h3)) ?_
          refine bk_196_44 (fun h4 => ?_) (fun h4 => ?_)
          · rw [if_pos h4]
            refine bk_196_112 ?_
            exact bk_196_113 (by decide) ⟨rfl, rfl, rfl⟩
          · rw [if_neg h4]
            refine bk_196_47 (cs_197 (d := d + 0) (p3 h0 h1 h2 h3 h4)) ?_
            refine bk_196_53 (fun h5 => ?_) (fun h5 => ?_)
            · rw [if_pos h5]
              refine bk_196_112 ?_
              exact bk_196_113 (by decide) ⟨rfl, rfl, rfl⟩
            · rw [if_neg h5]
              refine bk_196_56 (cs_197 (d := d + 0) (p4 h0 h1 h2 h3 h4 h5)) ?_
              refine bk_196_63 (fun h6 => ?_) (fun h6 => ?_)
              · rw [if_pos h6]
                refine bk_196_112 ?_
                exact bk_196_113 (by decide) ⟨rfl, rfl, rfl⟩
              · rw [if_neg h6]
                refine bk_196_66 (cs_197 (d := d + 0) (p5 h0 h1 h2 h3 h4 h5 h6)) ?_
                refine bk_196_73 (fun h7 => ?_) (fun h7 => ?_)
                · rw [if_pos h7]
                  refine bk_196_112 ?_
                  exact bk_196_113 (by decide) ⟨rfl, rfl, rfl⟩
                · rw [if_neg h7]
                  refine bk_196_76 (cs_197 (d := d + 0) (p6 h0 h1 h2 h3 h4 h5 h6 h7)) ?_
                  refine bk_196_83 (fun h8 => ?_) (fun h8 => ?_)
                  · rw [if_pos h8]
                    refine bk_196_112 ?_
                    exact bk_196_113 (by decide) ⟨rfl, rfl, rfl⟩
                  · rw [if_neg h8]
                    refine bk_196_86 (cs_197 (d := d + 0) (p7 h0 h1 h2 h3 h4 h5 h6 h7 h8)) ?_
                    refine bk_196_94 (fun h9 => ?_) (fun h9 => ?_)
                    · rw [if_pos h9]
                      refine bk_196_112 ?_
                      exact bk_196_113 (by decide) ⟨rfl, rfl, rfl⟩
                    · rw [if_neg h9]
                      refine bk_196_97 (cs_197 (d := d + 0) (p8 h0 h1 h2 h3 h4 h5 h6 h7 h8 h9)) ?_
                      refine bk_196_105 (fun h10 => ?_) (fun h10 => ?_)
                      · rw [if_pos h10]
                        refine bk_196_112 ?_
                        exact bk_196_113 (by decide) ⟨rfl, rfl, rfl⟩
                      · rw [if_neg h10]
                        refine bk_196_108 ?_
                        exact bk_196_113 (by decide) ⟨rfl, rfl, rfl⟩
theorem sb_196 (I : Nat → Nat → Int32) (x1 : Int32) (x2 : Int32) (x3 : Int32) (x4 : Int32) (x5 : Int32) (x6 : Int32) (x7 : Int32) (x8 : Int32) : (sp_196 I x1 x2 x3 x4 x5 x6 x7 x8) &&& 1 = (sp_196 I x1 x2 x3 x4 x5 x6 x7 x8) := by
  unfold sp_196
  repeat' split
  all_goals first | rfl | exact sb_197 ..
/-- VectorShelfModel.name()I -/
def fn_208 (I : Nat → Nat → Int32) (F : Nat → Nat → UInt32) (L : Nat → Nat → Int64) (t : Nat) : Int32 × (Nat → Nat → Int32) × (Nat → Nat → UInt32) × (Nat → Nat → Int64) × Nat := (if (sp_196 I (120 : Int32) (0 : Int32) (0 : Int32) (0 : Int32) (0 : Int32) (0 : Int32) (0 : Int32) (0 : Int32)) = 0 then (if (sp_196 I (121 : Int32) (0 : Int32) (0 : Int32) (0 : Int32) (0 : Int32) (0 : Int32) (0 : Int32) (0 : Int32)) = 0 then (if (sp_196 I (122 : Int32) (0 : Int32) (0 : Int32) (0 : Int32) (0 : Int32) (0 : Int32) (0 : Int32) (0 : Int32)) = 0 then (if (sp_196 I (116 : Int32) (97 : Int32) (103 : Int32) (0 : Int32) (0 : Int32) (0 : Int32) (0 : Int32) (0 : Int32)) = 0 then (if (sp_196 I (110 : Int32) (117 : Int32) (109 : Int32) (98 : Int32) (101 : Int32) (114 : Int32) (0 : Int32) (0 : Int32)) = 0 then (if (sp_196 I (99 : Int32) (101 : Int32) (108 : Int32) (108 : Int32) (0 : Int32) (0 : Int32) (0 : Int32) (0 : Int32)) = 0 then (bndV (fn_199 I F L t) (fun I1 F1 L1 t1 => (0, I1, F1, L1, t1))) else ((I 74 24), I, F, L, t)) else ((I 74 23), I, F, L, t)) else ((I 74 22), I, F, L, t)) else ((I 74 21), I, F, L, t)) else ((I 74 20), I, F, L, t)) else ((I 74 19), I, F, L, t))
theorem ci_208 {l : LX} {d : Nat} {I : Nat → Nat → Int32} {F : Nat → Nat → UInt32} {L : Nat → Nat → Int64} {t : Nat} (p1 : ((¬ (¬ (I 74 32) = 0)) → (¬ (¬ (I 74 28) = 1)) → (¬ (((I 74 29) + 8) < (I 74 27))) → ((¬ ((I 74 27) ≤ ((I 74 29) + (0 : Int32)))) → ((¬ ((I 74 26) ≤ ((I 74 29) + (0 : Int32)))) → vp_in ((I 74 25) + ((I 74 29) + (0 : Int32))) 960)))) (p2 : ((¬ (¬ (I 74 32) = 0)) → (¬ (¬ (I 74 28) = 1)) → (¬ (((I 74 29) + 8) < (I 74 27))) → (¬ ((sp_197 I (0 : Int32) (120 : Int32)) = 0)) → ((¬ ((I 74 27) ≤ ((I 74 29) + (1 : Int32)))) → ((¬ ((I 74 26) ≤ ((I 74 29) + (1 : Int32)))) → vp_in ((I 74 25) + ((I 74 29) + (1 : Int32))) 960)))) (p3 : ((¬ (¬ (I 74 32) = 0)) → (¬ (¬ (I 74 28) = 1)) → (¬ (((I 74 29) + 8) < (I 74 27))) → (¬ ((sp_197 I (0 : Int32) (120 : Int32)) = 0)) → (¬ ((sp_197 I (1 : Int32) (0 : Int32)) = 0)) → ((¬ ((I 74 27) ≤ ((I 74 29) + (2 : Int32)))) → ((¬ ((I 74 26) ≤ ((I 74 29) + (2 : Int32)))) → vp_in ((I 74 25) + ((I 74 29) + (2 : Int32))) 960)))) (p4 : ((¬ (¬ (I 74 32) = 0)) → (¬ (¬ (I 74 28) = 1)) → (¬ (((I 74 29) + 8) < (I 74 27))) → (¬ ((sp_197 I (0 : Int32) (120 : Int32)) = 0)) → (¬ ((sp_197 I (1 : Int32) (0 : Int32)) = 0)) → (¬ ((sp_197 I (2 : Int32) (0 : Int32)) = 0)) → ((¬ ((I 74 27) ≤ ((I 74 29) + (3 : Int32)))) → ((¬ ((I 74 26) ≤ ((I 74 29) + (3 : Int32)))) → vp_in ((I 74 25) + ((I 74 29) + (3 : Int32))) 960)))) (p5 : ((¬ (¬ (I 74 32) = 0)) → (¬ (¬ (I 74 28) = 1)) → (¬ (((I 74 29) + 8) < (I 74 27))) → (¬ ((sp_197 I (0 : Int32) (120 : Int32)) = 0)) → (¬ ((sp_197 I (1 : Int32) (0 : Int32)) = 0)) → (¬ ((sp_197 I (2 : Int32) (0 : Int32)) = 0)) → (¬ ((sp_197 I (3 : Int32) (0 : Int32)) = 0)) → ((¬ ((I 74 27) ≤ ((I 74 29) + (4 : Int32)))) → ((¬ ((I 74 26) ≤ ((I 74 29) + (4 : Int32)))) → vp_in ((I 74 25) + ((I 74 29) + (4 : Int32))) 960)))) (p6 : ((¬ (¬ (I 74 32) = 0)) → (¬ (¬ (I 74 28) = 1)) → (¬ (((I 74 29) + 8) < (I 74 27))) → (¬ ((sp_197 I (0 : Int32) (120 : Int32)) = 0)) → (¬ ((sp_197 I (1 : Int32) (0 : Int32)) = 0)) → (¬ ((sp_197 I (2 : Int32) (0 : Int32)) = 0)) → (¬ ((sp_197 I (3 : Int32) (0 : Int32)) = 0)) → (¬ ((sp_197 I (4 : Int32) (0 : Int32)) = 0)) → ((¬ ((I 74 27) ≤ ((I 74 29) + (5 : Int32)))) → ((¬ ((I 74 26) ≤ ((I 74 29) + (5 : Int32)))) → vp_in ((I 74 25) + ((I 74 29) + (5 : Int32))) 960)))) (p7 : ((¬ (¬ (I 74 32) = 0)) → (¬ (¬ (I 74 28) = 1)) → (¬ (((I 74 29) + 8) < (I 74 27))) → (¬ ((sp_197 I (0 : Int32) (120 : Int32)) = 0)) → (¬ ((sp_197 I (1 : Int32) (0 : Int32)) = 0)) → (¬ ((sp_197 I (2 : Int32) (0 : Int32)) = 0)) → (¬ ((sp_197 I (3 : Int32) (0 : Int32)) = 0)) → (¬ ((sp_197 I (4 : Int32) (0 : Int32)) = 0)) → (¬ ((sp_197 I (5 : Int32) (0 : Int32)) = 0)) → ((¬ ((I 74 27) ≤ ((I 74 29) + (6 : Int32)))) → ((¬ ((I 74 26) ≤ ((I 74 29) + (6 : Int32)))) → vp_in ((I 74 25) + ((I 74 29) + (6 : Int32))) 960)))) (p8 : ((¬ (¬ (I 74 32) = 0)) → (¬ (¬ (I 74 28) = 1)) → (¬ (((I 74 29) + 8) < (I 74 27))) → (¬ ((sp_197 I (0 : Int32) (120 : Int32)) = 0)) → (¬ ((sp_197 I (1 : Int32) (0 : Int32)) = 0)) → (¬ ((sp_197 I (2 : Int32) (0 : Int32)) = 0)) → (¬ ((sp_197 I (3 : Int32) (0 : Int32)) = 0)) → (¬ ((sp_197 I (4 : Int32) (0 : Int32)) = 0)) → (¬ ((sp_197 I (5 : Int32) (0 : Int32)) = 0)) → (¬ ((sp_197 I (6 : Int32) (0 : Int32)) = 0)) → ((¬ ((I 74 27) ≤ ((I 74 29) + (7 : Int32)))) → ((¬ ((I 74 26) ≤ ((I 74 29) + (7 : Int32)))) → vp_in ((I 74 25) + ((I 74 29) + (7 : Int32))) 960)))) (p9 : ((sp_196 I (120 : Int32) (0 : Int32) (0 : Int32) (0 : Int32) (0 : Int32) (0 : Int32) (0 : Int32) (0 : Int32)) = 0) → ((¬ (¬ (I 74 32) = 0)) → (¬ (¬ (I 74 28) = 1)) → (¬ (((I 74 29) + 8) < (I 74 27))) → ((¬ ((I 74 27) ≤ ((I 74 29) + (0 : Int32)))) → ((¬ ((I 74 26) ≤ ((I 74 29) + (0 : Int32)))) → vp_in ((I 74 25) + ((I 74 29) + (0 : Int32))) 960)))) (p10 : ((sp_196 I (120 : Int32) (0 : Int32) (0 : Int32) (0 : Int32) (0 : Int32) (0 : Int32) (0 : Int32) (0 : Int32)) = 0) → ((¬ (¬ (I 74 32) = 0)) → (¬ (¬ (I 74 28) = 1)) → (¬ (((I 74 29) + 8) < (I 74 27))) → (¬ ((sp_197 I (0 : Int32) (121 : Int32)) = 0)) → ((¬ ((I 74 27) ≤ ((I 74 29) + (1 : Int32)))) → ((¬ ((I 74 26) ≤ ((I 74 29) + (1 : Int32)))) → vp_in ((I 74 25) + ((I 74 29) + (1 : Int32))) 960)))) (p11 : ((sp_196 I (120 : Int32) (0 : Int32) (0 : Int32) (0 : Int32) (0 : Int32) (0 : Int32) (0 : Int32) (0 : Int32)) = 0) → ((¬ (¬ (I 74 32) = 0)) → (¬ (¬ (I 74 28) = 1)) → (¬ (((I 74 29) + 8) < (I 74 27))) → (¬ ((sp_197 I (0 : Int32) (121 : Int32)) = 0)) → (¬ ((sp_197 I (1 : Int32) (0 : Int32)) = 0)) → ((¬ ((I 74 27) ≤ ((I 74 29) + (2 : Int32)))) → ((¬ ((I 74 26) ≤ ((I 74 29) + (2 : Int32)))) → vp_in ((I 74 25) + ((I 74 29) + (2 : Int32))) 960)))) (p12 : ((sp_196 I (120 : Int32) (0 : Int32) (0 : Int32) (0 : Int32) (0 : Int32) (0 : Int32) (0 : Int32) (0 : Int32)) = 0) → ((¬ (¬ (I 74 32) = 0)) → (¬ (¬ (I 74 28) = 1)) → (¬ (((I 74 29) + 8) < (I 74 27))) → (¬ ((sp_197 I (0 : Int32) (121 : Int32)) = 0)) → (¬ ((sp_197 I (1 : Int32) (0 : Int32)) = 0)) → (¬ ((sp_197 I (2 : Int32) (0 : Int32)) = 0)) → ((¬ ((I 74 27) ≤ ((I 74 29) + (3 : Int32)))) → ((¬ ((I 74 26) ≤ ((I 74 29) + (3 : Int32)))) → vp_in ((I 74 25) + ((I 74 29) + (3 : Int32))) 960)))) (p13 : ((sp_196 I (120 : Int32) (0 : Int32) (0 : Int32) (0 : Int32) (0 : Int32) (0 : Int32) (0 : Int32) (0 : Int32)) = 0) → ((¬ (¬ (I 74 32) = 0)) → (¬ (¬ (I 74 28) = 1)) → (¬ (((I 74 29) + 8) < (I 74 27))) → (¬ ((sp_197 I (0 : Int32) (121 : Int32)) = 0)) → (¬ ((sp_197 I (1 : Int32) (0 : Int32)) = 0)) → (¬ ((sp_197 I (2 : Int32) (0 : Int32)) = 0)) → (¬ ((sp_197 I (3 : Int32) (0 : Int32)) = 0)) → ((¬ ((I 74 27) ≤ ((I 74 29) + (4 : Int32)))) → ((¬ ((I 74 26) ≤ ((I 74 29) + (4 : Int32)))) → vp_in ((I 74 25) + ((I 74 29) + (4 : Int32))) 960)))) (p14 : ((sp_196 I (120 : Int32) (0 : Int32) (0 : Int32) (0 : Int32) (0 : Int32) (0 : Int32) (0 : Int32) (0 : Int32)) = 0) → ((¬ (¬ (I 74 32) = 0)) → (¬ (¬ (I 74 28) = 1)) → (¬ (((I 74 29) + 8) < (I 74 27))) → (¬ ((sp_197 I (0 : Int32) (121 : Int32)) = 0)) → (¬ ((sp_197 I (1 : Int32) (0 : Int32)) = 0)) → (¬ ((sp_197 I (2 : Int32) (0 : Int32)) = 0)) → (¬ ((sp_197 I (3 : Int32) (0 : Int32)) = 0)) → (¬ ((sp_197 I (4 : Int32) (0 : Int32)) = 0)) → ((¬ ((I 74 27) ≤ ((I 74 29) + (5 : Int32)))) → ((¬ ((I 74 26) ≤ ((I 74 29) + (5 : Int32)))) → vp_in ((I 74 25) + ((I 74 29) + (5 : Int32))) 960)))) (p15 : ((sp_196 I (120 : Int32) (0 : Int32) (0 : Int32) (0 : Int32) (0 : Int32) (0 : Int32) (0 : Int32) (0 : Int32)) = 0) → ((¬ (¬ (I 74 32) = 0)) → (¬ (¬ (I 74 28) = 1)) → (¬ (((I 74 29) + 8) < (I 74 27))) → (¬ ((sp_197 I (0 : Int32) (121 : Int32)) = 0)) → (¬ ((sp_197 I (1 : Int32) (0 : Int32)) = 0)) → (¬ ((sp_197 I (2 : Int32) (0 : Int32)) = 0)) → (¬ ((sp_197 I (3 : Int32) (0 : Int32)) = 0)) → (¬ ((sp_197 I (4 : Int32) (0 : Int32)) = 0)) → (¬ ((sp_197 I (5 : Int32) (0 : Int32)) = 0)) → ((¬ ((I 74 27) ≤ ((I 74 29) + (6 : Int32)))) → ((¬ ((I 74 26) ≤ ((I 74 29) + (6 : Int32)))) → vp_in ((I 74 25) + ((I 74 29) + (6 : Int32))) 960)))) (p16 : ((sp_196 I (120 : Int32) (0 : Int32) (0 : Int32) (0 : Int32) (0 : Int32) (0 : Int32) (0 : Int32) (0 : Int32)) = 0) → ((¬ (¬ (I 74 32) = 0)) → (¬ (¬ (I 74 28) = 1)) → (¬ (((I 74 29) + 8) < (I 74 27))) → (¬ ((sp_197 I (0 : Int32) (121 : Int32)) = 0)) → (¬ ((sp_197 I (1 : Int32) (0 : Int32)) = 0)) → (¬ ((sp_197 I (2 : Int32) (0 : Int32)) = 0)) → (¬ ((sp_197 I (3 : Int32) (0 : Int32)) = 0)) → (¬ ((sp_197 I (4 : Int32) (0 : Int32)) = 0)) → (¬ ((sp_197 I (5 : Int32) (0 : Int32)) = 0)) → (¬ ((sp_197 I (6 : Int32) (0 : Int32)) = 0)) → ((¬ ((I 74 27) ≤ ((I 74 29) + (7 : Int32)))) → ((¬ ((I 74 26) ≤ ((I 74 29) + (7 : Int32)))) → vp_in ((I 74 25) + ((I 74 29) + (7 : Int32))) 960)))) (p17 : ((sp_196 I (120 : Int32) (0 : Int32) (0 : Int32) (0 : Int32) (0 : Int32) (0 : Int32) (0 : Int32) (0 : Int32)) = 0) → ((sp_196 I (121 : Int32) (0 : Int32) (0 : Int32) (0 : Int32) (0 : Int32) (0 : Int32) (0 : Int32) (0 : Int32)) = 0) → ((¬ (¬ (I 74 32) = 0)) → (¬ (¬ (I 74 28) = 1)) → (¬ (((I 74 29) + 8) < (I 74 27))) → ((¬ ((I 74 27) ≤ ((I 74 29) + (0 : Int32)))) → ((¬ ((I 74 26) ≤ ((I 74 29) + (0 : Int32)))) → vp_in ((I 74 25) + ((I 74 29) + (0 : Int32))) 960)))) (p18 : ((sp_196 I (120 : Int32) (0 : Int32) (0 : Int32) (0 : Int32) (0 : Int32) (0 : Int32) (0 : Int32) (0 : Int32)) = 0) → ((sp_196 I (121 : Int32) (0 : Int32) (0 : Int32) (0 : Int32) (0 : Int32) (0 : Int32) (0 : Int32) (0 : Int32)) = 0) → ((¬ (¬ (I 74 32) = 0)) → (¬ (¬ (I 74 28) = 1)) → (¬ (((I 74 29) + 8) < (I 74 27))) → (¬ ((sp_197 I (0 : Int32) (122 : Int32)) = 0)) → ((¬ ((I 74 27) ≤ ((I 74 29) + (1 : Int32)))) → ((¬ ((I 74 26) ≤ ((I 74 29) + (1 : Int32)))) → vp_in ((I 74 25) + ((I 74 29) + (1 : Int32))) 960)))) (p19 : ((sp_196 I (120 : Int32) (0 : Int32) (0 : Int32) (0 : Int32) (0 : Int32) (0 : Int32) (0 : Int32) (0 : Int32)) = 0) → ((sp_196 I (121 : Int32) (0 : Int32) (0 : Int32) (0 : Int32) (0 : Int32) (0 : Int32) (0 : Int32) (0 : Int32)) = 0) → ((¬ (¬ (I 74 32) = 0)) → (¬ (¬ (I 74 28) = 1)) → (¬ (((I 74 29) + 8) < (I 74 27))) → (¬ ((sp_197 I (0 : Int32) (122 : Int32)) = 0)) → (¬ ((sp_197 I (1 : Int32) (0 : Int32)) = 0)) → ((¬ ((I 74 27) ≤ ((I 74 29) + (2 : Int32)))) → ((¬ ((I 74 26) ≤ ((I 74 29) + (2 : Int32)))) → vp_in ((I 74 25) + ((I 74 29) + (2 : Int32))) 960)))) (p20 : ((sp_196 I (120 : Int32) (0 : Int32) (0 : Int32) (0 : Int32) (0 : Int32) (0 : Int32) (0 : Int32) (0 : Int32)) = 0) → ((sp_196 I (121 : Int32) (0 : Int32) (0 : Int32) (0 : Int32) (0 : Int32) (0 : Int32) (0 : Int32) (0 : Int32)) = 0) → ((¬ (¬ (I 74 32) = 0)) → (¬ (¬ (I 74 28) = 1)) → (¬ (((I 74 29) + 8) < (I 74 27))) → (¬ ((sp_197 I (0 : Int32) (122 : Int32)) = 0)) → (¬ ((sp_197 I (1 : Int32) (0 : Int32)) = 0)) → (¬ ((sp_197 I (2 : Int32) (0 : Int32)) = 0)) → ((¬ ((I 74 27) ≤ ((I 74 29) + (3 : Int32)))) → ((¬ ((I 74 26) ≤ ((I 74 29) + (3 : Int32)))) → vp_in ((I 74 25) + ((I 74 29) + (3 : Int32))) 960)))) (p21 : ((sp_196 I (120 : Int32) (0 : Int32) (0 : Int32) (0 : Int32) (0 : Int32) (0 : Int32) (0 : Int32) (0 : Int32)) = 0) → ((sp_196 I (121 : Int32) (0 : Int32) (0 : Int32) (0 : Int32) (0 : Int32) (0 : Int32) (0 : Int32) (0 : Int32)) = 0) → ((¬ (¬ (I 74 32) = 0)) → (¬ (¬ (I 74 28) = 1)) → (¬ (((I 74 29) + 8) < (I 74 27))) → (¬ ((sp_197 I (0 : Int32) (122 : Int32)) = 0)) → (¬ ((sp_197 I (1 : Int32) (0 : Int32)) = 0)) → (¬ ((sp_197 I (2 : Int32) (0 : Int32)) = 0)) → (¬ ((sp_197 I (3 : Int32) (0 : Int32)) = 0)) → ((¬ ((I 74 27) ≤ ((I 74 29) + (4 : Int32)))) → ((¬ ((I 74 26) ≤ ((I 74 29) + (4 : Int32)))) → vp_in ((I 74 25) + ((I 74 29) + (4 : Int32))) 960)))) (p22 : ((sp_196 I (120 : Int32) (0 : Int32) (0 : Int32) (0 : Int32) (0 : Int32) (0 : Int32) (0 : Int32) (0 : Int32)) = 0) → ((sp_196 I (121 : Int32) (0 : Int32) (0 : Int32) (0 : Int32) (0 : Int32) (0 : Int32) (0 : Int32) (0 : Int32)) = 0) → ((¬ (¬ (I 74 32) = 0)) → (¬ (¬ (I 74 28) = 1)) → (¬ (((I 74 29) + 8) < (I 74 27))) → (¬ ((sp_197 I (0 : Int32) (122 : Int32)) = 0)) → (¬ ((sp_197 I (1 : Int32) (0 : Int32)) = 0)) → (¬ ((sp_197 I (2 : Int32) (0 : Int32)) = 0)) → (¬ ((sp_197 I (3 : Int32) (0 : Int32)) = 0)) → (¬ ((sp_197 I (4 : Int32) (0 : Int32)) = 0)) → ((¬ ((I 74 27) ≤ ((I 74 29) + (5 : Int32)))) → ((¬ ((I 74 26) ≤ ((I 74 29) + (5 : Int32)))) → vp_in ((I 74 25) + ((I 74 29) + (5 : Int32))) 960)))) (p23 : ((sp_196 I (120 : Int32) (0 : Int32) (0 : Int32) (0 : Int32) (0 : Int32) (0 : Int32) (0 : Int32) (0 : Int32)) = 0) → ((sp_196 I (121 : Int32) (0 : Int32) (0 : Int32) (0 : Int32) (0 : Int32) (0 : Int32) (0 : Int32) (0 : Int32)) = 0) → ((¬ (¬ (I 74 32) = 0)) → (¬ (¬ (I 74 28) = 1)) → (¬ (((I 74 29) + 8) < (I 74 27))) → (¬ ((sp_197 I (0 : Int32) (122 : Int32)) = 0)) → (¬ ((sp_197 I (1 : Int32) (0 : Int32)) = 0)) → (¬ ((sp_197 I (2 : Int32) (0 : Int32)) = 0)) → (¬ ((sp_197 I (3 : Int32) (0 : Int32)) = 0)) → (¬ ((sp_197 I (4 : Int32) (0 : Int32)) = 0)) → (¬ ((sp_197 I (5 : Int32) (0 : Int32)) = 0)) → ((¬ ((I 74 27) ≤ ((I 74 29) + (6 : Int32)))) → ((¬ ((I 74 26) ≤ ((I 74 29) + (6 : Int32)))) → vp_in ((I 74 25) + ((I 74 29) + (6 : Int32))) 960)))) (p24 : ((sp_196 I (120 : Int32) (0 : Int32) (0 : Int32) (0 : Int32) (0 : Int32) (0 : Int32) (0 : Int32) (0 : Int32)) = 0) → ((sp_196 I (121 : Int32) (0 : Int32) (0 : Int32) (0 : Int32) (0 : Int32) (0 : Int32) (0 : Int32) (0 : Int32)) = 0) → ((¬ (¬ (I 74 32) = 0)) → (¬ (¬ (I 74 28) = 1)) → (¬ (((I 74 29) + 8) < (I 74 27))) → (¬ ((sp_197 I (0 : Int32) (122 : Int32)) = 0)) → (¬ ((sp_197 I (1 : Int32) (0 : Int32)) = 0)) → (¬ ((sp_197 I (2 : Int32) (0 : Int32)) = 0)) → (¬ ((sp_197 I (3 : Int32) (0 : Int32)) = 0)) → (¬ ((sp_197 I (4 : Int32) (0 : Int32)) = 0)) → (¬ ((sp_197 I (5 : Int32) (0 : Int32)) = 0)) → (¬ ((sp_197 I (6 : Int32) (0 : Int32)) = 0)) → ((¬ ((I 74 27) ≤ ((I 74 29) + (7 : Int32)))) → ((¬ ((I 74 26) ≤ ((I 74 29) + (7 : Int32)))) → vp_in ((I 74 25) + ((I 74 29) + (7 : Int32))) 960)))) (p25 : ((sp_196 I (120 : Int32) (0 : Int32) (0 : Int32) (0 : Int32) (0 : Int32) (0 : Int32) (0 : Int32) (0 : Int32)) = 0) → ((sp_196 I (121 : Int32) (0 : Int32) (0 : Int32) (0 : Int32) (0 : Int32) (0 : Int32) (0 : Int32) (0 : Int32)) = 0) → ((sp_196 I (122 : Int32) (0 : Int32) (0 : Int32) (0 : Int32) (0 : Int32) (0 : Int32) (0 : Int32) (0 : Int32)) = 0) → ((¬ (¬ (I 74 32) = 0)) → (¬ (¬ (I 74 28) = 1)) → (¬ (((I 74 29) + 8) < (I 74 27))) → ((¬ ((I 74 27) ≤ ((I 74 29) + (0 : Int32)))) → ((¬ ((I 74 26) ≤ ((I 74 29) + (0 : Int32)))) → vp_in ((I 74 25) + ((I 74 29) + (0 : Int32))) 960)))) (p26 : ((sp_196 I (120 : Int32) (0 : Int32) (0 : Int32) (0 : Int32) (0 : Int32) (0 : Int32) (0 : Int32) (0 : Int32)) = 0) → ((sp_196 I (121 : Int32) (0 : Int32) (0 : Int32) (0 : Int32) (0 : Int32) (0 : Int32) (0 : Int32) (0 : Int32)) = 0) → ((sp_196 I (122 : Int32) (0 : Int32) (0 : Int32) (0 : Int32) (0 : Int32) (0 : Int32) (0 : Int32) (0 : Int32)) = 0) → ((¬ (¬ (I 74 32) = 0)) → (¬ (¬ (I 74 28) = 1)) → (¬ (((I 74 29) + 8) < (I 74 27))) → (¬ ((sp_197 I (0 : Int32) (116 : Int32)) = 0)) → ((¬ ((I 74 27) ≤ ((I 74 29) + (1 : Int32)))) → ((¬ ((I 74 26) ≤ ((I 74 29) + (1 : Int32)))) → vp_in ((I 74 25) + ((I 74 29) + (1 : Int32))) 960)))) (p27 : ((sp_196 I (120 : Int32) (0 : Int32) (0 : Int32) (0 : Int32) (0 : Int32) (0 : Int32) (0 : Int32) (0 : Int32)) = 0) → ((sp_196 I (121 : Int32) (0 : Int32) (0 : Int32) (0 : Int32) (0 : Int32) (0 : Int32) (0 : Int32) (0 : Int32)) = 0) → ((sp_196 I (122 : Int32) (0 : Int32) (0 : Int32) (0 : Int32) (0 : Int32) (0 : Int32) (0 : Int32) (0 : Int32)) = 0) → ((¬ (¬ (I 74 32) = 0)) → (¬ (¬ (I 74 28) = 1)) → (¬ (((I 74 29) + 8) < (I 74 27))) → (¬ ((sp_197 I (0 : Int32) (116 : Int32)) = 0)) → (¬ ((sp_197 I (1 : Int32) (97 : Int32)) = 0)) → ((¬ ((I 74 27) ≤ ((I 74 29) + (2 : Int32)))) → ((¬ ((I 74 26) ≤ ((I 74 29) + (2 : Int32)))) → vp_in ((I 74 25) + ((I 74 29) + (2 : Int32))) 960)))) (p28 : ((sp_196 I (120 : Int32) (0 : Int32) (0 : Int32) (0 : Int32) (0 : Int32) (0 : Int32) (0 : Int32) (0 : Int32)) = 0) → ((sp_196 I (121 : Int32) (0 : Int32) (0 : Int32) (0 : Int32) (0 : Int32) (0 : Int32) (0 : Int32) (0 : Int32)) = 0) → ((sp_196 I (122 : Int32) (0 : Int32) (0 : Int32) (0 : Int32) (0 : Int32) (0 : Int32) (0 : Int32) (0 : Int32)) = 0) → ((¬ (¬ (I 74 32) = 0)) → (¬ (¬ (I 74 28) = 1)) → (¬ (((I 74 29) + 8) < (I 74 27))) → (¬ ((sp_197 I (0 : Int32) (116 : Int32)) = 0)) → (¬ ((sp_197 I (1 : Int32) (97 : Int32)) = 0)) → (¬ ((sp_197 I (2 : Int32) (103 : Int32)) = 0)) → ((¬ ((I 74 27) ≤ ((I 74 29) + (3 : Int32)))) → ((¬ ((I 74 26) ≤ ((I 74 29) + (3 : Int32)))) → vp_in ((I 74 25) + ((I 74 29) + (3 : Int32))) 960)))) (p29 : ((sp_196 I (120 : Int32) (0 : Int32) (0 : Int32) (0 : Int32) (0 : Int32) (0 : Int32) (0 : Int32) (0 : Int32)) = 0) → ((sp_196 I (121 : Int32) (0 : Int32) (0 : Int32) (0 : Int32) (0 : Int32) (0 : Int32) (0 : Int32) (0 : Int32)) = 0) → ((sp_196 I (122 : Int32) (0 : Int32) (0 : Int32) (0 : Int32) (0 : Int32) (0 : Int32) (0 : Int32) (0 : Int32)) = 0) → ((¬ (¬ (I 74 32) = 0)) → (¬ (¬ (I 74 28) = 1)) → (¬ (((I 74 29) + 8) < (I 74 27))) → (¬ ((sp_197 I (0 : Int32) (116 : Int32)) = 0)) → (¬ ((sp_197 I (1 : Int32) (97 : Int32)) = 0)) → (¬ ((sp_197 I (2 : Int32) (103 : Int32)) = 0)) → (¬ ((sp_197 I (3 : Int32) (0 : Int32)) = 0)) → ((¬ ((I 74 27) ≤ ((I 74 29) + (4 : Int32)))) → ((¬ ((I 74 26) ≤ ((I 74 29) + (4 : Int32)))) → vp_in ((I 74 25) + ((I 74 29) + (4 : Int32))) 960)))) (p30 : ((sp_196 I (120 : Int32) (0 : Int32) (0 : Int32) (0 : Int32) (0 : Int32) (0 : Int32) (0 : Int32) (0 : Int32)) = 0) → ((sp_196 I (121 : Int32) (0 : Int32) (0 : Int32) (0 : Int32) (0 : Int32) (0 : Int32) (0 : Int32) (0 : Int32)) = 0) → ((sp_196 I (122 : Int32) (0 : Int32) (0 : Int32) (0 : Int32) (0 : Int32) (0 : Int32) (0 : Int32) (0 : Int32)) = 0) → ((¬ (¬ (I 74 32) = 0)) → (¬ (¬ (I 74 28) = 1)) → (¬ (((I 74 29) + 8) < (I 74 27))) → (¬ ((sp_197 I (0 : Int32) (116 : Int32)) = 0)) → (¬ ((sp_197 I (1 : Int32) (97 : Int32)) = 0)) → (¬ ((sp_197 I (2 : Int32) (103 : Int32)) = 0)) → (¬ ((sp_197 I (3 : Int32) (0 : Int32)) = 0)) → (¬ ((sp_197 I (4 : Int32) (0 : Int32)) = 0)) → ((¬ ((I 74 27) ≤ ((I 74 29) + (5 : Int32)))) → ((¬ ((I 74 26) ≤ ((I 74 29) + (5 : Int32)))) → vp_in ((I 74 25) + ((I 74 29) + (5 : Int32))) 960)))) (p31 : ((sp_196 I (120 : Int32) (0 : Int32) (0 : Int32) (0 : Int32) (0 : Int32) (0 : Int32) (0 : Int32) (0 : Int32)) = 0) → ((sp_196 I (121 : Int32) (0 : Int32) (0 : Int32) (0 : Int32) (0 : Int32) (0 : Int32) (0 : Int32) (0 : Int32)) = 0) → ((sp_196 I (122 : Int32) (0 : Int32) (0 : Int32) (0 : Int32) (0 : Int32) (0 : Int32) (0 : Int32) (0 : Int32)) = 0) → ((¬ (¬ (I 74 32) = 0)) → (¬ (¬ (I 74 28) = 1)) → (¬ (((I 74 29) + 8) < (I 74 27))) → (¬ ((sp_197 I (0 : Int32) (116 : Int32)) = 0)) → (¬ ((sp_197 I (1 : Int32) (97 : Int32)) = 0)) → (¬ ((sp_197 I (2 : Int32) (103 : Int32)) = 0)) → (¬ ((sp_197 I (3 : Int32) (0 : Int32)) = 0)) → (¬ ((sp_197 I (4 : Int32) (0 : Int32)) = 0)) → (¬ ((sp_197 I (5 : Int32) (0 : Int32)) = 0)) → ((¬ ((I 74 27) ≤ ((I 74 29) + (6 : Int32)))) → ((¬ ((I 74 26) ≤ ((I 74 29) + (6 : Int32)))) → vp_in ((I 74 25) + ((I 74 29) + (6 : Int32))) 960)))) (p32 : ((sp_196 I (120 : Int32) (0 : Int32) (0 : Int32) (0 : Int32) (0 : Int32) (0 : Int32) (0 : Int32) (0 : Int32)) = 0) → ((sp_196 I (121 : Int32) (0 : Int32) (0 : Int32) (0 : Int32) (0 : Int32) (0 : Int32) (0 : Int32) (0 : Int32)) = 0) → ((sp_196 I (122 : Int32) (0 : Int32) (0 : Int32) (0 : Int32) (0 : Int32) (0 : Int32) (0 : Int32) (0 : Int32)) = 0) → ((¬ (¬ (I 74 32) = 0)) → (¬ (¬ (I 74 28) = 1)) → (¬ (((I 74 29) + 8) < (I 74 27))) → (¬ ((sp_197 I (0 : Int32) (116 : Int32)) = 0)) → (¬ ((sp_197 I (1 : Int32) (97 : Int32)) = 0)) → (¬ ((sp_197 I (2 : Int32) (103 : Int32)) = 0)) → (¬ ((sp_197 I (3 : Int32) (0 : Int32)) = 0)) → (¬ ((sp_197 I (4 : Int32) (0 : Int32)) = 0)) → (¬ ((sp_197 I (5 : Int32) (0 : Int32)) = 0)) → (¬ ((sp_197 I (6 : Int32) (0 : Int32)) = 0)) → ((¬ ((I 74 27) ≤ ((I 74 29) + (7 : Int32)))) → ((¬ ((I 74 26) ≤ ((I 74 29) + (7 : Int32)))) → vp_in ((I 74 25) + ((I 74 29) + (7 : Int32))) 960)))) (p33 : ((sp_196 I (120 : Int32) (0 : Int32) (0 : Int32) (0 : Int32) (0 : Int32) (0 : Int32) (0 : Int32) (0 : Int32)) = 0) → ((sp_196 I (121 : Int32) (0 : Int32) (0 : Int32) (0 : Int32) (0 : Int32) (0 : Int32) (0 : Int32) (0 : Int32)) = 0) → ((sp_196 I (122 : Int32) (0 : Int32) (0 : Int32) (0 : Int32) (0 : Int32) (0 : Int32) (0 : Int32) (0 : Int32)) = 0) → ((sp_196 I (116 : Int32) (97 : Int32) (103 : Int32) (0 : Int32) (0 : Int32) (0 : Int32) (0 : Int32) (0 : Int32)) = 0) → ((¬ (¬ (I 74 32) = 0)) → (¬ (¬ (I 74 28) = 1)) → (¬ (((I 74 29) + 8) < (I 74 27))) → ((¬ ((I 74 27) ≤ ((I 74 29) + (0 : Int32)))) → ((¬ ((I 74 26) ≤ ((I 74 29) + (0 : Int32)))) → vp_in ((I 74 25) + ((I 74 29) + (0 : Int32))) 960)))) (p34 : ((sp_196 I (120 : Int32) (0 : Int32) (0 : Int32) (0 : Int32) (0 : Int32) (0 : Int32) (0 : Int32) (0 : Int32)) = 0) → ((sp_196 I (121 : Int32) (0 : Int32) (0 : Int32) (0 : Int32) (0 : Int32) (0 : Int32) (0 : Int32) (0 : Int32)) = 0) → ((sp_196 I (122 : Int32) (0 : Int32) (0 : Int32) (0 : Int32) (0 : Int32) (0 : Int32) (0 : Int32) (0 : Int32)) = 0) → ((sp_196 I (116 : Int32) (97 : Int32) (103 : Int32) (0 : Int32) (0 : Int32) (0 : Int32) (0 : Int32) (0 : Int32)) = 0) → ((¬ (¬ (I 74 32) = 0)) → (¬ (¬ (I 74 28) = 1)) → (¬ (((I 74 29) + 8) < (I 74 27))) → (¬ ((sp_197 I (0 : Int32) (110 : Int32)) = 0)) → ((¬ ((I 74 27) ≤ ((I 74 29) + (1 : Int32)))) → ((¬ ((I 74 26) ≤ ((I 74 29) + (1 : Int32)))) → vp_in ((I 74 25) + ((I 74 29) + (1 : Int32))) 960)))) (p35 : ((sp_196 I (120 : Int32) (0 : Int32) (0 : Int32) (0 : Int32) (0 : Int32) (0 : Int32) (0 : Int32) (0 : Int32)) = 0) → ((sp_196 I (121 : Int32) (0 : Int32) (0 : Int32) (0 : Int32) (0 : Int32) (0 : Int32) (0 : Int32) (0 : Int32)) = 0) → ((sp_196 I (122 : Int32) (0 : Int32) (0 : Int32) (0 : Int32) (0 : Int32) (0 : Int32) (0 : Int32) (0 : Int32)) = 0) → ((sp_196 I (116 : Int32) (97 : Int32) (103 : Int32) (0 : Int32) (0 : Int32) (0 : Int32) (0 : Int32) (0 : Int32)) = 0) → ((¬ (¬ (I 74 32) = 0)) → (¬ (¬ (I 74 28) = 1)) → (¬ (((I 74 29) + 8) < (I 74 27))) → (¬ ((sp_197 I (0 : Int32) (110 : Int32)) = 0)) → (¬ ((sp_197 I (1 : Int32) (117 : Int32)) = 0)) → ((¬ ((I 74 27) ≤ ((I 74 29) + (2 : Int32)))) → ((¬ ((I 74 26) ≤ ((I 74 29) + (2 : Int32)))) → vp_in ((I 74 25) + ((I 74 29) + (2 : Int32))) 960)))) (p36 : ((sp_196 I (120 : Int32) (0 : Int32) (0 : Int32) (0 : Int32) (0 : Int32) (0 : Int32) (0 : Int32) (0 : Int32)) = 0) → ((sp_196 I (121 : Int32) (0 : Int32) (0 : Int32) (0 : Int32) (0 : Int32) (0 : Int32) (0 : Int32) (0 : Int32)) = 0) → ((sp_196 I (122 : Int32) (0 : Int32) (0 : Int32) (0 : Int32) (0 : Int32) (0 : Int32) (0 : Int32) (0 : Int32)) = 0) → ((sp_196 I (116 : Int32) (97 : Int32) (103 : Int32) (0 : Int32) (0 : Int32) (0 : Int32) (0 : Int32) (0 : Int32)) = 0) → ((¬ (¬ (I 74 32) = 0)) → (¬ (¬ (I 74 28) = 1)) → (¬ (((I 74 29) + 8) < (I 74 27))) → (¬ ((sp_197 I (0 : Int32) (110 : Int32)) = 0)) → (¬ ((sp_197 I (1 : Int32) (117 : Int32)) = 0)) → (¬ ((sp_197 I (2 : Int32) (109 : Int32)) = 0)) → ((¬ ((I 74 27) ≤ ((I 74 29) + (3 : Int32)))) → ((¬ ((I 74 26) ≤ ((I 74 29) + (3 : Int32)))) → vp_in ((I 74 25) + ((I 74 29) + (3 : Int32))) 960)))) (p37 : ((sp_196 I (120 : Int32) (0 : Int32) (0 : Int32) (0 : Int32) (0 : Int32) (0 : Int32) (0 : Int32) (0 : Int32)) = 0) → ((sp_196 I (121 : Int32) (0 : Int32) (0 : Int32) (0 : Int32) (0 : Int32) (0 : Int32) (0 : Int32) (0 : Int32)) = 0) → ((sp_196 I (122 : Int32) (0 : Int32) (0 : Int32) (0 : Int32) (0 : Int32) (0 : Int32) (0 : Int32) (0 : Int32)) = 0) → ((sp_196 I (116 : Int32) (97 : Int32) (103 : Int32) (0 : Int32) (0 : Int32) (0 : Int32) (0 : Int32) (0 : Int32)) = 0) → ((¬ (¬ (I 74 32) = 0)) → (¬ (¬ (I 74 28) = 1)) → (¬ (((I 74 29) + 8) < (I 74 27))) → (¬ ((sp_197 I (0 : Int32) (110 : Int32)) = 0)) → (¬ ((sp_197 I (1 : Int32) (117 : Int32)) = 0)) → (¬ ((sp_197 I (2 : Int32) (109 : Int32)) = 0)) → (¬ ((sp_197 I (3 : Int32) (98 : Int32)) = 0)) → ((¬ ((I 74 27) ≤ ((I 74 29) + (4 : Int32)))) → ((¬ ((I 74 26) ≤ ((I 74 29) + (4 : Int32)))) → vp_in ((I 74 25) + ((I 74 29) + (4 : Int32))) 960)))) (p38 : ((sp_196 I (120 : Int32) (0 : Int32) (0 : Int32) (0 : Int32) (0 : Int32) (0 : Int32) (0 : Int32) (0 : Int32)) = 0) → ((sp_196 I (121 : Int32) (0 : Int32) (0 : Int32) (0 : Int32) (0 : Int32) (0 : Int32) (0 : Int32) (0 : Int32)) = 0) → ((sp_196 I (122 : Int32) (0 : Int32) (0 : Int32) (0 : Int32) (0 : Int32) (0 : Int32) (0 : Int32) (0 : Int32)) = 0) → ((sp_196 I (116 : Int32) (97 : Int32) (103 : Int32) (0 : Int32) (0 : Int32) (0 : Int32) (0 : Int32) (0 : Int32)) = 0) → ((¬ (¬ (I 74 32) = 0)) → (¬ (¬ (I 74 28) = 1)) → (¬ (((I 74 29) + 8) < (I 74 27))) → (¬ ((sp_197 I (0 : Int32) (110 : Int32)) = 0)) → (¬ ((sp_197 I (1 : Int32) (117 : Int32)) = 0)) → (¬ ((sp_197 I (2 : Int32) (109 : Int32)) = 0)) → (¬ ((sp_197 I (3 : Int32) (98 : Int32)) = 0)) → (¬ ((sp_197 I (4 : Int32) (101 : Int32)) = 0)) → ((¬ ((I 74 27) ≤ ((I 74 29) + (5 : Int32)))) → ((¬ ((I 74 26) ≤ ((I 74 29) + (5 : Int32)))) → vp_in ((I 74 25) + ((I 74 29) + (5 : Int32))) 960)))) (p39 : ((sp_196 I (120 : Int32) (0 : Int32) (0 : Int32) (0 : Int32) (0 : Int32) (0 : Int32) (0 : Int32) (0 : Int32)) = 0) → ((sp_196 I (121 : Int32) (0 : Int32) (0 : Int32) (0 : Int32) (0 : Int32) (0 : Int32) (0 : Int32) (0 : Int32)) = 0) → ((sp_196 I (122 : Int32) (0 : Int32) (0 : Int32) (0 : Int32) (0 : Int32) (0 : Int32) (0 : Int32) (0 : Int32)) = 0) → ((sp_196 I (116 : Int32) (97 : Int32) (103 : Int32) (0 : Int32) (0 : Int32) (0 : Int32) (0 : Int32) (0 : Int32)) = 0) → ((¬ (¬ (I 74 32) = 0)) → (¬ (¬ (I 74 28) = 1)) → (¬ (((I 74 29) + 8) < (I 74 27))) → (¬ ((sp_197 I (0 : Int32) (110 : Int32)) = 0)) → (¬ ((sp_197 I (1 : Int32) (117 : Int32)) = 0)) → (¬ ((sp_197 I (2 : Int32) (109 : Int32)) = 0)) → (¬ ((sp_197 I (3 : Int32) (98 : Int32)) = 0)) → (¬ ((sp_197 I (4 : Int32) (101 : Int32)) = 0)) → (¬ ((sp_197 I (5 : Int32) (114 : Int32)) = 0)) → ((¬ ((I 74 27) ≤ ((I 74 29) + (6 : Int32)))) → ((¬ ((I 74 26) ≤ ((I 74 29) + (6 : Int32)))) → vp_in ((I 74 25) + ((I 74 29) + (6 : Int32))) 960)))) (p40 : ((sp_196 I (120 : Int32) (0 : Int32) (0 : Int32) (0 : Int32) (0 : Int32) (0 : Int32) (0 : Int32) (0 : Int32)) = 0) → ((sp_196 I (121 : Int32) (0 : Int32) (0 : Int32) (0 : Int32) (0 : Int32) (0 : Int32) (0 : Int32) (0 : Int32)) = 0) → ((sp_196 I (122 : Int32) (0 : Int32) (0 : Int32) (0 : Int32) (0 : Int32) (0 : Int32) (0 : Int32) (0 : Int32)) = 0) → ((sp_196 I (116 : Int32) (97 : Int32) (103 : Int32) (0 : Int32) (0 : Int32) (0 : Int32) (0 : Int32) (0 : Int32)) = 0) → ((¬ (¬ (I 74 32) = 0)) → (¬ (¬ (I 74 28) = 1)) → (¬ (((I 74 29) + 8) < (I 74 27))) → (¬ ((sp_197 I (0 : Int32) (110 : Int32)) = 0)) → (¬ ((sp_197 I (1 : Int32) (117 : Int32)) = 0)) → (¬ ((sp_197 I (2 : Int32) (109 : Int32)) = 0)) → (¬ ((sp_197 I (3 : Int32) (98 : Int32)) = 0)) → (¬ ((sp_197 I (4 : Int32) (101 : Int32)) = 0)) → (¬ ((sp_197 I (5 : Int32) (114 : Int32)) = 0)) → (¬ ((sp_197 I (6 : Int32) (0 : Int32)) = 0)) → ((¬ ((I 74 27) ≤ ((I 74 29) + (7 : Int32)))) → ((¬ ((I 74 26) ≤ ((I 74 29) + (7 : Int32)))) → vp_in ((I 74 25) + ((I 74 29) + (7 : Int32))) 960)))) (p41 : ((sp_196 I (120 : Int32) (0 : Int32) (0 : Int32) (0 : Int32) (0 : Int32) (0 : Int32) (0 : Int32) (0 : Int32)) = 0) → ((sp_196 I (121 : Int32) (0 : Int32) (0 : Int32) (0 : Int32) (0 : Int32) (0 : Int32) (0 : Int32) (0 : Int32)) = 0) → ((sp_196 I (122 : Int32) (0 : Int32) (0 : Int32) (0 : Int32) (0 : Int32) (0 : Int32) (0 : Int32) (0 : Int32)) = 0) → ((sp_196 I (116 : Int32) (97 : Int32) (103 : Int32) (0 : Int32) (0 : Int32) (0 : Int32) (0 : Int32) (0 : Int32)) = 0) → ((sp_196 I (110 : Int32) (117 : Int32) (109 : Int32) (98 : Int32) (101 : Int32) (114 : Int32) (0 : Int32) (0 : Int32)) = 0) → ((¬ (¬ (I 74 32) = 0)) → (¬ (¬ (I 74 28) = 1)) → (¬ (((I 74 29) + 8) < (I 74 27))) → ((¬ ((I 74 27) ≤ ((I 74 29) + (0 : Int32)))) → ((¬ ((I 74 26) ≤ ((I 74 29) + (0 : Int32)))) → vp_in ((I 74 25) + ((I 74 29) + (0 : Int32))) 960)))) (p42 : ((sp_196 I (120 : Int32) (0 : Int32) (0 : Int32) (0 : Int32) (0 : Int32) (0 : Int32) (0 : Int32) (0 : Int32)) = 0) → ((sp_196 I (121 : Int32) (0 : Int32) (0 : Int32) (0 : Int32) (0 : Int32) (0 : Int32) (0 : Int32) (0 : Int32)) = 0) → ((sp_196 I (122 : Int32) (0 : Int32) (0 : Int32) (0 : Int32) (0 : Int32) (0 : Int32) (0 : Int32) (0 : Int32)) = 0) → ((sp_196 I (116 : Int32) (97 : Int32) (103 : Int32) (0 : Int32) (0 : Int32) (0 : Int32) (0 : Int32) (0 : Int32)) = 0) → ((sp_196 I (110 : Int32) (117 : Int32) (109 : Int32) (98 : Int32) (101 : Int32) (114 : Int32) (0 : Int32) (0 : Int32)) = 0) → ((¬ (¬ (I 74 32) = 0)) → (¬ (¬ (I 74 28) = 1)) → (¬ (((I 74 29) + 8) < (I 74 27))) → (¬ ((sp_197 I (0 : Int32) (99 : Int32)) = 0)) → ((¬ ((I 74 27) ≤ ((I 74 29) + (1 : Int32)))) → ((¬ ((I 74 26) ≤ ((I 74 29) + (1 : Int32)))) → vp_in ((I 74 25) + ((I 74 29) + (1 : Int32))) 960)))) (p43 : ((sp_196 I (120 : Int32) (0 : Int32) (0 : Int32) (0 : Int32) (0 : Int32) (0 : Int32) (0 : Int32) (0 : Int32)) = 0) → ((sp_196 I (121 : Int32) (0 : Int32) (0 : Int32) (0 : Int32) (0 : Int32) (0 : Int32) (0 : Int32) (0 : Int32)) = 0) → ((sp_196 I (122 : Int32) (0 : Int32) (0 : Int32) (0 : Int32) (0 : Int32) (0 : Int32) (0 : Int32) (0 : Int32)) = 0) → ((sp_196 I (116 : Int32) (97 : Int32) (103 : Int32) (0 : Int32) (0 : Int32) (0 : Int32) (0 : Int32) (0 : Int32)) = 0) → ((sp_196 I (110 : Int32) (117 : Int32) (109 : Int32) (98 : Int32) (101 : Int32) (114 : Int32) (0 : Int32) (0 : Int32)) = 0) → ((¬ (¬ (I 74 32) = 0)) → (¬ (¬ (I 74 28) = 1)) → (¬ (((I 74 29) + 8) < (I 74 27))) → (¬ ((sp_197 I (0 : Int32) (99 : Int32)) = 0)) → (¬ ((sp_197 I (1 : Int32) (101 : Int32)) = 0)) → ((¬ ((I 74 27) ≤ ((I 74 29) + (2 : Int32)))) → ((¬ ((I 74 26) ≤ ((I 74 29) + (2 : Int32)))) → vp_in ((I 74 25) + ((I 74 29) + (2 : Int32))) 960)))) (p44 : ((sp_196 I (120 : Int32) (0 : Int32) (0 : Int32) (0 : Int32) (0 : Int32) (0 : Int32) (0 : Int32) (0 : Int32)) = 0) → ((sp_196 I (121 : Int32) (0 : Int32) (0 : Int32) (0 : Int32) (0 : Int32) (0 : Int32) (0 : Int32) (0 : Int32)) = 0) → ((sp_196 I (122 : Int32) (0 : Int32) (0 : Int32) (0 : Int32) (0 : Int32) (0 : Int32) (0 : Int32) (0 : Int32)) = 0) → ((sp_196 I (116 : Int32) (97 : Int32) (103 : Int32) (0 : Int32) (0 : Int32) (0 : Int32) (0 : Int32) (0 : Int32)) = 0) → ((sp_196 I (110 : Int32) (117 : Int32) (109 : Int32) (98 : Int32) (101 : Int32) (114 : Int32) (0 : Int32) (0 : Int32)) = 0) → ((¬ (¬ (I 74 32) = 0)) → (¬ (¬ (I 74 28) = 1)) → (¬ (((I 74 29) + 8) < (I 74 27))) → (¬ ((sp_197 I (0 : Int32) (99 : Int32)) = 0)) → (¬ ((sp_197 I (1 : Int32) (101 : Int32)) = 0)) → (¬ ((sp_197 I (2 : Int32) (108 : Int32)) = 0)) → ((¬ ((I 74 27) ≤ ((I 74 29) + (3 : Int32)))) → ((¬ ((I 74 26) ≤ ((I 74 29) + (3 : Int32)))) → vp_in ((I 74 25) + ((I 74 29) + (3 : Int32))) 960)))) (p45 : ((sp_196 I (120 : Int32) (0 : Int32) (0 : Int32) (0 : Int32) (0 : Int32) (0 : Int32) (0 : Int32) (0 : Int32)) = 0) → ((sp_196 I (121 : Int32) (0 : Int32) (0 : Int32) (0 : Int32) (0 : Int32) (0 : Int32) (0 : Int32) (0 : Int32)) = 0) → ((sp_196 I (122 : Int32) (0 : Int32) (0 : Int32) (0 : Int32) (0 : Int32) (0 : Int32) (0 : Int32) (0 : Int32)) = 0) → ((sp_196 I (116 : Int32) (97 : Int32) (103 : Int32) (0 : Int32) (0 : Int32) (0 : Int32) (0 : Int32) (0 : Int32)) = 0) → ((sp_196 I (110 : Int32) (117 : Int32) (109 : Int32) (98 : Int32) (101 : Int32) (114 : Int32) (0 : Int32) (0 : Int32)) = 0) → ((¬ (¬ (I 74 32) = 0)) → (¬ (¬ (I 74 28) = 1)) → (¬ (((I 74 29) + 8) < (I 74 27))) → (¬ ((sp_197 I (0 : Int32) (99 : Int32)) = 0)) → (¬ ((sp_197 I (1 : Int32) (101 : Int32)) = 0)) → (¬ ((sp_197 I (2 : Int32) (108 : Int32)) = 0)) → (¬ ((sp_197 I (3 : Int32) (108 : Int32)) = 0)) → ((¬ ((I 74 27) ≤ ((I 74 29) + (4 : Int32)))) → ((¬ ((I 74 26) ≤ ((I 74 29) + (4 : Int32)))) → vp_in ((I 74 25) + ((I 74 29) + (4 : Int32))) 960)))) (p46 : ((sp_196 I (120 : Int32) (0 : Int32) (0 : Int32) (0 : Int32) (0 : Int32) (0 : Int32) (0 : Int32) (0 : Int32)) = 0) → ((sp_196 I (121 : Int32) (0 : Int32) (0 : Int32) (0 : Int32) (0 : Int32) (0 : Int32) (0 : Int32) (0 : Int32)) = 0) → ((sp_196 I (122 : Int32) (0 : Int32) (0 : Int32) (0 : Int32) (0 : Int32) (0 : Int32) (0 : Int32) (0 : Int32)) = 0) → ((sp_196 I (116 : Int32) (97 : Int32) (103 : Int32) (0 : Int32) (0 : Int32) (0 : Int32) (0 : Int32) (0 : Int32)) = 0) → ((sp_196 I (110 : Int32) (117 : Int32) (109 : Int32) (98 : Int32) (101 : Int32) (114 : Int32) (0 : Int32) (0 : Int32)) = 0) → ((¬ (¬ (I 74 32) = 0)) → (¬ (¬ (I 74 28) = 1)) → (¬ (((I 74 29) + 8) < (I 74 27))) → (¬ ((sp_197 I (0 : Int32) (99 : Int32)) = 0)) → (¬ ((sp_197 I (1 : Int32) (101 : Int32)) = 0)) → (¬ ((sp_197 I (2 : Int32) (108 : Int32)) = 0)) → (¬ ((sp_197 I (3 : Int32) (108 : Int32)) = 0)) → (¬ ((sp_197 I (4 : Int32) (0 : Int32)) = 0)) → ((¬ ((I 74 27) ≤ ((I 74 29) + (5 : Int32)))) → ((¬ ((I 74 26) ≤ ((I 74 29) + (5 : Int32)))) → vp_in ((I 74 25) + ((I 74 29) + (5 : Int32))) 960)))) (p47 : ((sp_196 I (120 : Int32) (0 : Int32) (0 : Int32) (0 : Int32) (0 : Int32) (0 : Int32) (0 : Int32) (0 : Int32)) = 0) → ((sp_196 I (121 : Int32) (0 : Int32) (0 : Int32) (0 : Int32) (0 : Int32) (0 : Int32) (0 : Int32) (0 : Int32)) = 0) → ((sp_196 I (122 : Int32) (0 : Int32) (0 : Int32) (0 : Int32) (0 : Int32) (0 : Int32) (0 : Int32) (0 : Int32)) = 0) → ((sp_196 I (116 : Int32) (97 : Int32) (103 : Int32) (0 : Int32) (0 : Int32) (0 : Int32) (0 : Int32) (0 : Int32)) = 0) → ((sp_196 I (110 : Int32) (117 : Int32) (109 : Int32) (98 : Int32) (101 : Int32) (114 : Int32) (0 : Int32) (0 : Int32)) = 0) → ((¬ (¬ (I 74 32) = 0)) → (¬ (¬ (I 74 28) = 1)) → (¬ (((I 74 29) + 8) < (I 74 27))) → (¬ ((sp_197 I (0 : Int32) (99 : Int32)) = 0)) → (¬ ((sp_197 I (1 : Int32) (101 : Int32)) = 0)) → (¬ ((sp_197 I (2 : Int32) (108 : Int32)) = 0)) → (¬ ((sp_197 I (3 : Int32) (108 : Int32)) = 0)) → (¬ ((sp_197 I (4 : Int32) (0 : Int32)) = 0)) → (¬ ((sp_197 I (5 : Int32) (0 : Int32)) = 0)) → ((¬ ((I 74 27) ≤ ((I 74 29) + (6 : Int32)))) → ((¬ ((I 74 26) ≤ ((I 74 29) + (6 : Int32)))) → vp_in ((I 74 25) + ((I 74 29) + (6 : Int32))) 960)))) (p48 : ((sp_196 I (120 : Int32) (0 : Int32) (0 : Int32) (0 : Int32) (0 : Int32) (0 : Int32) (0 : Int32) (0 : Int32)) = 0) → ((sp_196 I (121 : Int32) (0 : Int32) (0 : Int32) (0 : Int32) (0 : Int32) (0 : Int32) (0 : Int32) (0 : Int32)) = 0) → ((sp_196 I (122 : Int32) (0 : Int32) (0 : Int32) (0 : Int32) (0 : Int32) (0 : Int32) (0 : Int32) (0 : Int32)) = 0) → ((sp_196 I (116 : Int32) (97 : Int32) (103 : Int32) (0 : Int32) (0 : Int32) (0 : Int32) (0 : Int32) (0 : Int32)) = 0) → ((sp_196 I (110 : Int32) (117 : Int32) (109 : Int32) (98 : Int32) (101 : Int32) (114 : Int32) (0 : Int32) (0 : Int32)) = 0) → ((¬ (¬ (I 74 32) = 0)) → (¬ (¬ (I 74 28) = 1)) → (¬ (((I 74 29) + 8) < (I 74 27))) → (¬ ((sp_197 I (0 : Int32) (99 : Int32)) = 0)) → (¬ ((sp_197 I (1 : Int32) (101 : Int32)) = 0)) → (¬ ((sp_197 I (2 : Int32) (108 : Int32)) = 0)) → (¬ ((sp_197 I (3 : Int32) (108 : Int32)) = 0)) → (¬ ((sp_197 I (4 : Int32) (0 : Int32)) = 0)) → (¬ ((sp_197 I (5 : Int32) (0 : Int32)) = 0)) → (¬ ((sp_197 I (6 : Int32) (0 : Int32)) = 0)) → ((¬ ((I 74 27) ≤ ((I 74 29) + (7 : Int32)))) → ((¬ ((I 74 26) ≤ ((I 74 29) + (7 : Int32)))) → vp_in ((I 74 25) + ((I 74 29) + (7 : Int32))) 960)))) : Con l 208 (d + 3) 0 0 [.ref 74] SH (I, F, L, RT t) (rT (fn_208 I F L t)) := by
  refine cn_208 ?_
  unfold fn_208
  refine bk_208_0 (cs_196 (d := d + 0) (p1) (p2) (p3) (p4) (p5) (p6) (p7) (p8)) ?_
  refine bk_208_13 (fun h0 => ?_) (fun h0 => ?_)
  · rw [if_pos h0]
    refine bk_208_21 (cs_196 (d := d + 0) (p9 h0) (p10 h0) (p11 h0) (p12 h0) (p13 h0) (p14 h0) (p15 h0) (p16 h0)) ?_
    refine bk_208_34 (fun h1 => ?_) (fun h1 => ?_)
    · rw [if_pos h1]
      refine bk_208_42 (cs_196 (d := d + 0) (p17 h0 h1) (p18 h0 h1) (p19 h0 h1) (p20 h0 h1) (p21 h0 h1) (p22 h0 h1) (p23 h0 h1) (p24 h0 h1)) ?_
      refine bk_208_55 (fun h2 => ?_) (fun h2 => ?_)
      · rw [if_pos h2]
        refine bk_208_63 (cs_196 (d := d + 0) (p25 h0 h1 h2) (p26 h0 h1 h2) (p27 h0 h1 h2) (p28 h0 h1 h2) (p29 h0 h1 h2) (p30 h0 h1 h2) (p31 h0 h1 h2) (p32 h0 h1 h2)) ?_
        refine bk_208_78 (fun h3 => ?_) (fun h3 => ?_)
        · rw [if_pos h3]
          refine bk_208_86 (cs_196 (d := d + 0) (p33 h0 h1 h2 h3) (p34 h0 h1 h2 h3) (p35 h0 h1 h2 h3) (p36 h0 h1 h2 h3) (p37 h0 h1 h2 h3) (p38 h0 h1 h2 h3) (p39 h0 h1 h2 h3) (p40 h0 h1 h2 h3)) ?_
          refine bk_208_104 (fun h4 => ?_) (fun h4 => ?_)
          · rw [if_pos h4]
            refine bk_208_112 (cs_196 (d := d + 0) (p41 h0 h1 h2 h3 h4) (p42 h0 h1 h2 h3 h4) (p43 h0 h1 h2 h3 h4) (p44 h0 h1 h2 h3 h4) (p45 h0 h1 h2 h3 h4) (p46 h0 h1 h2 h3 h4) (p47 h0 h1 h2 h3 h4) (p48 h0 h1 h2 h3 h4)) ?_
            refine bk_208_128 (fun h5 => ?_) (fun h5 => ?_)
            · rw [if_pos h5]
              refine bk_208_136 (Con_QV (ci_199 (d := d + 2) )) (fun I1 F1 L1 t1 e1 => ?_)
              rw [← e1]
              dsimp only [bndV]
              exact bk_208_140 ⟨rfl, rfl, rfl⟩
            · rw [if_neg h5]
              exact bk_208_131 ⟨rfl, rfl, rfl⟩
          · rw [if_neg h4]
            exact bk_208_107 ⟨rfl, rfl, rfl⟩
        · rw [if_neg h3]
          exact bk_208_81 ⟨rfl, rfl, rfl⟩
      · rw [if_neg h2]
        exact bk_208_58 ⟨rfl, rfl, rfl⟩
    · rw [if_neg h1]
      exact bk_208_37 ⟨rfl, rfl, rfl⟩
  · rw [if_neg h0]
    exact bk_208_16 ⟨rfl, rfl, rfl⟩
/-- VectorShelfModel.codeOf(II)I -/
def sp_211 (I : Nat → Nat → Int32) (x1 : Int32) (x2 : Int32) : Int32 := (if (-128) ≤ (sp_212 ((I 84 ((3 * x1) + x2).toNatClampNeg) - (I 80 ((3 * (I 86 x1.toNatClampNeg)) + x2).toNatClampNeg)) (I 78 0)) then (if (sp_212 ((I 84 ((3 * x1) + x2).toNatClampNeg) - (I 80 ((3 * (I 86 x1.toNatClampNeg)) + x2).toNatClampNeg)) (I 78 0)) ≤ 127 then (sp_212 ((I 84 ((3 * x1) + x2).toNatClampNeg) - (I 80 ((3 * (I 86 x1.toNatClampNeg)) + x2).toNatClampNeg)) (I 78 0)) else 127) else (-128))
theorem cs_211 {l : LX} {d : Nat} {I : Nat → Nat → Int32} {F : Nat → Nat → UInt32} {L : Nat → Nat → Int64} {t : Nat} {x1 : Int32} {x2 : Int32} (p1 : vp_in ((3 * x1) + x2) 36) (p2 : vp_in x1 12) (p3 : vp_in ((3 * (I 86 x1.toNatClampNeg)) + x2) 12) (p4 : (¬ ((I 78 0) : Int32) = 0)) : Con l 211 (d + 1) 0 0 [.ref 74, .int x1, .int x2] SH (I, F, L, RT t) (rI (sp_211 I x1 x2) (I, F, L, RT t)) := by
  refine cn_211 ?_
  unfold sp_211
  refine bk_211_0 p1 p2 p3 (cs_212 (d := d + 0) (p4)) ?_
  refine bk_211_35 (fun h0 => ?_) (fun h0 => ?_)
  · rw [if_pos h0]
    refine bk_211_47 (fun h1 => ?_) (fun h1 => ?_)
    · rw [if_pos h1]
      refine bk_211_58 ?_
      exact bk_211_59 ⟨rfl, rfl, rfl⟩
    · rw [if_neg h1]
      refine bk_211_53 ?_
      exact bk_211_59 ⟨rfl, rfl, rfl⟩
  · rw [if_neg h0]
    refine bk_211_42 ?_
    exact bk_211_59 ⟨rfl, rfl, rfl⟩
/-- VectorShelfModel.outsideCode(II)I -/
def sp_219 (I : Nat → Nat → Int32) (x1 : Int32) (x2 : Int32) : Int32 := (if ¬ (sp_211 I x1 x2) = (-128) then (if ¬ (sp_211 I x1 x2) = 127 then (sp_220 (I 79 x2.toNatClampNeg) ((I 80 ((3 * (I 86 x1.toNatClampNeg)) + x2).toNatClampNeg) + ((sp_211 I x1 x2) * (I 78 0))) ((((I 80 ((3 * (I 86 x1.toNatClampNeg)) + x2).toNatClampNeg) + ((sp_211 I x1 x2) * (I 78 0))) + (I 78 0)) - 1)) else (sp_220 (I 79 x2.toNatClampNeg) ((I 80 ((3 * (I 86 x1.toNatClampNeg)) + x2).toNatClampNeg) + ((sp_211 I x1 x2) * (I 78 0))) (999 : Int32))) else (if ¬ (sp_211 I x1 x2) = 127 then (sp_220 (I 79 x2.toNatClampNeg) (-999 : Int32) ((((I 80 ((3 * (I 86 x1.toNatClampNeg)) + x2).toNatClampNeg) + ((sp_211 I x1 x2) * (I 78 0))) + (I 78 0)) - 1)) else (sp_220 (I 79 x2.toNatClampNeg) (-999 : Int32) (999 : Int32))))
theorem cs_219 {l : LX} {d : Nat} {I : Nat → Nat → Int32} {F : Nat → Nat → UInt32} {L : Nat → Nat → Int64} {t : Nat} {x1 : Int32} {x2 : Int32} (p1 : (vp_in ((3 * x1) + x2) 36)) (p2 : (vp_in x1 12)) (p3 : (vp_in ((3 * (I 86 x1.toNatClampNeg)) + x2) 12)) (p4 : ((¬ ((I 78 0) : Int32) = 0))) (p5 : vp_in x1 12) (p6 : vp_in ((3 * (I 86 x1.toNatClampNeg)) + x2) 12) (p7 : vp_in x2 3) : Con l 219 (d + 2) 0 0 [.ref 74, .int x1, .int x2] SH (I, F, L, RT t) (rI (sp_219 I x1 x2) (I, F, L, RT t)) := by
  refine cn_219 ?_
  unfold sp_219
  refine bk_219_0 (cs_211 (d := d + 0) (p1) (p2) (p3) (p4)) ?_
  refine bk_219_6 p5 p6 p7 (fun h0 => ?_) (fun h0 => ?_)
  · rw [if_pos h0]
    refine bk_219_51 ?_
    refine bk_219_53 (fun h1 => ?_) (fun h1 => ?_)
    · rw [if_pos h1]
      refine bk_219_65 ?_
      refine bk_219_76 (cs_220 (d := d + 1) ) ?_
      exact bk_219_79 ⟨rfl, rfl, rfl⟩
    · rw [if_neg h1]
      refine bk_219_59 ?_
      refine bk_219_76 (cs_220 (d := d + 1) ) ?_
      exact bk_219_79 ⟨rfl, rfl, rfl⟩
  · rw [if_neg h0]
    refine bk_219_45 ?_
    refine bk_219_53 (fun h1 => ?_) (fun h1 => ?_)
    · rw [if_pos h1]
      refine bk_219_65 ?_
      refine bk_219_76 (cs_220 (d := d + 1) ) ?_
      exact bk_219_79 ⟨rfl, rfl, rfl⟩
    · rw [if_neg h1]
      refine bk_219_59 ?_
      refine bk_219_76 (cs_220 (d := d + 1) ) ?_
      exact bk_219_79 ⟨rfl, rfl, rfl⟩
/-- VectorShelfModel.low(III)F -/
def sp_221 (I : Nat → Nat → Int32) (x1 : Int32) (x2 : Int32) (x3 : Int32) : UInt32 := (if ¬ (I 78 3) = 4 then (if ¬ (I 78 3) = 2 then (if ¬ (I 78 3) = 5 then (FP.fmul (FP.fadd (FP.fadd (sp_222 I x1 (0 : Int32)) (sp_222 I x2 (1 : Int32))) (sp_222 I x3 (2 : Int32))) 1065353200) else (if (Op.cmpValue (FP.fcmp (FP.fadd (FP.fadd (sp_222 I x1 (0 : Int32)) (sp_222 I x2 (1 : Int32))) (sp_222 I x3 (2 : Int32))) (FP.i2f (I 78 2))) .l) ≤ 0 then (FP.fmul (FP.fadd (FP.fadd (sp_222 I x1 (0 : Int32)) (sp_222 I x2 (1 : Int32))) (sp_222 I x3 (2 : Int32))) 1065353200) else (FP.fmul (FP.i2f (I 78 2)) 1065353200))) else (FP.fmul (FP.fmul 1082130432 (FP.fadd (FP.fadd (sp_222 I x1 (0 : Int32)) (sp_222 I x2 (1 : Int32))) (sp_222 I x3 (2 : Int32)))) 1065353200)) else (if (Op.cmpValue (FP.fcmp (sp_222 I x1 (0 : Int32)) (sp_222 I x2 (1 : Int32))) .l) ≤ 0 then (if (Op.cmpValue (FP.fcmp (sp_222 I x2 (1 : Int32)) (sp_222 I x3 (2 : Int32))) .l) ≤ 0 then (FP.fmul (FP.fadd (FP.fmul 1082130432 (sp_222 I x3 (2 : Int32))) FP.fconst1) 1065353200) else (FP.fmul (FP.fadd (FP.fmul 1082130432 (sp_222 I x2 (1 : Int32))) FP.fconst1) 1065353200)) else (if (Op.cmpValue (FP.fcmp (sp_222 I x1 (0 : Int32)) (sp_222 I x3 (2 : Int32))) .l) ≤ 0 then (FP.fmul (FP.fadd (FP.fmul 1082130432 (sp_222 I x3 (2 : Int32))) FP.fconst1) 1065353200) else (FP.fmul (FP.fadd (FP.fmul 1082130432 (sp_222 I x1 (0 : Int32))) FP.fconst1) 1065353200))))
theorem cs_221 {l : LX} {d : Nat} {I : Nat → Nat → Int32} {F : Nat → Nat → UInt32} {L : Nat → Nat → Int64} {t : Nat} {x1 : Int32} {x2 : Int32} {x3 : Int32} (p1 : (((sp_187 I) = 0) → (¬ ((I 78 3) = 2)) → (¬ (I 78 3) = 4) → vf_n32 (FP.fmul (FP.i2f x1) (FP.i2f x1)))) (p2 : (((sp_187 I) = 0) → (¬ ((I 78 3) = 2)) → (¬ (I 78 3) = 4) → (¬ (I 78 3) = 0) → vp_in (4 + (0 : Int32)) 7)) (p3 : (((sp_187 I) = 0) → (¬ ((I 78 3) = 2)) → (¬ (I 78 3) = 4) → (¬ (I 78 3) = 0) → vf_n32 (FP.fmul (FP.fmul (FP.i2f x1) (FP.i2f x1)) (FP.i2f (I 78 (4 + (0 : Int32)).toNatClampNeg))))) (p4 : ((¬ ((sp_187 I) = 0)) → (¬ ((I 78 3) = 2)) → (¬ (I 78 3) = 4) → vf_n32 (FP.fmul (FP.i2f (sp_188 I x1)) (FP.i2f (sp_188 I x1))))) (p5 : ((¬ ((sp_187 I) = 0)) → (¬ ((I 78 3) = 2)) → (¬ (I 78 3) = 4) → (¬ (I 78 3) = 0) → vp_in (4 + (0 : Int32)) 7)) (p6 : ((¬ ((sp_187 I) = 0)) → (¬ ((I 78 3) = 2)) → (¬ (I 78 3) = 4) → (¬ (I 78 3) = 0) → vf_n32 (FP.fmul (FP.fmul (FP.i2f (sp_188 I x1)) (FP.i2f (sp_188 I x1))) (FP.i2f (I 78 (4 + (0 : Int32)).toNatClampNeg))))) (p7 : (((sp_187 I) = 0) → (¬ ((I 78 3) = 2)) → (¬ (I 78 3) = 4) → vf_n32 (FP.fmul (FP.i2f x2) (FP.i2f x2)))) (p8 : (((sp_187 I) = 0) → (¬ ((I 78 3) = 2)) → (¬ (I 78 3) = 4) → (¬ (I 78 3) = 0) → vp_in (4 + (1 : Int32)) 7)) (p9 : (((sp_187 I) = 0) → (¬ ((I 78 3) = 2)) → (¬ (I 78 3) = 4) → (¬ (I 78 3) = 0) → vf_n32 (FP.fmul (FP.fmul (FP.i2f x2) (FP.i2f x2)) (FP.i2f (I 78 (4 + (1 : Int32)).toNatClampNeg))))) (p10 : ((¬ ((sp_187 I) = 0)) → (¬ ((I 78 3) = 2)) → (¬ (I 78 3) = 4) → vf_n32 (FP.fmul (FP.i2f (sp_188 I x2)) (FP.i2f (sp_188 I x2))))) (p11 : ((¬ ((sp_187 I) = 0)) → (¬ ((I 78 3) = 2)) → (¬ (I 78 3) = 4) → (¬ (I 78 3) = 0) → vp_in (4 + (1 : Int32)) 7)) (p12 : ((¬ ((sp_187 I) = 0)) → (¬ ((I 78 3) = 2)) → (¬ (I 78 3) = 4) → (¬ (I 78 3) = 0) → vf_n32 (FP.fmul (FP.fmul (FP.i2f (sp_188 I x2)) (FP.i2f (sp_188 I x2))) (FP.i2f (I 78 (4 + (1 : Int32)).toNatClampNeg))))) (p13 : (((sp_187 I) = 0) → (¬ ((I 78 3) = 2)) → (¬ (I 78 3) = 4) → vf_n32 (FP.fmul (FP.i2f x3) (FP.i2f x3)))) (p14 : (((sp_187 I) = 0) → (¬ ((I 78 3) = 2)) → (¬ (I 78 3) = 4) → (¬ (I 78 3) = 0) → vp_in (4 + (2 : Int32)) 7)) (p15 : (((sp_187 I) = 0) → (¬ ((I 78 3) = 2)) → (¬ (I 78 3) = 4) → (¬ (I 78 3) = 0) → vf_n32 (FP.fmul (FP.fmul (FP.i2f x3) (FP.i2f x3)) (FP.i2f (I 78 (4 + (2 : Int32)).toNatClampNeg))))) (p16 : ((¬ ((sp_187 I) = 0)) → (¬ ((I 78 3) = 2)) → (¬ (I 78 3) = 4) → vf_n32 (FP.fmul (FP.i2f (sp_188 I x3)) (FP.i2f (sp_188 I x3))))) (p17 : ((¬ ((sp_187 I) = 0)) → (¬ ((I 78 3) = 2)) → (¬ (I 78 3) = 4) → (¬ (I 78 3) = 0) → vp_in (4 + (2 : Int32)) 7)) (p18 : ((¬ ((sp_187 I) = 0)) → (¬ ((I 78 3) = 2)) → (¬ (I 78 3) = 4) → (¬ (I 78 3) = 0) → vf_n32 (FP.fmul (FP.fmul (FP.i2f (sp_188 I x3)) (FP.i2f (sp_188 I x3))) (FP.i2f (I 78 (4 + (2 : Int32)).toNatClampNeg))))) (p19 : (¬ (I 78 3) = 4) → vf_n32 (FP.fadd (sp_222 I x1 (0 : Int32)) (sp_222 I x2 (1 : Int32)))) (p20 : (¬ (I 78 3) = 4) → vf_n32 (FP.fadd (FP.fadd (sp_222 I x1 (0 : Int32)) (sp_222 I x2 (1 : Int32))) (sp_222 I x3 (2 : Int32)))) (p21 : (¬ (I 78 3) = 4) → (¬ (I 78 3) = 2) → (¬ (I 78 3) = 5) → vf_n32 (FP.fmul (FP.fadd (FP.fadd (sp_222 I x1 (0 : Int32)) (sp_222 I x2 (1 : Int32))) (sp_222 I x3 (2 : Int32))) 1065353200)) (p22 : (¬ (I 78 3) = 4) → (¬ (I 78 3) = 2) → (¬ (¬ (I 78 3) = 5)) → ((Op.cmpValue (FP.fcmp (FP.fadd (FP.fadd (sp_222 I x1 (0 : Int32)) (sp_222 I x2 (1 : Int32))) (sp_222 I x3 (2 : Int32))) (FP.i2f (I 78 2))) .l) ≤ 0) → vf_n32 (FP.fmul (FP.fadd (FP.fadd (sp_222 I x1 (0 : Int32)) (sp_222 I x2 (1 : Int32))) (sp_222 I x3 (2 : Int32))) 1065353200)) (p23 : (¬ (I 78 3) = 4) → (¬ (I 78 3) = 2) → (¬ (¬ (I 78 3) = 5)) → (¬ ((Op.cmpValue (FP.fcmp (FP.fadd (FP.fadd (sp_222 I x1 (0 : Int32)) (sp_222 I x2 (1 : Int32))) (sp_222 I x3 (2 : Int32))) (FP.i2f (I 78 2))) .l) ≤ 0)) → vf_n32 (FP.fmul (FP.i2f (I 78 2)) 1065353200)) (p24 : (¬ (I 78 3) = 4) → (¬ (¬ (I 78 3) = 2)) → vf_n32 (FP.fmul 1082130432 (FP.fadd (FP.fadd (sp_222 I x1 (0 : Int32)) (sp_222 I x2 (1 : Int32))) (sp_222 I x3 (2 : Int32))))) (p25 : (¬ (I 78 3) = 4) → (¬ (¬ (I 78 3) = 2)) → vf_n32 (FP.fmul (FP.fmul 1082130432 (FP.fadd (FP.fadd (sp_222 I x1 (0 : Int32)) (sp_222 I x2 (1 : Int32))) (sp_222 I x3 (2 : Int32)))) 1065353200)) (p26 : (¬ (¬ (I 78 3) = 4)) → ((Op.cmpValue (FP.fcmp (sp_222 I x1 (0 : Int32)) (sp_222 I x2 (1 : Int32))) .l) ≤ 0) → ((Op.cmpValue (FP.fcmp (sp_222 I x2 (1 : Int32)) (sp_222 I x3 (2 : Int32))) .l) ≤ 0) → vf_n32 (FP.fmul 1082130432 (sp_222 I x3 (2 : Int32)))) (p27 : (¬ (¬ (I 78 3) = 4)) → ((Op.cmpValue (FP.fcmp (sp_222 I x1 (0 : Int32)) (sp_222 I x2 (1 : Int32))) .l) ≤ 0) → ((Op.cmpValue (FP.fcmp (sp_222 I x2 (1 : Int32)) (sp_222 I x3 (2 : Int32))) .l) ≤ 0) → vf_n32 (FP.fadd (FP.fmul 1082130432 (sp_222 I x3 (2 : Int32))) FP.fconst1)) (p28 : (¬ (¬ (I 78 3) = 4)) → ((Op.cmpValue (FP.fcmp (sp_222 I x1 (0 : Int32)) (sp_222 I x2 (1 : Int32))) .l) ≤ 0) → ((Op.cmpValue (FP.fcmp (sp_222 I x2 (1 : Int32)) (sp_222 I x3 (2 : Int32))) .l) ≤ 0) → vf_n32 (FP.fmul (FP.fadd (FP.fmul 1082130432 (sp_222 I x3 (2 : Int32))) FP.fconst1) 1065353200)) (p29 : (¬ (¬ (I 78 3) = 4)) → ((Op.cmpValue (FP.fcmp (sp_222 I x1 (0 : Int32)) (sp_222 I x2 (1 : Int32))) .l) ≤ 0) → (¬ ((Op.cmpValue (FP.fcmp (sp_222 I x2 (1 : Int32)) (sp_222 I x3 (2 : Int32))) .l) ≤ 0)) → vf_n32 (FP.fmul 1082130432 (sp_222 I x2 (1 : Int32)))) (p30 : (¬ (¬ (I 78 3) = 4)) → ((Op.cmpValue (FP.fcmp (sp_222 I x1 (0 : Int32)) (sp_222 I x2 (1 : Int32))) .l) ≤ 0) → (¬ ((Op.cmpValue (FP.fcmp (sp_222 I x2 (1 : Int32)) (sp_222 I x3 (2 : Int32))) .l) ≤ 0)) → vf_n32 (FP.fadd (FP.fmul 1082130432 (sp_222 I x2 (1 : Int32))) FP.fconst1)) (p31 : (¬ (¬ (I 78 3) = 4)) → ((Op.cmpValue (FP.fcmp (sp_222 I x1 (0 : Int32)) (sp_222 I x2 (1 : Int32))) .l) ≤ 0) → (¬ ((Op.cmpValue (FP.fcmp (sp_222 I x2 (1 : Int32)) (sp_222 I x3 (2 : Int32))) .l) ≤ 0)) → vf_n32 (FP.fmul (FP.fadd (FP.fmul 1082130432 (sp_222 I x2 (1 : Int32))) FP.fconst1) 1065353200)) (p32 : (¬ (¬ (I 78 3) = 4)) → (¬ ((Op.cmpValue (FP.fcmp (sp_222 I x1 (0 : Int32)) (sp_222 I x2 (1 : Int32))) .l) ≤ 0)) → ((Op.cmpValue (FP.fcmp (sp_222 I x1 (0 : Int32)) (sp_222 I x3 (2 : Int32))) .l) ≤ 0) → vf_n32 (FP.fmul 1082130432 (sp_222 I x3 (2 : Int32)))) (p33 : (¬ (¬ (I 78 3) = 4)) → (¬ ((Op.cmpValue (FP.fcmp (sp_222 I x1 (0 : Int32)) (sp_222 I x2 (1 : Int32))) .l) ≤ 0)) → ((Op.cmpValue (FP.fcmp (sp_222 I x1 (0 : Int32)) (sp_222 I x3 (2 : Int32))) .l) ≤ 0) → vf_n32 (FP.fadd (FP.fmul 1082130432 (sp_222 I x3 (2 : Int32))) FP.fconst1)) (p34 : (¬ (¬ (I 78 3) = 4)) → (¬ ((Op.cmpValue (FP.fcmp (sp_222 I x1 (0 : Int32)) (sp_222 I x2 (1 : Int32))) .l) ≤ 0)) → ((Op.cmpValue (FP.fcmp (sp_222 I x1 (0 : Int32)) (sp_222 I x3 (2 : Int32))) .l) ≤ 0) → vf_n32 (FP.fmul (FP.fadd (FP.fmul 1082130432 (sp_222 I x3 (2 : Int32))) FP.fconst1) 1065353200)) (p35 : (¬ (¬ (I 78 3) = 4)) → (¬ ((Op.cmpValue (FP.fcmp (sp_222 I x1 (0 : Int32)) (sp_222 I x2 (1 : Int32))) .l) ≤ 0)) → (¬ ((Op.cmpValue (FP.fcmp (sp_222 I x1 (0 : Int32)) (sp_222 I x3 (2 : Int32))) .l) ≤ 0)) → vf_n32 (FP.fmul 1082130432 (sp_222 I x1 (0 : Int32)))) (p36 : (¬ (¬ (I 78 3) = 4)) → (¬ ((Op.cmpValue (FP.fcmp (sp_222 I x1 (0 : Int32)) (sp_222 I x2 (1 : Int32))) .l) ≤ 0)) → (¬ ((Op.cmpValue (FP.fcmp (sp_222 I x1 (0 : Int32)) (sp_222 I x3 (2 : Int32))) .l) ≤ 0)) → vf_n32 (FP.fadd (FP.fmul 1082130432 (sp_222 I x1 (0 : Int32))) FP.fconst1)) (p37 : (¬ (¬ (I 78 3) = 4)) → (¬ ((Op.cmpValue (FP.fcmp (sp_222 I x1 (0 : Int32)) (sp_222 I x2 (1 : Int32))) .l) ≤ 0)) → (¬ ((Op.cmpValue (FP.fcmp (sp_222 I x1 (0 : Int32)) (sp_222 I x3 (2 : Int32))) .l) ≤ 0)) → vf_n32 (FP.fmul (FP.fadd (FP.fmul 1082130432 (sp_222 I x1 (0 : Int32))) FP.fconst1) 1065353200)) : Con l 221 (d + 2) 0 0 [.ref 74, .int x1, .int x2, .int x3] SH (I, F, L, RT t) (rF (sp_221 I x1 x2 x3) (I, F, L, RT t)) := by
  refine cn_221 ?_
  unfold sp_221
  refine bk_221_0 (cs_222 (d := d + 0) (p1) (p2) (p3) (p4) (p5) (p6)) ?_
  refine bk_221_6 (cs_222 (d := d + 0) (p7) (p8) (p9) (p10) (p11) (p12)) ?_
  refine bk_221_14 (cs_222 (d := d + 0) (p13) (p14) (p15) (p16) (p17) (p18)) ?_
  refine bk_221_22 (fun h0 => ?_) (fun h0 => ?_)
  · rw [if_pos h0]
    refine bk_221_84 (p19 h0) (p20 h0) (fun h1 => ?_) (fun h1 => ?_)
    · rw [if_pos h1]
      refine bk_221_125 (fun h2 => ?_) (fun h2 => ?_)
      · rw [if_pos h2]
        refine bk_221_148 ?_
        refine bk_221_150 ?_
        exact bk_221_152 (p21 h0 h1 h2) ⟨rfl, rfl, rfl⟩
      · rw [if_neg h2]
        refine bk_221_135 (fun h3 => ?_) (fun h3 => ?_)
        · rw [if_pos h3]
          refine bk_221_148 ?_
          refine bk_221_150 ?_
          exact bk_221_152 (p22 h0 h1 h2 h3) ⟨rfl, rfl, rfl⟩
        · rw [if_neg h3]
          refine bk_221_143 ?_
          refine bk_221_150 ?_
          exact bk_221_152 (p23 h0 h1 h2 h3) ⟨rfl, rfl, rfl⟩
    · rw [if_neg h1]
      refine bk_221_117 (p24 h0 h1) ?_
      refine bk_221_150 ?_
      exact bk_221_152 (p25 h0 h1) ⟨rfl, rfl, rfl⟩
  · rw [if_neg h0]
    refine bk_221_34 (fun h1 => ?_) (fun h1 => ?_)
    · rw [if_pos h1]
      refine bk_221_47 ?_
      refine bk_221_49 (fun h2 => ?_) (fun h2 => ?_)
      · rw [if_pos h2]
        refine bk_221_64 ?_
        refine bk_221_66 (p26 h0 h1 h2) (p27 h0 h1 h2) ?_
        exact bk_221_152 (p28 h0 h1 h2) ⟨rfl, rfl, rfl⟩
      · rw [if_neg h2]
        refine bk_221_59 ?_
        refine bk_221_66 (p29 h0 h1 h2) (p30 h0 h1 h2) ?_
        exact bk_221_152 (p31 h0 h1 h2) ⟨rfl, rfl, rfl⟩
    · rw [if_neg h1]
      refine bk_221_42 ?_
      refine bk_221_49 (fun h2 => ?_) (fun h2 => ?_)
      · rw [if_pos h2]
        refine bk_221_64 ?_
        refine bk_221_66 (p32 h0 h1 h2) (p33 h0 h1 h2) ?_
        exact bk_221_152 (p34 h0 h1 h2) ⟨rfl, rfl, rfl⟩
      · rw [if_neg h2]
        refine bk_221_59 ?_
        refine bk_221_66 (p35 h0 h1 h2) (p36 h0 h1 h2) ?_
        exact bk_221_152 (p37 h0 h1 h2) ⟨rfl, rfl, rfl⟩
/-- VectorShelfModel.lowOfCell(I)F -/
def sp_225 (I : Nat → Nat → Int32) (x1 : Int32) : UInt32 := (sp_221 I (sp_226 I x1 (0 : Int32)) (sp_226 I x1 (1 : Int32)) (sp_226 I x1 (2 : Int32)))
theorem cs_225 {l : LX} {d : Nat} {I : Nat → Nat → Int32} {F : Nat → Nat → UInt32} {L : Nat → Nat → Int64} {t : Nat} {x1 : Int32} (p1 : (vp_in (0 : Int32) 3)) (p2 : (vp_in ((3 * x1) + (0 : Int32)) 12)) (p3 : (vp_in (1 : Int32) 3)) (p4 : (vp_in ((3 * x1) + (1 : Int32)) 12)) (p5 : (vp_in (2 : Int32) 3)) (p6 : (vp_in ((3 * x1) + (2 : Int32)) 12)) (p7 : ((((sp_187 I) = 0) → (¬ ((I 78 3) = 2)) → (¬ (I 78 3) = 4) → vf_n32 (FP.fmul (FP.i2f (sp_226 I x1 (0 : Int32))) (FP.i2f (sp_226 I x1 (0 : Int32))))))) (p8 : ((((sp_187 I) = 0) → (¬ ((I 78 3) = 2)) → (¬ (I 78 3) = 4) → (¬ (I 78 3) = 0) → vp_in (4 + (0 : Int32)) 7))) (p9 : ((((sp_187 I) = 0) → (¬ ((I 78 3) = 2)) → (¬ (I 78 3) = 4) → (¬ (I 78 3) = 0) → vf_n32 (FP.fmul (FP.fmul (FP.i2f (sp_226 I x1 (0 : Int32))) (FP.i2f (sp_226 I x1 (0 : Int32)))) (FP.i2f (I 78 (4 + (0 : Int32)).toNatClampNeg)))))) (p10 : (((¬ ((sp_187 I) = 0)) → (¬ ((I 78 3) = 2)) → (¬ (I 78 3) = 4) → vf_n32 (FP.fmul (FP.i2f (sp_188 I (sp_226 I x1 (0 : Int32)))) (FP.i2f (sp_188 I (sp_226 I x1 (0 : Int32)))))))) (p11 : (((¬ ((sp_187 I) = 0)) → (¬ ((I 78 3) = 2)) → (¬ (I 78 3) = 4) → (¬ (I 78 3) = 0) → vp_in (4 + (0 : Int32)) 7))) (p12 : (((¬ ((sp_187 I) = 0)) → (¬ ((I 78 3) = 2)) → (¬ (I 78 3) = 4) → (¬ (I 78 3) = 0) → vf_n32 (FP.fmul (FP.fmul (FP.i2f (sp_188 I (sp_226 I x1 (0 : Int32)))) (FP.i2f (sp_188 I (sp_226 I x1 (0 : Int32))))) (FP.i2f (I 78 (4 + (0 : Int32)).toNatClampNeg)))))) (p13 : ((((sp_187 I) = 0) → (¬ ((I 78 3) = 2)) → (¬ (I 78 3) = 4) → vf_n32 (FP.fmul (FP.i2f (sp_226 I x1 (1 : Int32))) (FP.i2f (sp_226 I x1 (1 : Int32))))))) (p14 : ((((sp_187 I) = 0) → (¬ ((I 78 3) = 2)) → (¬ (I 78 3) = 4) → (¬ (I 78 3) = 0) → vp_in (4 + (1 : Int32)) 7))) (p15 : ((((sp_187 I) = 0) → (¬ ((I 78 3) = 2)) → (¬ (I 78 3) = 4) → (¬ (I 78 3) = 0) → vf_n32 (FP.fmul (FP.fmul (FP.i2f (sp_226 I x1 (1 : Int32))) (FP.i2f (sp_226 I x1 (1 : Int32)))) (FP.i2f (I 78 (4 + (1 : Int32)).toNatClampNeg)))))) (p16 : (((¬ ((sp_187 I) = 0)) → (¬ ((I 78 3) = 2)) → (¬ (I 78 3) = 4) → vf_n32 (FP.fmul (FP.i2f (sp_188 I (sp_226 I x1 (1 : Int32)))) (FP.i2f (sp_188 I (sp_226 I x1 (1 : Int32)))))))) (p17 : (((¬ ((sp_187 I) = 0)) → (¬ ((I 78 3) = 2)) → (¬ (I 78 3) = 4) → (¬ (I 78 3) = 0) → vp_in (4 + (1 : Int32)) 7))) (p18 : (((¬ ((sp_187 I) = 0)) → (¬ ((I 78 3) = 2)) → (¬ (I 78 3) = 4) → (¬ (I 78 3) = 0) → vf_n32 (FP.fmul (FP.fmul (FP.i2f (sp_188 I (sp_226 I x1 (1 : Int32)))) (FP.i2f (sp_188 I (sp_226 I x1 (1 : Int32))))) (FP.i2f (I 78 (4 + (1 : Int32)).toNatClampNeg)))))) (p19 : ((((sp_187 I) = 0) → (¬ ((I 78 3) = 2)) → (¬ (I 78 3) = 4) → vf_n32 (FP.fmul (FP.i2f (sp_226 I x1 (2 : Int32))) (FP.i2f (sp_226 I x1 (2 : Int32))))))) (p20 : ((((sp_187 I) = 0) → (¬ ((I 78 3) = 2)) → (¬ (I 78 3) = 4) → (¬ (I 78 3) = 0) → vp_in (4 + (2 : Int32)) 7))) (p21 : ((((sp_187 I) = 0) → (¬ ((I 78 3) = 2)) → (¬ (I 78 3) = 4) → (¬ (I 78 3) = 0) → vf_n32 (FP.fmul (FP.fmul (FP.i2f (sp_226 I x1 (2 : Int32))) (FP.i2f (sp_226 I x1 (2 : Int32)))) (FP.i2f (I 78 (4 + (2 : Int32)).toNatClampNeg)))))) (p22 : (((¬ ((sp_187 I) = 0)) → (¬ ((I 78 3) = 2)) → (¬ (I 78 3) = 4) → vf_n32 (FP.fmul (FP.i2f (sp_188 I (sp_226 I x1 (2 : Int32)))) (FP.i2f (sp_188 I (sp_226 I x1 (2 : Int32)))))))) (p23 : (((¬ ((sp_187 I) = 0)) → (¬ ((I 78 3) = 2)) → (¬ (I 78 3) = 4) → (¬ (I 78 3) = 0) → vp_in (4 + (2 : Int32)) 7))) (p24 : (((¬ ((sp_187 I) = 0)) → (¬ ((I 78 3) = 2)) → (¬ (I 78 3) = 4) → (¬ (I 78 3) = 0) → vf_n32 (FP.fmul (FP.fmul (FP.i2f (sp_188 I (sp_226 I x1 (2 : Int32)))) (FP.i2f (sp_188 I (sp_226 I x1 (2 : Int32))))) (FP.i2f (I 78 (4 + (2 : Int32)).toNatClampNeg)))))) (p25 : ((¬ (I 78 3) = 4) → vf_n32 (FP.fadd (sp_222 I (sp_226 I x1 (0 : Int32)) (0 : Int32)) (sp_222 I (sp_226 I x1 (1 : Int32)) (1 : Int32))))) (p26 : ((¬ (I 78 3) = 4) → vf_n32 (FP.fadd (FP.fadd (sp_222 I (sp_226 I x1 (0 : Int32)) (0 : Int32)) (sp_222 I (sp_226 I x1 (1 : Int32)) (1 : Int32))) (sp_222 I (sp_226 I x1 (2 : Int32)) (2 : Int32))))) (p27 : ((¬ (I 78 3) = 4) → (¬ (I 78 3) = 2) → (¬ (I 78 3) = 5) → vf_n32 (FP.fmul (FP.fadd (FP.fadd (sp_222 I (sp_226 I x1 (0 : Int32)) (0 : Int32)) (sp_222 I (sp_226 I x1 (1 : Int32)) (1 : Int32))) (sp_222 I (sp_226 I x1 (2 : Int32)) (2 : Int32))) 1065353200))) (p28 : ((¬ (I 78 3) = 4) → (¬ (I 78 3) = 2) → (¬ (¬ (I 78 3) = 5)) → ((Op.cmpValue (FP.fcmp (FP.fadd (FP.fadd (sp_222 I (sp_226 I x1 (0 : Int32)) (0 : Int32)) (sp_222 I (sp_226 I x1 (1 : Int32)) (1 : Int32))) (sp_222 I (sp_226 I x1 (2 : Int32)) (2 : Int32))) (FP.i2f (I 78 2))) .l) ≤ 0) → vf_n32 (FP.fmul (FP.fadd (FP.fadd (sp_222 I (sp_226 I x1 (0 : Int32)) (0 : Int32)) (sp_222 I (sp_226 I x1 (1 : Int32)) (1 : Int32))) (sp_222 I (sp_226 I x1 (2 : Int32)) (2 : Int32))) 1065353200))) (p29 : ((¬ (I 78 3) = 4) → (¬ (I 78 3) = 2) → (¬ (¬ (I 78 3) = 5)) → (¬ ((Op.cmpValue (FP.fcmp (FP.fadd (FP.fadd (sp_222 I (sp_226 I x1 (0 : Int32)) (0 : Int32)) (sp_222 I (sp_226 I x1 (1 : Int32)) (1 : Int32))) (sp_222 I (sp_226 I x1 (2 : Int32)) (2 : Int32))) (FP.i2f (I 78 2))) .l) ≤ 0)) → vf_n32 (FP.fmul (FP.i2f (I 78 2)) 1065353200))) (p30 : ((¬ (I 78 3) = 4) → (¬ (¬ (I 78 3) = 2)) → vf_n32 (FP.fmul 1082130432 (FP.fadd (FP.fadd (sp_222 I (sp_226 I x1 (0 : Int32)) (0 : Int32)) (sp_222 I (sp_226 I x1 (1 : Int32)) (1 : Int32))) (sp_222 I (sp_226 I x1 (2 : Int32)) (2 : Int32)))))) (p31 : ((¬ (I 78 3) = 4) → (¬ (¬ (I 78 3) = 2)) → vf_n32 (FP.fmul (FP.fmul 1082130432 (FP.fadd (FP.fadd (sp_222 I (sp_226 I x1 (0 : Int32)) (0 : Int32)) (sp_222 I (sp_226 I x1 (1 : Int32)) (1 : Int32))) (sp_222 I (sp_226 I x1 (2 : Int32)) (2 : Int32)))) 1065353200))) (p32 : ((¬ (¬ (I 78 3) = 4)) → ((Op.cmpValue (FP.fcmp (sp_222 I (sp_226 I x1 (0 : Int32)) (0 : Int32)) (sp_222 I (sp_226 I x1 (1 : Int32)) (1 : Int32))) .l) ≤ 0) → ((Op.cmpValue (FP.fcmp (sp_222 I (sp_226 I x1 (1 : Int32)) (1 : Int32)) (sp_222 I (sp_226 I x1 (2 : Int32)) (2 : Int32))) .l) ≤ 0) → vf_n32 (FP.fmul 1082130432 (sp_222 I (sp_226 I x1 (2 : Int32)) (2 : Int32))))) (p33 : ((¬ (¬ (I 78 3) = 4)) → ((Op.cmpValue (FP.fcmp (sp_222 I (sp_226 I x1 (0 : Int32)) (0 : Int32)) (sp_222 I (sp_226 I x1 (1 : Int32)) (1 : Int32))) .l) ≤ 0) → ((Op.cmpValue (FP.fcmp (sp_222 I (sp_226 I x1 (1 : Int32)) (1 : Int32)) (sp_222 I (sp_226 I x1 (2 : Int32)) (2 : Int32))) .l) ≤ 0) → vf_n32 (FP.fadd (FP.fmul 1082130432 (sp_222 I (sp_226 I x1 (2 : Int32)) (2 : Int32))) FP.fconst1))) (p34 : ((¬ (¬ (I 78 3) = 4)) → ((Op.cmpValue (FP.fcmp (sp_222 I (sp_226 I x1 (0 : Int32)) (0 : Int32)) (sp_222 I (sp_226 I x1 (1 : Int32)) (1 : Int32))) .l) ≤ 0) → ((Op.cmpValue (FP.fcmp (sp_222 I (sp_226 I x1 (1 : Int32)) (1 : Int32)) (sp_222 I (sp_226 I x1 (2 : Int32)) (2 : Int32))) .l) ≤ 0) → vf_n32 (FP.fmul (FP.fadd (FP.fmul 1082130432 (sp_222 I (sp_226 I x1 (2 : Int32)) (2 : Int32))) FP.fconst1) 1065353200))) (p35 : ((¬ (¬ (I 78 3) = 4)) → ((Op.cmpValue (FP.fcmp (sp_222 I (sp_226 I x1 (0 : Int32)) (0 : Int32)) (sp_222 I (sp_226 I x1 (1 : Int32)) (1 : Int32))) .l) ≤ 0) → (¬ ((Op.cmpValue (FP.fcmp (sp_222 I (sp_226 I x1 (1 : Int32)) (1 : Int32)) (sp_222 I (sp_226 I x1 (2 : Int32)) (2 : Int32))) .l) ≤ 0)) → vf_n32 (FP.fmul 1082130432 (sp_222 I (sp_226 I x1 (1 : Int32)) (1 : Int32))))) (p36 : ((¬ (¬ (I 78 3) = 4)) → ((Op.cmpValue (FP.fcmp (sp_222 I (sp_226 I x1 (0 : Int32)) (0 : Int32)) (sp_222 I (sp_226 I x1 (1 : Int32)) (1 : Int32))) .l) ≤ 0) → (¬ ((Op.cmpValue (FP.fcmp (sp_222 I (sp_226 I x1 (1 : Int32)) (1 : Int32)) (sp_222 I (sp_226 I x1 (2 : Int32)) (2 : Int32))) .l) ≤ 0)) → vf_n32 (FP.fadd (FP.fmul 1082130432 (sp_222 I (sp_226 I x1 (1 : Int32)) (1 : Int32))) FP.fconst1))) (p37 : ((¬ (¬ (I 78 3) = 4)) → ((Op.cmpValue (FP.fcmp (sp_222 I (sp_226 I x1 (0 : Int32)) (0 : Int32)) (sp_222 I (sp_226 I x1 (1 : Int32)) (1 : Int32))) .l) ≤ 0) → (¬ ((Op.cmpValue (FP.fcmp (sp_222 I (sp_226 I x1 (1 : Int32)) (1 : Int32)) (sp_222 I (sp_226 I x1 (2 : Int32)) (2 : Int32))) .l) ≤ 0)) → vf_n32 (FP.fmul (FP.fadd (FP.fmul 1082130432 (sp_222 I (sp_226 I x1 (1 : Int32)) (1 : Int32))) FP.fconst1) 1065353200))) (p38 : ((¬ (¬ (I 78 3) = 4)) → (¬ ((Op.cmpValue (FP.fcmp (sp_222 I (sp_226 I x1 (0 : Int32)) (0 : Int32)) (sp_222 I (sp_226 I x1 (1 : Int32)) (1 : Int32))) .l) ≤ 0)) → ((Op.cmpValue (FP.fcmp (sp_222 I (sp_226 I x1 (0 : Int32)) (0 : Int32)) (sp_222 I (sp_226 I x1 (2 : Int32)) (2 : Int32))) .l) ≤ 0) → vf_n32 (FP.fmul 1082130432 (sp_222 I (sp_226 I x1 (2 : Int32)) (2 : Int32))))) (p39 : ((¬ (¬ (I 78 3) = 4)) → (¬ ((Op.cmpValue (FP.fcmp (sp_222 I (sp_226 I x1 (0 : Int32)) (0 : Int32)) (sp_222 I (sp_226 I x1 (1 : Int32)) (1 : Int32))) .l) ≤ 0)) → ((Op.cmpValue (FP.fcmp (sp_222 I (sp_226 I x1 (0 : Int32)) (0 : Int32)) (sp_222 I (sp_226 I x1 (2 : Int32)) (2 : Int32))) .l) ≤ 0) → vf_n32 (FP.fadd (FP.fmul 1082130432 (sp_222 I (sp_226 I x1 (2 : Int32)) (2 : Int32))) FP.fconst1))) (p40 : ((¬ (¬ (I 78 3) = 4)) → (¬ ((Op.cmpValue (FP.fcmp (sp_222 I (sp_226 I x1 (0 : Int32)) (0 : Int32)) (sp_222 I (sp_226 I x1 (1 : Int32)) (1 : Int32))) .l) ≤ 0)) → ((Op.cmpValue (FP.fcmp (sp_222 I (sp_226 I x1 (0 : Int32)) (0 : Int32)) (sp_222 I (sp_226 I x1 (2 : Int32)) (2 : Int32))) .l) ≤ 0) → vf_n32 (FP.fmul (FP.fadd (FP.fmul 1082130432 (sp_222 I (sp_226 I x1 (2 : Int32)) (2 : Int32))) FP.fconst1) 1065353200))) (p41 : ((¬ (¬ (I 78 3) = 4)) → (¬ ((Op.cmpValue (FP.fcmp (sp_222 I (sp_226 I x1 (0 : Int32)) (0 : Int32)) (sp_222 I (sp_226 I x1 (1 : Int32)) (1 : Int32))) .l) ≤ 0)) → (¬ ((Op.cmpValue (FP.fcmp (sp_222 I (sp_226 I x1 (0 : Int32)) (0 : Int32)) (sp_222 I (sp_226 I x1 (2 : Int32)) (2 : Int32))) .l) ≤ 0)) → vf_n32 (FP.fmul 1082130432 (sp_222 I (sp_226 I x1 (0 : Int32)) (0 : Int32))))) (p42 : ((¬ (¬ (I 78 3) = 4)) → (¬ ((Op.cmpValue (FP.fcmp (sp_222 I (sp_226 I x1 (0 : Int32)) (0 : Int32)) (sp_222 I (sp_226 I x1 (1 : Int32)) (1 : Int32))) .l) ≤ 0)) → (¬ ((Op.cmpValue (FP.fcmp (sp_222 I (sp_226 I x1 (0 : Int32)) (0 : Int32)) (sp_222 I (sp_226 I x1 (2 : Int32)) (2 : Int32))) .l) ≤ 0)) → vf_n32 (FP.fadd (FP.fmul 1082130432 (sp_222 I (sp_226 I x1 (0 : Int32)) (0 : Int32))) FP.fconst1))) (p43 : ((¬ (¬ (I 78 3) = 4)) → (¬ ((Op.cmpValue (FP.fcmp (sp_222 I (sp_226 I x1 (0 : Int32)) (0 : Int32)) (sp_222 I (sp_226 I x1 (1 : Int32)) (1 : Int32))) .l) ≤ 0)) → (¬ ((Op.cmpValue (FP.fcmp (sp_222 I (sp_226 I x1 (0 : Int32)) (0 : Int32)) (sp_222 I (sp_226 I x1 (2 : Int32)) (2 : Int32))) .l) ≤ 0)) → vf_n32 (FP.fmul (FP.fadd (FP.fmul 1082130432 (sp_222 I (sp_226 I x1 (0 : Int32)) (0 : Int32))) FP.fconst1) 1065353200))) : Con l 225 (d + 3) 0 0 [.ref 74, .int x1] SH (I, F, L, RT t) (rF (sp_225 I x1) (I, F, L, RT t)) := by
  refine cn_225 ?_
  unfold sp_225
  refine bk_225_0 (cs_226 (d := d + 1) (p1) (p2)) ?_
  refine bk_225_7 (cs_226 (d := d + 1) (p3) (p4)) ?_
  refine bk_225_13 (cs_226 (d := d + 1) (p5) (p6)) ?_
  refine bk_225_19 (cs_221 (d := d + 0) (p7) (p8) (p9) (p10) (p11) (p12) (p13) (p14) (p15) (p16) (p17) (p18) (p19) (p20) (p21) (p22) (p23) (p24) (p25) (p26) (p27) (p28) (p29) (p30) (p31) (p32) (p33) (p34) (p35) (p36) (p37) (p38) (p39) (p40) (p41) (p42) (p43)) ?_
  exact bk_225_22 ⟨rfl, rfl, rfl⟩
/-- VectorShelfModel.put(III)I -/
def fn_271 (I : Nat → Nat → Int32) (F : Nat → Nat → UInt32) (L : Nat → Nat → Int64) (t : Nat) (x1 : Int32) (x2 : Int32) (x3 : Int32) : Int32 × (Nat → Nat → Int32) × (Nat → Nat → UInt32) × (Nat → Nat → Int64) × Nat := (if ¬ (sp_262 x1) = 0 then (if ¬ (I 111 x1.toNatClampNeg) = 0 then (if ¬ (sp_272 I x1 x2) = 0 then (if ¬ (I 112 x1.toNatClampNeg) = 1 then (1, (up2 (up2 I 114 ((40 * x1) + x2).toNatClampNeg (Int16.toInt32 (Int32.toInt16 x3))) 116 ((40 * x1) + x2).toNatClampNeg (vp_nar (bT 0) 0)), (up2 F 115 ((40 * x1) + x2).toNatClampNeg (FP.fdiv (FP.i2f x3) 1082130432)), L, t) else (1, (up2 (up2 I 114 ((40 * x1) + x2).toNatClampNeg (Int8.toInt32 (Int32.toInt8 x3))) 116 ((40 * x1) + x2).toNatClampNeg (vp_nar (bT 0) 0)), (up2 F 115 ((40 * x1) + x2).toNatClampNeg (FP.fdiv (FP.i2f x3) 1082130432)), L, t)) else ((-12), I, F, L, t)) else ((-11), I, F, L, t)) else ((-2), I, F, L, t))
theorem ci_271 {l : LX} {d : Nat} {I : Nat → Nat → Int32} {F : Nat → Nat → UInt32} {L : Nat → Nat → Int64} {t : Nat} {x1 : Int32} {x2 : Int32} {x3 : Int32} (p1 : (¬ (sp_262 x1) = 0) → vp_in x1 4) (p2 : (¬ (sp_262 x1) = 0) → (¬ (I 111 x1.toNatClampNeg) = 0) → (vp_in x1 4)) (p3 : (¬ (sp_262 x1) = 0) → (¬ (I 111 x1.toNatClampNeg) = 0) → (¬ (sp_272 I x1 x2) = 0) → vp_in x1 4) (p4 : (¬ (sp_262 x1) = 0) → (¬ (I 111 x1.toNatClampNeg) = 0) → (¬ (sp_272 I x1 x2) = 0) → (¬ (I 112 x1.toNatClampNeg) = 1) → vp_in ((40 * x1) + x2) 160) (p5 : (¬ (sp_262 x1) = 0) → (¬ (I 111 x1.toNatClampNeg) = 0) → (¬ (sp_272 I x1 x2) = 0) → (¬ (I 112 x1.toNatClampNeg) = 1) → vf_n32 (FP.fdiv (FP.i2f x3) 1082130432)) (p6 : (¬ (sp_262 x1) = 0) → (¬ (I 111 x1.toNatClampNeg) = 0) → (¬ (sp_272 I x1 x2) = 0) → (¬ (I 112 x1.toNatClampNeg) = 1) → vp_in ((40 * x1) + x2) 160) (p7 : (¬ (sp_262 x1) = 0) → (¬ (I 111 x1.toNatClampNeg) = 0) → (¬ (sp_272 I x1 x2) = 0) → (¬ (¬ (I 112 x1.toNatClampNeg) = 1)) → vp_in ((40 * x1) + x2) 160) (p8 : (¬ (sp_262 x1) = 0) → (¬ (I 111 x1.toNatClampNeg) = 0) → (¬ (sp_272 I x1 x2) = 0) → (¬ (¬ (I 112 x1.toNatClampNeg) = 1)) → vf_n32 (FP.fdiv (FP.i2f x3) 1082130432)) (p9 : (¬ (sp_262 x1) = 0) → (¬ (I 111 x1.toNatClampNeg) = 0) → (¬ (sp_272 I x1 x2) = 0) → (¬ (¬ (I 112 x1.toNatClampNeg) = 1)) → vp_in ((40 * x1) + x2) 160) : Con l 271 (d + 2) 0 0 [.ref 74, .int x1, .int x2, .int x3] SH (I, F, L, RT t) (rT (fn_271 I F L t x1 x2 x3)) := by
  refine cn_271 ?_
  unfold fn_271
  refine bk_271_0 (cs_262 (d := d + 0) ) ?_
  refine bk_271_4 (fun h0 => ?_) (fun h0 => ?_)
  · rw [if_pos h0]
    refine bk_271_10 (p1 h0) (fun h1 => ?_) (fun h1 => ?_)
    · rw [if_pos h1]
      refine bk_271_22 (cs_272 (d := d + 0) (p2 h0 h1)) ?_
      refine bk_271_28 (fun h2 => ?_) (fun h2 => ?_)
      · rw [if_pos h2]
        refine bk_271_34 (p3 h0 h1 h2) (fun h3 => ?_) (fun h3 => ?_)
        · rw [if_pos h3]
          refine bk_271_63 ?_
          exact bk_271_65 (p4 h0 h1 h2 h3) (p5 h0 h1 h2 h3) (p6 h0 h1 h2 h3) ⟨rfl, rfl, rfl⟩
        · rw [if_neg h3]
          refine bk_271_58 ?_
          exact bk_271_65 (p7 h0 h1 h2 h3) (p8 h0 h1 h2 h3) (p9 h0 h1 h2 h3) ⟨rfl, rfl, rfl⟩
      · rw [if_neg h2]
        exact bk_271_31 ⟨rfl, rfl, rfl⟩
    · rw [if_neg h1]
      exact bk_271_19 ⟨rfl, rfl, rfl⟩
  · rw [if_neg h0]
    exact bk_271_7 ⟨rfl, rfl, rfl⟩
/-- VectorShelfModel.code(III)I -/
def fn_279 (I : Nat → Nat → Int32) (F : Nat → Nat → UInt32) (L : Nat → Nat → Int64) (t : Nat) (x1 : Int32) (x2 : Int32) (x3 : Int32) : Int32 × (Nat → Nat → Int32) × (Nat → Nat → UInt32) × (Nat → Nat → Int64) × Nat := (if (sp_262 x2) = 0 then ((-2), I, F, L, t) else (if ¬ (sp_179 I x1) = 0 then (if ¬ (I 86 x1.toNatClampNeg) = (-1) then (if ¬ (I 111 x2.toNatClampNeg) = 0 then (if (I 112 x2.toNatClampNeg) = 1 then (if x3 < 0 then ((-12), I, F, L, t) else (if x3 ≤ ((I 113 x2.toNatClampNeg) - 3) then (3, (up2 (up2 (up2 I 114 (((40 * x2) + x3) + 0).toNatClampNeg (sp_211 I x1 (0 : Int32))) 114 (((40 * x2) + x3) + (0 + 1)).toNatClampNeg (sp_211 (up2 I 114 (((40 * x2) + x3) + 0).toNatClampNeg (sp_211 I x1 (0 : Int32))) x1 (0 + 1))) 114 (((40 * x2) + x3) + ((0 + 1) + 1)).toNatClampNeg (sp_211 (up2 (up2 I 114 (((40 * x2) + x3) + 0).toNatClampNeg (sp_211 I x1 (0 : Int32))) 114 (((40 * x2) + x3) + (0 + 1)).toNatClampNeg (sp_211 (up2 I 114 (((40 * x2) + x3) + 0).toNatClampNeg (sp_211 I x1 (0 : Int32))) x1 (0 + 1))) x1 ((0 + 1) + 1))), F, L, t) else ((-12), I, F, L, t))) else ((-13), I, F, L, t)) else ((-11), I, F, L, t)) else ((-3), I, F, L, t)) else ((-2), I, F, L, t)))
theorem ci_279 {l : LX} {d : Nat} {I : Nat → Nat → Int32} {F : Nat → Nat → UInt32} {L : Nat → Nat → Int64} {t : Nat} {x1 : Int32} {x2 : Int32} {x3 : Int32} (p1 : (¬ ((sp_262 x2) = 0)) → (¬ (sp_179 I x1) = 0) → vp_in x1 12) (p2 : (¬ ((sp_262 x2) = 0)) → (¬ (sp_179 I x1) = 0) → (¬ (I 86 x1.toNatClampNeg) = (-1)) → vp_in x2 4) (p3 : (¬ ((sp_262 x2) = 0)) → (¬ (sp_179 I x1) = 0) → (¬ (I 86 x1.toNatClampNeg) = (-1)) → (¬ (I 111 x2.toNatClampNeg) = 0) → vp_in x2 4) (p4 : (¬ ((sp_262 x2) = 0)) → (¬ (sp_179 I x1) = 0) → (¬ (I 86 x1.toNatClampNeg) = (-1)) → (¬ (I 111 x2.toNatClampNeg) = 0) → ((I 112 x2.toNatClampNeg) = 1) → (¬ (x3 < 0)) → vp_in x2 4) (p5 : (¬ ((sp_262 x2) = 0)) → (¬ (sp_179 I x1) = 0) → (¬ (I 86 x1.toNatClampNeg) = (-1)) → (¬ (I 111 x2.toNatClampNeg) = 0) → ((I 112 x2.toNatClampNeg) = 1) → (¬ (x3 < 0)) → (x3 ≤ ((I 113 x2.toNatClampNeg) - 3)) → (vp_in ((3 * x1) + (0 : Int32)) 36)) (p6 : (¬ ((sp_262 x2) = 0)) → (¬ (sp_179 I x1) = 0) → (¬ (I 86 x1.toNatClampNeg) = (-1)) → (¬ (I 111 x2.toNatClampNeg) = 0) → ((I 112 x2.toNatClampNeg) = 1) → (¬ (x3 < 0)) → (x3 ≤ ((I 113 x2.toNatClampNeg) - 3)) → (vp_in x1 12)) (p7 : (¬ ((sp_262 x2) = 0)) → (¬ (sp_179 I x1) = 0) → (¬ (I 86 x1.toNatClampNeg) = (-1)) → (¬ (I 111 x2.toNatClampNeg) = 0) → ((I 112 x2.toNatClampNeg) = 1) → (¬ (x3 < 0)) → (x3 ≤ ((I 113 x2.toNatClampNeg) - 3)) → (vp_in ((3 * (I 86 x1.toNatClampNeg)) + (0 : Int32)) 12)) (p8 : (¬ ((sp_262 x2) = 0)) → (¬ (sp_179 I x1) = 0) → (¬ (I 86 x1.toNatClampNeg) = (-1)) → (¬ (I 111 x2.toNatClampNeg) = 0) → ((I 112 x2.toNatClampNeg) = 1) → (¬ (x3 < 0)) → (x3 ≤ ((I 113 x2.toNatClampNeg) - 3)) → ((¬ ((I 78 0) : Int32) = 0))) (p9 : (¬ ((sp_262 x2) = 0)) → (¬ (sp_179 I x1) = 0) → (¬ (I 86 x1.toNatClampNeg) = (-1)) → (¬ (I 111 x2.toNatClampNeg) = 0) → ((I 112 x2.toNatClampNeg) = 1) → (¬ (x3 < 0)) → (x3 ≤ ((I 113 x2.toNatClampNeg) - 3)) → vp_in (((40 * x2) + x3) + 0) 160) (p10 : (¬ ((sp_262 x2) = 0)) → (¬ (sp_179 I x1) = 0) → (¬ (I 86 x1.toNatClampNeg) = (-1)) → (¬ (I 111 x2.toNatClampNeg) = 0) → ((I 112 x2.toNatClampNeg) = 1) → (¬ (x3 < 0)) → (x3 ≤ ((I 113 x2.toNatClampNeg) - 3)) → (vp_in ((3 * x1) + (0 + 1)) 36)) (p11 : (¬ ((sp_262 x2) = 0)) → (¬ (sp_179 I x1) = 0) → (¬ (I 86 x1.toNatClampNeg) = (-1)) → (¬ (I 111 x2.toNatClampNeg) = 0) → ((I 112 x2.toNatClampNeg) = 1) → (¬ (x3 < 0)) → (x3 ≤ ((I 113 x2.toNatClampNeg) - 3)) → (vp_in x1 12)) (p12 : (¬ ((sp_262 x2) = 0)) → (¬ (sp_179 I x1) = 0) → (¬ (I 86 x1.toNatClampNeg) = (-1)) → (¬ (I 111 x2.toNatClampNeg) = 0) → ((I 112 x2.toNatClampNeg) = 1) → (¬ (x3 < 0)) → (x3 ≤ ((I 113 x2.toNatClampNeg) - 3)) → (vp_in ((3 * ((up2 I 114 (((40 * x2) + x3) + 0).toNatClampNeg (sp_211 I x1 (0 : Int32))) 86 x1.toNatClampNeg)) + (0 + 1)) 12)) (p13 : (¬ ((sp_262 x2) = 0)) → (¬ (sp_179 I x1) = 0) → (¬ (I 86 x1.toNatClampNeg) = (-1)) → (¬ (I 111 x2.toNatClampNeg) = 0) → ((I 112 x2.toNatClampNeg) = 1) → (¬ (x3 < 0)) → (x3 ≤ ((I 113 x2.toNatClampNeg) - 3)) → ((¬ (((up2 I 114 (((40 * x2) + x3) + 0).toNatClampNeg (sp_211 I x1 (0 : Int32))) 78 0) : Int32) = 0))) (p14 : (¬ ((sp_262 x2) = 0)) → (¬ (sp_179 I x1) = 0) → (¬ (I 86 x1.toNatClampNeg) = (-1)) → (¬ (I 111 x2.toNatClampNeg) = 0) → ((I 112 x2.toNatClampNeg) = 1) → (¬ (x3 < 0)) → (x3 ≤ ((I 113 x2.toNatClampNeg) - 3)) → vp_in (((40 * x2) + x3) + (0 + 1)) 160) (p15 : (¬ ((sp_262 x2) = 0)) → (¬ (sp_179 I x1) = 0) → (¬ (I 86 x1.toNatClampNeg) = (-1)) → (¬ (I 111 x2.toNatClampNeg) = 0) → ((I 112 x2.toNatClampNeg) = 1) → (¬ (x3 < 0)) → (x3 ≤ ((I 113 x2.toNatClampNeg) - 3)) → (vp_in ((3 * x1) + ((0 + 1) + 1)) 36)) (p16 : (¬ ((sp_262 x2) = 0)) → (¬ (sp_179 I x1) = 0) → (¬ (I 86 x1.toNatClampNeg) = (-1)) → (¬ (I 111 x2.toNatClampNeg) = 0) → ((I 112 x2.toNatClampNeg) = 1) → (¬ (x3 < 0)) → (x3 ≤ ((I 113 x2.toNatClampNeg) - 3)) → (vp_in x1 12)) (p17 : (¬ ((sp_262 x2) = 0)) → (¬ (sp_179 I x1) = 0) → (¬ (I 86 x1.toNatClampNeg) = (-1)) → (¬ (I 111 x2.toNatClampNeg) = 0) → ((I 112 x2.toNatClampNeg) = 1) → (¬ (x3 < 0)) → (x3 ≤ ((I 113 x2.toNatClampNeg) - 3)) → (vp_in ((3 * ((up2 (up2 I 114 (((40 * x2) + x3) + 0).toNatClampNeg (sp_211 I x1 (0 : Int32))) 114 (((40 * x2) + x3) + (0 + 1)).toNatClampNeg (sp_211 (up2 I 114 (((40 * x2) + x3) + 0).toNatClampNeg (sp_211 I x1 (0 : Int32))) x1 (0 + 1))) 86 x1.toNatClampNeg)) + ((0 + 1) + 1)) 12)) (p18 : (¬ ((sp_262 x2) = 0)) → (¬ (sp_179 I x1) = 0) → (¬ (I 86 x1.toNatClampNeg) = (-1)) → (¬ (I 111 x2.toNatClampNeg) = 0) → ((I 112 x2.toNatClampNeg) = 1) → (¬ (x3 < 0)) → (x3 ≤ ((I 113 x2.toNatClampNeg) - 3)) → ((¬ (((up2 (up2 I 114 (((40 * x2) + x3) + 0).toNatClampNeg (sp_211 I x1 (0 : Int32))) 114 (((40 * x2) + x3) + (0 + 1)).toNatClampNeg (sp_211 (up2 I 114 (((40 * x2) + x3) + 0).toNatClampNeg (sp_211 I x1 (0 : Int32))) x1 (0 + 1))) 78 0) : Int32) = 0))) (p19 : (¬ ((sp_262 x2) = 0)) → (¬ (sp_179 I x1) = 0) → (¬ (I 86 x1.toNatClampNeg) = (-1)) → (¬ (I 111 x2.toNatClampNeg) = 0) → ((I 112 x2.toNatClampNeg) = 1) → (¬ (x3 < 0)) → (x3 ≤ ((I 113 x2.toNatClampNeg) - 3)) → vp_in (((40 * x2) + x3) + ((0 + 1) + 1)) 160) : Con l 279 (d + 2) 0 0 [.ref 74, .int x1, .int x2, .int x3] SH (I, F, L, RT t) (rT (fn_279 I F L t x1 x2 x3)) := by
  refine cn_279 ?_
  unfold fn_279
  refine bk_279_0 (cs_262 (d := d + 0) ) ?_
  refine bk_279_4 (fun h0 => ?_) (fun h0 => ?_)
  · rw [if_pos h0]
    exact bk_279_15 ⟨rfl, rfl, rfl⟩
  · rw [if_neg h0]
    refine bk_279_7 (cs_179 (d := d + 0) ) ?_
    refine bk_279_12 (fun h1 => ?_) (fun h1 => ?_)
    · rw [if_pos h1]
      refine bk_279_18 (p1 h0 h1) (fun h2 => ?_) (fun h2 => ?_)
      · rw [if_pos h2]
        refine bk_279_31 (p2 h0 h1 h2) (fun h3 => ?_) (fun h3 => ?_)
        · rw [if_pos h3]
          refine bk_279_43 (p3 h0 h1 h2 h3) (fun h4 => ?_) (fun h4 => ?_)
          · rw [if_pos h4]
            refine bk_279_56 (fun h5 => ?_) (fun h5 => ?_)
            · rw [if_pos h5]
              exact bk_279_72 ⟨rfl, rfl, rfl⟩
            · rw [if_neg h5]
              refine bk_279_60 (p4 h0 h1 h2 h3 h4 h5) (fun h6 => ?_) (fun h6 => ?_)
              · rw [if_pos h6]
                refine bk_279_75 ?_
                refine bk_279_78 (fun h => absurd h (by decide)) (fun _ => ?_)
                refine bk_279_84 (cs_211 (d := d + 0) (p5 h0 h1 h2 h3 h4 h5 h6) (p6 h0 h1 h2 h3 h4 h5 h6) (p7 h0 h1 h2 h3 h4 h5 h6) (p8 h0 h1 h2 h3 h4 h5 h6)) ?_
                refine bk_279_104 (p9 h0 h1 h2 h3 h4 h5 h6) ?_
                refine bk_279_78 (fun h => absurd h (by decide)) (fun _ => ?_)
                refine bk_279_84 (cs_211 (d := d + 0) (p10 h0 h1 h2 h3 h4 h5 h6) (p11 h0 h1 h2 h3 h4 h5 h6) (p12 h0 h1 h2 h3 h4 h5 h6) (p13 h0 h1 h2 h3 h4 h5 h6)) ?_
                refine bk_279_104 (p14 h0 h1 h2 h3 h4 h5 h6) ?_
                refine bk_279_78 (fun h => absurd h (by decide)) (fun _ => ?_)
                refine bk_279_84 (cs_211 (d := d + 0) (p15 h0 h1 h2 h3 h4 h5 h6) (p16 h0 h1 h2 h3 h4 h5 h6) (p17 h0 h1 h2 h3 h4 h5 h6) (p18 h0 h1 h2 h3 h4 h5 h6)) ?_
                refine bk_279_104 (p19 h0 h1 h2 h3 h4 h5 h6) ?_
                refine bk_279_78 (fun _ => ?_) (fun h => absurd (by decide) h)
                exact bk_279_111 ⟨rfl, rfl, rfl⟩
              · rw [if_neg h6]
                exact bk_279_72 ⟨rfl, rfl, rfl⟩
          · rw [if_neg h4]
            exact bk_279_53 ⟨rfl, rfl, rfl⟩
        · rw [if_neg h3]
          exact bk_279_40 ⟨rfl, rfl, rfl⟩
      · rw [if_neg h2]
        exact bk_279_28 ⟨rfl, rfl, rfl⟩
    · rw [if_neg h1]
      exact bk_279_15 ⟨rfl, rfl, rfl⟩
/-- VectorShelf$Judge.far(LVectorShelf$Shelf;I)I -/
def sp_22 (I : Nat → Nat → Int32) (r1 : Nat) (x2 : Int32) : Int32 := ((sp_29 I (r1 + 1) (sp_285 ((I (r1 + 7) (3 * x2).toNatClampNeg) - (I (r1 + 3) 0))) (sp_285 ((I (r1 + 7) ((3 * x2) + 1).toNatClampNeg) - (I (r1 + 3) 1))) (sp_285 ((I (r1 + 7) ((3 * x2) + 2).toNatClampNeg) - (I (r1 + 3) 2)))) + (I 37 x2.toNatClampNeg))
theorem cs_22 {l : LX} {d : Nat} {I : Nat → Nat → Int32} {F : Nat → Nat → UInt32} {L : Nat → Nat → Int64} {t : Nat} {r1 : Nat} {x2 : Int32} (hr1 : isS r1) (p1 : vp_in (3 * x2) 36) (p2 : vp_in ((3 * x2) + 1) 36) (p3 : vp_in ((3 * x2) + 2) 36) (p4 : ((((I (r1 + 1) 0) = 1) → vp_in (0 : Int32) 3))) (p5 : ((((I (r1 + 1) 0) = 3) → ((sp_285 ((I (r1 + 7) (3 * x2).toNatClampNeg) - (I (r1 + 3) 0))) ≤ (I (r1 + 1) 1)) → vp_in (0 : Int32) 3))) (p6 : ((((I (r1 + 1) 0) = 3) → (¬ ((sp_285 ((I (r1 + 7) (3 * x2).toNatClampNeg) - (I (r1 + 3) 0))) ≤ (I (r1 + 1) 1))) → vp_in (0 : Int32) 3))) (p7 : (((¬ (I (r1 + 1) 0) = 0) → (¬ (I (r1 + 1) 0) = 1) → (¬ (I (r1 + 1) 0) = 2) → (¬ (I (r1 + 1) 0) = 3) → (¬ (I (r1 + 1) 0) = 4) → ((sp_285 ((I (r1 + 7) (3 * x2).toNatClampNeg) - (I (r1 + 3) 0))) ≤ (I (r1 + 1) 1)) → vp_in (0 : Int32) 3))) (p8 : (((¬ (I (r1 + 1) 0) = 0) → (¬ (I (r1 + 1) 0) = 1) → (¬ (I (r1 + 1) 0) = 2) → (¬ (I (r1 + 1) 0) = 3) → (¬ (I (r1 + 1) 0) = 4) → (¬ ((sp_285 ((I (r1 + 7) (3 * x2).toNatClampNeg) - (I (r1 + 3) 0))) ≤ (I (r1 + 1) 1))) → vp_in (0 : Int32) 3))) (p9 : ((((I (r1 + 1) 0) = 1) → vp_in (1 : Int32) 3))) (p10 : ((((I (r1 + 1) 0) = 3) → ((sp_285 ((I (r1 + 7) ((3 * x2) + 1).toNatClampNeg) - (I (r1 + 3) 1))) ≤ (I (r1 + 1) 1)) → vp_in (1 : Int32) 3))) (p11 : ((((I (r1 + 1) 0) = 3) → (¬ ((sp_285 ((I (r1 + 7) ((3 * x2) + 1).toNatClampNeg) - (I (r1 + 3) 1))) ≤ (I (r1 + 1) 1))) → vp_in (1 : Int32) 3))) (p12 : (((¬ (I (r1 + 1) 0) = 0) → (¬ (I (r1 + 1) 0) = 1) → (¬ (I (r1 + 1) 0) = 2) → (¬ (I (r1 + 1) 0) = 3) → (¬ (I (r1 + 1) 0) = 4) → ((sp_285 ((I (r1 + 7) ((3 * x2) + 1).toNatClampNeg) - (I (r1 + 3) 1))) ≤ (I (r1 + 1) 1)) → vp_in (1 : Int32) 3))) (p13 : (((¬ (I (r1 + 1) 0) = 0) → (¬ (I (r1 + 1) 0) = 1) → (¬ (I (r1 + 1) 0) = 2) → (¬ (I (r1 + 1) 0) = 3) → (¬ (I (r1 + 1) 0) = 4) → (¬ ((sp_285 ((I (r1 + 7) ((3 * x2) + 1).toNatClampNeg) - (I (r1 + 3) 1))) ≤ (I (r1 + 1) 1))) → vp_in (1 : Int32) 3))) (p14 : ((((I (r1 + 1) 0) = 1) → vp_in (2 : Int32) 3))) (p15 : ((((I (r1 + 1) 0) = 3) → ((sp_285 ((I (r1 + 7) ((3 * x2) + 2).toNatClampNeg) - (I (r1 + 3) 2))) ≤ (I (r1 + 1) 1)) → vp_in (2 : Int32) 3))) (p16 : ((((I (r1 + 1) 0) = 3) → (¬ ((sp_285 ((I (r1 + 7) ((3 * x2) + 2).toNatClampNeg) - (I (r1 + 3) 2))) ≤ (I (r1 + 1) 1))) → vp_in (2 : Int32) 3))) (p17 : (((¬ (I (r1 + 1) 0) = 0) → (¬ (I (r1 + 1) 0) = 1) → (¬ (I (r1 + 1) 0) = 2) → (¬ (I (r1 + 1) 0) = 3) → (¬ (I (r1 + 1) 0) = 4) → ((sp_285 ((I (r1 + 7) ((3 * x2) + 2).toNatClampNeg) - (I (r1 + 3) 2))) ≤ (I (r1 + 1) 1)) → vp_in (2 : Int32) 3))) (p18 : (((¬ (I (r1 + 1) 0) = 0) → (¬ (I (r1 + 1) 0) = 1) → (¬ (I (r1 + 1) 0) = 2) → (¬ (I (r1 + 1) 0) = 3) → (¬ (I (r1 + 1) 0) = 4) → (¬ ((sp_285 ((I (r1 + 7) ((3 * x2) + 2).toNatClampNeg) - (I (r1 + 3) 2))) ≤ (I (r1 + 1) 1))) → vp_in (2 : Int32) 3))) (p19 : vp_in x2 12) : Con l 22 (d + 2) 0 0 [.ref 35, .ref r1, .int x2] SH (I, F, L, RT t) (rI (sp_22 I r1 x2) (I, F, L, RT t)) := by
  refine cn_22 ?_
  unfold sp_22
  refine bk_22_0 hr1 p1 (cs_285 (d := d + 1) ) ?_
  refine bk_22_24 hr1 p2 (cs_285 (d := d + 1) ) ?_
  refine bk_22_42 hr1 p3 (cs_285 (d := d + 1) ) ?_
  refine bk_22_60 hr1 (cs_29 (d := d + 0) (isM_S hr1) (p4) (p5) (p6) (p7) (p8) (p9) (p10) (p11) (p12) (p13) (p14) (p15) (p16) (p17) (p18)) ?_
  exact bk_22_63 p19 ⟨rfl, rfl, rfl⟩
/-- VectorShelf$Shelf.lowOfVector(I)F -/
def sp_63 (I : Nat → Nat → Int32) (b : Nat) (x1 : Int32) : UInt32 := (sp_25 I (b + 1) (sp_64 I b x1 (0 : Int32)) (sp_64 I b x1 (1 : Int32)) (sp_64 I b x1 (2 : Int32)))
theorem cs_63 {l : LX} {d : Nat} {I : Nat → Nat → Int32} {F : Nat → Nat → UInt32} {L : Nat → Nat → Int64} {t : Nat} {b : Nat} {x1 : Int32} (hb : isS b) (p1 : (vp_in x1 12)) (p2 : ((¬ (I (b + 9) x1.toNatClampNeg) = (-1)) → (vp_in x1 12))) (p3 : ((¬ (I (b + 9) x1.toNatClampNeg) = (-1)) → ((¬ ((I (b + 9) x1.toNatClampNeg) = (-1))) → (¬ (I b 1) = 0) → vp_in ((3 * x1) + (0 : Int32)) 36))) (p4 : ((¬ (I (b + 9) x1.toNatClampNeg) = (-1)) → ((¬ ((I (b + 9) x1.toNatClampNeg) = (-1))) → (¬ (I b 1) = 0) → vp_in ((3 * (I (b + 9) x1.toNatClampNeg)) + (0 : Int32)) 12))) (p5 : ((¬ (I (b + 9) x1.toNatClampNeg) = (-1)) → ((¬ ((I (b + 9) x1.toNatClampNeg) = (-1))) → (¬ (I b 1) = 0) → (¬ ((I b 1) : Int32) = 0)))) (p6 : ((¬ (I (b + 9) x1.toNatClampNeg) = (-1)) → vp_in ((3 * (I (b + 9) x1.toNatClampNeg)) + (0 : Int32)) 12)) (p7 : ((¬ (I (b + 9) x1.toNatClampNeg) = (-1)) → vp_in (0 : Int32) 3)) (p8 : (vp_in x1 12)) (p9 : ((¬ (I (b + 9) x1.toNatClampNeg) = (-1)) → (vp_in x1 12))) (p10 : ((¬ (I (b + 9) x1.toNatClampNeg) = (-1)) → ((¬ ((I (b + 9) x1.toNatClampNeg) = (-1))) → (¬ (I b 1) = 0) → vp_in ((3 * x1) + (1 : Int32)) 36))) (p11 : ((¬ (I (b + 9) x1.toNatClampNeg) = (-1)) → ((¬ ((I (b + 9) x1.toNatClampNeg) = (-1))) → (¬ (I b 1) = 0) → vp_in ((3 * (I (b + 9) x1.toNatClampNeg)) + (1 : Int32)) 12))) (p12 : ((¬ (I (b + 9) x1.toNatClampNeg) = (-1)) → ((¬ ((I (b + 9) x1.toNatClampNeg) = (-1))) → (¬ (I b 1) = 0) → (¬ ((I b 1) : Int32) = 0)))) (p13 : ((¬ (I (b + 9) x1.toNatClampNeg) = (-1)) → vp_in ((3 * (I (b + 9) x1.toNatClampNeg)) + (1 : Int32)) 12)) (p14 : ((¬ (I (b + 9) x1.toNatClampNeg) = (-1)) → vp_in (1 : Int32) 3)) (p15 : (vp_in x1 12)) (p16 : ((¬ (I (b + 9) x1.toNatClampNeg) = (-1)) → (vp_in x1 12))) (p17 : ((¬ (I (b + 9) x1.toNatClampNeg) = (-1)) → ((¬ ((I (b + 9) x1.toNatClampNeg) = (-1))) → (¬ (I b 1) = 0) → vp_in ((3 * x1) + (2 : Int32)) 36))) (p18 : ((¬ (I (b + 9) x1.toNatClampNeg) = (-1)) → ((¬ ((I (b + 9) x1.toNatClampNeg) = (-1))) → (¬ (I b 1) = 0) → vp_in ((3 * (I (b + 9) x1.toNatClampNeg)) + (2 : Int32)) 12))) (p19 : ((¬ (I (b + 9) x1.toNatClampNeg) = (-1)) → ((¬ ((I (b + 9) x1.toNatClampNeg) = (-1))) → (¬ (I b 1) = 0) → (¬ ((I b 1) : Int32) = 0)))) (p20 : ((¬ (I (b + 9) x1.toNatClampNeg) = (-1)) → vp_in ((3 * (I (b + 9) x1.toNatClampNeg)) + (2 : Int32)) 12)) (p21 : ((¬ (I (b + 9) x1.toNatClampNeg) = (-1)) → vp_in (2 : Int32) 3)) (p22 : ((vp_in (0 : Int32) 3))) (p23 : ((((I (b + 1) 0) = 0) → vf_n32 (FP.fmul (FP.i2f (sp_64 I b x1 (0 : Int32))) (FP.i2f (sp_64 I b x1 (0 : Int32))))))) (p24 : ((((I (b + 1) 0) = 1) → vf_n32 (FP.fmul (FP.i2f (sp_64 I b x1 (0 : Int32))) (FP.i2f (sp_64 I b x1 (0 : Int32))))))) (p25 : ((((I (b + 1) 0) = 1) → vf_n32 (FP.fmul (FP.fmul (FP.i2f (sp_64 I b x1 (0 : Int32))) (FP.i2f (sp_64 I b x1 (0 : Int32)))) (FP.i2f (I ((b + 1) + 1) (0 : Int32).toNatClampNeg)))))) (p26 : ((((I (b + 1) 0) = 3) → ((sp_64 I b x1 (0 : Int32)) ≤ (I (b + 1) 1)) → vf_n32 (FP.fmul FP.fconst0 FP.fconst0)))) (p27 : ((((I (b + 1) 0) = 3) → ((sp_64 I b x1 (0 : Int32)) ≤ (I (b + 1) 1)) → vf_n32 (FP.fmul (FP.fmul FP.fconst0 FP.fconst0) (FP.i2f (I ((b + 1) + 1) (0 : Int32).toNatClampNeg)))))) (p28 : ((((I (b + 1) 0) = 3) → (¬ ((sp_64 I b x1 (0 : Int32)) ≤ (I (b + 1) 1))) → vf_n32 (FP.fmul (FP.i2f ((sp_64 I b x1 (0 : Int32)) - (I (b + 1) 1))) (FP.i2f ((sp_64 I b x1 (0 : Int32)) - (I (b + 1) 1))))))) (p29 : ((((I (b + 1) 0) = 3) → (¬ ((sp_64 I b x1 (0 : Int32)) ≤ (I (b + 1) 1))) → vf_n32 (FP.fmul (FP.fmul (FP.i2f ((sp_64 I b x1 (0 : Int32)) - (I (b + 1) 1))) (FP.i2f ((sp_64 I b x1 (0 : Int32)) - (I (b + 1) 1)))) (FP.i2f (I ((b + 1) + 1) (0 : Int32).toNatClampNeg)))))) (p30 : (((¬ (I (b + 1) 0) = 0) → (¬ (I (b + 1) 0) = 1) → (¬ (I (b + 1) 0) = 2) → (¬ (I (b + 1) 0) = 3) → (¬ (I (b + 1) 0) = 4) → ((sp_64 I b x1 (0 : Int32)) ≤ (I (b + 1) 1)) → vf_n32 (FP.fmul FP.fconst0 FP.fconst0)))) (p31 : (((¬ (I (b + 1) 0) = 0) → (¬ (I (b + 1) 0) = 1) → (¬ (I (b + 1) 0) = 2) → (¬ (I (b + 1) 0) = 3) → (¬ (I (b + 1) 0) = 4) → ((sp_64 I b x1 (0 : Int32)) ≤ (I (b + 1) 1)) → vf_n32 (FP.fmul (FP.fmul FP.fconst0 FP.fconst0) (FP.i2f (I ((b + 1) + 1) (0 : Int32).toNatClampNeg)))))) (p32 : (((¬ (I (b + 1) 0) = 0) → (¬ (I (b + 1) 0) = 1) → (¬ (I (b + 1) 0) = 2) → (¬ (I (b + 1) 0) = 3) → (¬ (I (b + 1) 0) = 4) → (¬ ((sp_64 I b x1 (0 : Int32)) ≤ (I (b + 1) 1))) → vf_n32 (FP.fmul (FP.i2f ((sp_64 I b x1 (0 : Int32)) - (I (b + 1) 1))) (FP.i2f ((sp_64 I b x1 (0 : Int32)) - (I (b + 1) 1))))))) (p33 : (((¬ (I (b + 1) 0) = 0) → (¬ (I (b + 1) 0) = 1) → (¬ (I (b + 1) 0) = 2) → (¬ (I (b + 1) 0) = 3) → (¬ (I (b + 1) 0) = 4) → (¬ ((sp_64 I b x1 (0 : Int32)) ≤ (I (b + 1) 1))) → vf_n32 (FP.fmul (FP.fmul (FP.i2f ((sp_64 I b x1 (0 : Int32)) - (I (b + 1) 1))) (FP.i2f ((sp_64 I b x1 (0 : Int32)) - (I (b + 1) 1)))) (FP.i2f (I ((b + 1) + 1) (0 : Int32).toNatClampNeg)))))) (p34 : ((vp_in (1 : Int32) 3))) (p35 : ((((I (b + 1) 0) = 0) → vf_n32 (FP.fmul (FP.i2f (sp_64 I b x1 (1 : Int32))) (FP.i2f (sp_64 I b x1 (1 : Int32))))))) (p36 : ((((I (b + 1) 0) = 1) → vf_n32 (FP.fmul (FP.i2f (sp_64 I b x1 (1 : Int32))) (FP.i2f (sp_64 I b x1 (1 : Int32))))))) (p37 : ((((I (b + 1) 0) = 1) → vf_n32 (FP.fmul (FP.fmul (FP.i2f (sp_64 I b x1 (1 : Int32))) (FP.i2f (sp_64 I b x1 (1 : Int32)))) (FP.i2f (I ((b + 1) + 1) (1 : Int32).toNatClampNeg)))))) (p38 : ((((I (b + 1) 0) = 3) → ((sp_64 I b x1 (1 : Int32)) ≤ (I (b + 1) 1)) → vf_n32 (FP.fmul FP.fconst0 FP.fconst0)))) (p39 : ((((I (b + 1) 0) = 3) → ((sp_64 I b x1 (1 : Int32)) ≤ (I (b + 1) 1)) → vf_n32 (FP.fmul (FP.fmul FP.fconst0 FP.fconst0) (FP.i2f (I ((b + 1) + 1) (1 : Int32).toNatClampNeg)))))) (p40 : ((((I (b + 1) 0) = 3) → (¬ ((sp_64 I b x1 (1 : Int32)) ≤ (I (b + 1) 1))) → vf_n32 (FP.fmul (FP.i2f ((sp_64 I b x1 (1 : Int32)) - (I (b + 1) 1))) (FP.i2f ((sp_64 I b x1 (1 : Int32)) - (I (b + 1) 1))))))) (p41 : ((((I (b + 1) 0) = 3) → (¬ ((sp_64 I b x1 (1 : Int32)) ≤ (I (b + 1) 1))) → vf_n32 (FP.fmul (FP.fmul (FP.i2f ((sp_64 I b x1 (1 : Int32)) - (I (b + 1) 1))) (FP.i2f ((sp_64 I b x1 (1 : Int32)) - (I (b + 1) 1)))) (FP.i2f (I ((b + 1) + 1) (1 : Int32).toNatClampNeg)))))) (p42 : (((¬ (I (b + 1) 0) = 0) → (¬ (I (b + 1) 0) = 1) → (¬ (I (b + 1) 0) = 2) → (¬ (I (b + 1) 0) = 3) → (¬ (I (b + 1) 0) = 4) → ((sp_64 I b x1 (1 : Int32)) ≤ (I (b + 1) 1)) → vf_n32 (FP.fmul FP.fconst0 FP.fconst0)))) (p43 : (((¬ (I (b + 1) 0) = 0) → (¬ (I (b + 1) 0) = 1) → (¬ (I (b + 1) 0) = 2) → (¬ (I (b + 1) 0) = 3) → (¬ (I (b + 1) 0) = 4) → ((sp_64 I b x1 (1 : Int32)) ≤ (I (b + 1) 1)) → vf_n32 (FP.fmul (FP.fmul FP.fconst0 FP.fconst0) (FP.i2f (I ((b + 1) + 1) (1 : Int32).toNatClampNeg)))))) (p44 : (((¬ (I (b + 1) 0) = 0) → (¬ (I (b + 1) 0) = 1) → (¬ (I (b + 1) 0) = 2) → (¬ (I (b + 1) 0) = 3) → (¬ (I (b + 1) 0) = 4) → (¬ ((sp_64 I b x1 (1 : Int32)) ≤ (I (b + 1) 1))) → vf_n32 (FP.fmul (FP.i2f ((sp_64 I b x1 (1 : Int32)) - (I (b + 1) 1))) (FP.i2f ((sp_64 I b x1 (1 : Int32)) - (I (b + 1) 1))))))) (p45 : (((¬ (I (b + 1) 0) = 0) → (¬ (I (b + 1) 0) = 1) → (¬ (I (b + 1) 0) = 2) → (¬ (I (b + 1) 0) = 3) → (¬ (I (b + 1) 0) = 4) → (¬ ((sp_64 I b x1 (1 : Int32)) ≤ (I (b + 1) 1))) → vf_n32 (FP.fmul (FP.fmul (FP.i2f ((sp_64 I b x1 (1 : Int32)) - (I (b + 1) 1))) (FP.i2f ((sp_64 I b x1 (1 : Int32)) - (I (b + 1) 1)))) (FP.i2f (I ((b + 1) + 1) (1 : Int32).toNatClampNeg)))))) (p46 : (((¬ (I (b + 1) 0) = 4) → vf_n32 (FP.fadd (sp_26 I (b + 1) (0 : Int32) (sp_64 I b x1 (0 : Int32))) (sp_26 I (b + 1) (1 : Int32) (sp_64 I b x1 (1 : Int32))))))) (p47 : ((vp_in (2 : Int32) 3))) (p48 : ((((I (b + 1) 0) = 0) → vf_n32 (FP.fmul (FP.i2f (sp_64 I b x1 (2 : Int32))) (FP.i2f (sp_64 I b x1 (2 : Int32))))))) (p49 : ((((I (b + 1) 0) = 1) → vf_n32 (FP.fmul (FP.i2f (sp_64 I b x1 (2 : Int32))) (FP.i2f (sp_64 I b x1 (2 : Int32))))))) (p50 : ((((I (b + 1) 0) = 1) → vf_n32 (FP.fmul (FP.fmul (FP.i2f (sp_64 I b x1 (2 : Int32))) (FP.i2f (sp_64 I b x1 (2 : Int32)))) (FP.i2f (I ((b + 1) + 1) (2 : Int32).toNatClampNeg)))))) (p51 : ((((I (b + 1) 0) = 3) → ((sp_64 I b x1 (2 : Int32)) ≤ (I (b + 1) 1)) → vf_n32 (FP.fmul FP.fconst0 FP.fconst0)))) (p52 : ((((I (b + 1) 0) = 3) → ((sp_64 I b x1 (2 : Int32)) ≤ (I (b + 1) 1)) → vf_n32 (FP.fmul (FP.fmul FP.fconst0 FP.fconst0) (FP.i2f (I ((b + 1) + 1) (2 : Int32).toNatClampNeg)))))) (p53 : ((((I (b + 1) 0) = 3) → (¬ ((sp_64 I b x1 (2 : Int32)) ≤ (I (b + 1) 1))) → vf_n32 (FP.fmul (FP.i2f ((sp_64 I b x1 (2 : Int32)) - (I (b + 1) 1))) (FP.i2f ((sp_64 I b x1 (2 : Int32)) - (I (b + 1) 1))))))) (p54 : ((((I (b + 1) 0) = 3) → (¬ ((sp_64 I b x1 (2 : Int32)) ≤ (I (b + 1) 1))) → vf_n32 (FP.fmul (FP.fmul (FP.i2f ((sp_64 I b x1 (2 : Int32)) - (I (b + 1) 1))) (FP.i2f ((sp_64 I b x1 (2 : Int32)) - (I (b + 1) 1)))) (FP.i2f (I ((b + 1) + 1) (2 : Int32).toNatClampNeg)))))) (p55 : (((¬ (I (b + 1) 0) = 0) → (¬ (I (b + 1) 0) = 1) → (¬ (I (b + 1) 0) = 2) → (¬ (I (b + 1) 0) = 3) → (¬ (I (b + 1) 0) = 4) → ((sp_64 I b x1 (2 : Int32)) ≤ (I (b + 1) 1)) → vf_n32 (FP.fmul FP.fconst0 FP.fconst0)))) (p56 : (((¬ (I (b + 1) 0) = 0) → (¬ (I (b + 1) 0) = 1) → (¬ (I (b + 1) 0) = 2) → (¬ (I (b + 1) 0) = 3) → (¬ (I (b + 1) 0) = 4) → ((sp_64 I b x1 (2 : Int32)) ≤ (I (b + 1) 1)) → vf_n32 (FP.fmul (FP.fmul FP.fconst0 FP.fconst0) (FP.i2f (I ((b + 1) + 1) (2 : Int32).toNatClampNeg)))))) (p57 : (((¬ (I (b + 1) 0) = 0) → (¬ (I (b + 1) 0) = 1) → (¬ (I (b + 1) 0) = 2) → (¬ (I (b + 1) 0) = 3) → (¬ (I (b + 1) 0) = 4) → (¬ ((sp_64 I b x1 (2 : Int32)) ≤ (I (b + 1) 1))) → vf_n32 (FP.fmul (FP.i2f ((sp_64 I b x1 (2 : Int32)) - (I (b + 1) 1))) (FP.i2f ((sp_64 I b x1 (2 : Int32)) - (I (b + 1) 1))))))) (p58 : (((¬ (I (b + 1) 0) = 0) → (¬ (I (b + 1) 0) = 1) → (¬ (I (b + 1) 0) = 2) → (¬ (I (b + 1) 0) = 3) → (¬ (I (b + 1) 0) = 4) → (¬ ((sp_64 I b x1 (2 : Int32)) ≤ (I (b + 1) 1))) → vf_n32 (FP.fmul (FP.fmul (FP.i2f ((sp_64 I b x1 (2 : Int32)) - (I (b + 1) 1))) (FP.i2f ((sp_64 I b x1 (2 : Int32)) - (I (b + 1) 1)))) (FP.i2f (I ((b + 1) + 1) (2 : Int32).toNatClampNeg)))))) (p59 : (((¬ (I (b + 1) 0) = 4) → vf_n32 (FP.fadd (sp_27 I (b + 1) (sp_26 I (b + 1) (0 : Int32) (sp_64 I b x1 (0 : Int32))) (sp_26 I (b + 1) (1 : Int32) (sp_64 I b x1 (1 : Int32)))) (sp_26 I (b + 1) (2 : Int32) (sp_64 I b x1 (2 : Int32))))))) (p60 : (((¬ (I (b + 1) 0) = 2) → (¬ (¬ (I (b + 1) 0) = 4)) → vf_n32 (FP.fmul 1082130432 (sp_27 I (b + 1) (sp_27 I (b + 1) (sp_26 I (b + 1) (0 : Int32) (sp_64 I b x1 (0 : Int32))) (sp_26 I (b + 1) (1 : Int32) (sp_64 I b x1 (1 : Int32)))) (sp_26 I (b + 1) (2 : Int32) (sp_64 I b x1 (2 : Int32)))))))) (p61 : (((¬ (I (b + 1) 0) = 2) → (¬ (¬ (I (b + 1) 0) = 4)) → vf_n32 (FP.fadd (FP.fmul 1082130432 (sp_27 I (b + 1) (sp_27 I (b + 1) (sp_26 I (b + 1) (0 : Int32) (sp_64 I b x1 (0 : Int32))) (sp_26 I (b + 1) (1 : Int32) (sp_64 I b x1 (1 : Int32)))) (sp_26 I (b + 1) (2 : Int32) (sp_64 I b x1 (2 : Int32))))) FP.fconst1)))) (p62 : (((¬ (¬ (I (b + 1) 0) = 2)) → vf_n32 (FP.fmul 1082130432 (sp_27 I (b + 1) (sp_27 I (b + 1) (sp_26 I (b + 1) (0 : Int32) (sp_64 I b x1 (0 : Int32))) (sp_26 I (b + 1) (1 : Int32) (sp_64 I b x1 (1 : Int32)))) (sp_26 I (b + 1) (2 : Int32) (sp_64 I b x1 (2 : Int32)))))))) (p63 : (vf_n32 (FP.fmul (sp_28 I (b + 1) (sp_27 I (b + 1) (sp_27 I (b + 1) (sp_26 I (b + 1) (0 : Int32) (sp_64 I b x1 (0 : Int32))) (sp_26 I (b + 1) (1 : Int32) (sp_64 I b x1 (1 : Int32)))) (sp_26 I (b + 1) (2 : Int32) (sp_64 I b x1 (2 : Int32))))) 1065353200))) : Con l 63 (d + 3) 0 0 [.ref b, .int x1] SH (I, F, L, RT t) (rF (sp_63 I b x1) (I, F, L, RT t)) := by
  refine cn_63 ?_
  unfold sp_63
  refine bk_63_0 hb (cs_64 (d := d + 0) hb (p1) (p2) (p3) (p4) (p5) (p6) (p7)) ?_
  refine bk_63_10 hb (cs_64 (d := d + 0) hb (p8) (p9) (p10) (p11) (p12) (p13) (p14)) ?_
  refine bk_63_16 hb (cs_64 (d := d + 0) hb (p15) (p16) (p17) (p18) (p19) (p20) (p21)) ?_
  refine bk_63_22 hb (cs_25 (d := d + 1) (isM_S hb) (p22) (p23) (p24) (p25) (p26) (p27) (p28) (p29) (p30) (p31) (p32) (p33) (p34) (p35) (p36) (p37) (p38) (p39) (p40) (p41) (p42) (p43) (p44) (p45) (p46) (p47) (p48) (p49) (p50) (p51) (p52) (p53) (p54) (p55) (p56) (p57) (p58) (p59) (p60) (p61) (p62) (p63)) ?_
  exact bk_63_25 ⟨rfl, rfl, rfl⟩
/-- VectorShelf.cell(III)I -/
def fn_105 (I : Nat → Nat → Int32) (F : Nat → Nat → UInt32) (L : Nat → Nat → Int64) (t : Nat) (x1 : Int32) (x2 : Int32) (x3 : Int32) : Int32 × (Nat → Nat → Int32) × (Nat → Nat → UInt32) × (Nat → Nat → Int64) × Nat := (if ¬ (sp_106 x1 x2 x3) = 0 then (if (I 1 4) < 4 then (bnd (fn_53 I F L t 1 x1 x2 x3) (fun z1 I1 F1 L1 t1 => (z1, I1, F1, L1, t1))) else ((-4), I, F, L, t)) else ((-2), I, F, L, t))
theorem ci_105 {l : LX} {d : Nat} {I : Nat → Nat → Int32} {F : Nat → Nat → UInt32} {L : Nat → Nat → Int64} {t : Nat} {x1 : Int32} {x2 : Int32} {x3 : Int32} (p1 : (¬ (sp_106 x1 x2 x3) = 0) → ((I 1 4) < 4) → (((I 1 4) < 4) → vp_in (3 * (I 1 4)) 12)) (p2 : (¬ (sp_106 x1 x2 x3) = 0) → ((I 1 4) < 4) → (((I 1 4) < 4) → vp_in ((3 * (I 1 4)) + 1) 12)) (p3 : (¬ (sp_106 x1 x2 x3) = 0) → ((I 1 4) < 4) → (((I 1 4) < 4) → vp_in ((3 * (I 1 4)) + 2) 12)) (p4 : (¬ (sp_106 x1 x2 x3) = 0) → ((I 1 4) < 4) → (((I 1 4) < 4) → (vp_in ((3 * (I 1 4)) + 0) 12))) (p5 : (¬ (sp_106 x1 x2 x3) = 0) → ((I 1 4) < 4) → (((I 1 4) < 4) → (vp_in ((3 * (I 1 4)) + (0 + 1)) 12))) (p6 : (¬ (sp_106 x1 x2 x3) = 0) → ((I 1 4) < 4) → (((I 1 4) < 4) → (vp_in ((3 * (I 1 4)) + ((0 + 1) + 1)) 12))) : Con l 105 (d + 2) 0 0 [.ref 0, .int x1, .int x2, .int x3] SH (I, F, L, RT t) (rT (fn_105 I F L t x1 x2 x3)) := by
  refine cn_105 ?_
  unfold fn_105
  refine bk_105_0 (cs_106 (d := d + 0) ) ?_
  refine bk_105_6 (fun h0 => ?_) (fun h0 => ?_)
  · rw [if_pos h0]
    refine bk_105_12 (fun h1 => ?_) (fun h1 => ?_)
    · rw [if_pos h1]
      refine bk_105_28 (Con_Q (ci_53 (d := d + 0) (by first | decide | (unfold isS; decide) | (unfold isS; omega)) (p1 h0 h1) (p2 h0 h1) (p3 h0 h1) (p4 h0 h1) (p5 h0 h1) (p6 h0 h1))) (fun z1 I1 F1 L1 t1 e1 => ?_)
      rw [← e1]
      dsimp only [bnd]
      exact bk_105_38 ⟨rfl, rfl, rfl⟩
    · rw [if_neg h1]
      refine bk_105_23 ?_
      exact bk_105_38 ⟨rfl, rfl, rfl⟩
  · rw [if_neg h0]
    exact bk_105_9 ⟨rfl, rfl, rfl⟩
/-- VectorShelfModel.measure(III)I -/
def sp_185 (I : Nat → Nat → Int32) (x1 : Int32) (x2 : Int32) (x3 : Int32) : Int32 := (if ¬ (I 78 3) = 4 then (if ¬ (I 78 3) = 2 then (if ¬ (I 78 3) = 5 then (((sp_186 I x1 (0 : Int32)) + (sp_186 I x2 (1 : Int32))) + (sp_186 I x3 (2 : Int32))) else (if (((sp_186 I x1 (0 : Int32)) + (sp_186 I x2 (1 : Int32))) + (sp_186 I x3 (2 : Int32))) ≤ (I 78 2) then (((sp_186 I x1 (0 : Int32)) + (sp_186 I x2 (1 : Int32))) + (sp_186 I x3 (2 : Int32))) else (I 78 2))) else (4 * (((sp_186 I x1 (0 : Int32)) + (sp_186 I x2 (1 : Int32))) + (sp_186 I x3 (2 : Int32))))) else (if (sp_186 I x1 (0 : Int32)) ≤ (sp_186 I x2 (1 : Int32)) then (if (sp_186 I x2 (1 : Int32)) ≤ (sp_186 I x3 (2 : Int32)) then ((4 * (sp_186 I x3 (2 : Int32))) + 1) else ((4 * (sp_186 I x2 (1 : Int32))) + 1)) else (if (sp_186 I x1 (0 : Int32)) ≤ (sp_186 I x3 (2 : Int32)) then ((4 * (sp_186 I x3 (2 : Int32))) + 1) else ((4 * (sp_186 I x1 (0 : Int32))) + 1))))
theorem cs_185 {l : LX} {d : Nat} {I : Nat → Nat → Int32} {F : Nat → Nat → UInt32} {L : Nat → Nat → Int64} {t : Nat} {x1 : Int32} {x2 : Int32} {x3 : Int32} (p1 : (((sp_187 I) = 0) → (¬ ((I 78 3) = 2)) → (¬ (I 78 3) = 4) → (¬ (I 78 3) = 0) → vp_in (4 + (0 : Int32)) 7)) (p2 : ((¬ ((sp_187 I) = 0)) → (¬ ((I 78 3) = 2)) → (¬ (I 78 3) = 4) → (¬ (I 78 3) = 0) → vp_in (4 + (0 : Int32)) 7)) (p3 : (((sp_187 I) = 0) → (¬ ((I 78 3) = 2)) → (¬ (I 78 3) = 4) → (¬ (I 78 3) = 0) → vp_in (4 + (1 : Int32)) 7)) (p4 : ((¬ ((sp_187 I) = 0)) → (¬ ((I 78 3) = 2)) → (¬ (I 78 3) = 4) → (¬ (I 78 3) = 0) → vp_in (4 + (1 : Int32)) 7)) (p5 : (((sp_187 I) = 0) → (¬ ((I 78 3) = 2)) → (¬ (I 78 3) = 4) → (¬ (I 78 3) = 0) → vp_in (4 + (2 : Int32)) 7)) (p6 : ((¬ ((sp_187 I) = 0)) → (¬ ((I 78 3) = 2)) → (¬ (I 78 3) = 4) → (¬ (I 78 3) = 0) → vp_in (4 + (2 : Int32)) 7)) : Con l 185 (d + 2) 0 0 [.ref 74, .int x1, .int x2, .int x3] SH (I, F, L, RT t) (rI (sp_185 I x1 x2 x3) (I, F, L, RT t)) := by
  refine cn_185 ?_
  unfold sp_185
  refine bk_185_0 (cs_186 (d := d + 0) (p1) (p2)) ?_
  refine bk_185_6 (cs_186 (d := d + 0) (p3) (p4)) ?_
  refine bk_185_14 (cs_186 (d := d + 0) (p5) (p6)) ?_
  refine bk_185_22 (fun h0 => ?_) (fun h0 => ?_)
  · rw [if_pos h0]
    refine bk_185_69 (fun h1 => ?_) (fun h1 => ?_)
    · rw [if_pos h1]
      refine bk_185_96 (fun h2 => ?_) (fun h2 => ?_)
      · rw [if_pos h2]
        refine bk_185_126 ?_
        exact bk_185_128 ⟨rfl, rfl, rfl⟩
      · rw [if_neg h2]
        refine bk_185_106 (fun h3 => ?_) (fun h3 => ?_)
        · rw [if_pos h3]
          refine bk_185_126 ?_
          exact bk_185_128 ⟨rfl, rfl, rfl⟩
        · rw [if_neg h3]
          refine bk_185_117 ?_
          exact bk_185_128 ⟨rfl, rfl, rfl⟩
    · rw [if_neg h1]
      refine bk_185_89 ?_
      exact bk_185_128 ⟨rfl, rfl, rfl⟩
  · rw [if_neg h0]
    refine bk_185_34 (fun h1 => ?_) (fun h1 => ?_)
    · rw [if_pos h1]
      refine bk_185_46 ?_
      refine bk_185_48 (fun h2 => ?_) (fun h2 => ?_)
      · rw [if_pos h2]
        refine bk_185_63 ?_
        exact bk_185_65 ⟨rfl, rfl, rfl⟩
      · rw [if_neg h2]
        refine bk_185_58 ?_
        exact bk_185_65 ⟨rfl, rfl, rfl⟩
    · rw [if_neg h1]
      refine bk_185_41 ?_
      refine bk_185_48 (fun h2 => ?_) (fun h2 => ?_)
      · rw [if_pos h2]
        refine bk_185_63 ?_
        exact bk_185_65 ⟨rfl, rfl, rfl⟩
      · rw [if_neg h2]
        refine bk_185_58 ?_
        exact bk_185_65 ⟨rfl, rfl, rfl⟩
/-- VectorShelfModel.lowOfVector(I)F -/
def sp_218 (I : Nat → Nat → Int32) (x1 : Int32) : UInt32 := (sp_221 I (sp_219 I x1 (0 : Int32)) (sp_219 I x1 (1 : Int32)) (sp_219 I x1 (2 : Int32)))
theorem cs_218 {l : LX} {d : Nat} {I : Nat → Nat → Int32} {F : Nat → Nat → UInt32} {L : Nat → Nat → Int64} {t : Nat} {x1 : Int32} (p1 : ((vp_in ((3 * x1) + (0 : Int32)) 36))) (p2 : ((vp_in x1 12))) (p3 : ((vp_in ((3 * (I 86 x1.toNatClampNeg)) + (0 : Int32)) 12))) (p4 : (((¬ ((I 78 0) : Int32) = 0)))) (p5 : (vp_in x1 12)) (p6 : (vp_in ((3 * (I 86 x1.toNatClampNeg)) + (0 : Int32)) 12)) (p7 : (vp_in (0 : Int32) 3)) (p8 : ((vp_in ((3 * x1) + (1 : Int32)) 36))) (p9 : ((vp_in x1 12))) (p10 : ((vp_in ((3 * (I 86 x1.toNatClampNeg)) + (1 : Int32)) 12))) (p11 : (((¬ ((I 78 0) : Int32) = 0)))) (p12 : (vp_in x1 12)) (p13 : (vp_in ((3 * (I 86 x1.toNatClampNeg)) + (1 : Int32)) 12)) (p14 : (vp_in (1 : Int32) 3)) (p15 : ((vp_in ((3 * x1) + (2 : Int32)) 36))) (p16 : ((vp_in x1 12))) (p17 : ((vp_in ((3 * (I 86 x1.toNatClampNeg)) + (2 : Int32)) 12))) (p18 : (((¬ ((I 78 0) : Int32) = 0)))) (p19 : (vp_in x1 12)) (p20 : (vp_in ((3 * (I 86 x1.toNatClampNeg)) + (2 : Int32)) 12)) (p21 : (vp_in (2 : Int32) 3)) (p22 : ((((sp_187 I) = 0) → (¬ ((I 78 3) = 2)) → (¬ (I 78 3) = 4) → vf_n32 (FP.fmul (FP.i2f (sp_219 I x1 (0 : Int32))) (FP.i2f (sp_219 I x1 (0 : Int32))))))) (p23 : ((((sp_187 I) = 0) → (¬ ((I 78 3) = 2)) → (¬ (I 78 3) = 4) → (¬ (I 78 3) = 0) → vp_in (4 + (0 : Int32)) 7))) (p24 : ((((sp_187 I) = 0) → (¬ ((I 78 3) = 2)) → (¬ (I 78 3) = 4) → (¬ (I 78 3) = 0) → vf_n32 (FP.fmul (FP.fmul (FP.i2f (sp_219 I x1 (0 : Int32))) (FP.i2f (sp_219 I x1 (0 : Int32)))) (FP.i2f (I 78 (4 + (0 : Int32)).toNatClampNeg)))))) (p25 : (((¬ ((sp_187 I) = 0)) → (¬ ((I 78 3) = 2)) → (¬ (I 78 3) = 4) → vf_n32 (FP.fmul (FP.i2f (sp_188 I (sp_219 I x1 (0 : Int32)))) (FP.i2f (sp_188 I (sp_219 I x1 (0 : Int32)))))))) (p26 : (((¬ ((sp_187 I) = 0)) → (¬ ((I 78 3) = 2)) → (¬ (I 78 3) = 4) → (¬ (I 78 3) = 0) → vp_in (4 + (0 : Int32)) 7))) (p27 : (((¬ ((sp_187 I) = 0)) → (¬ ((I 78 3) = 2)) → (¬ (I 78 3) = 4) → (¬ (I 78 3) = 0) → vf_n32 (FP.fmul (FP.fmul (FP.i2f (sp_188 I (sp_219 I x1 (0 : Int32)))) (FP.i2f (sp_188 I (sp_219 I x1 (0 : Int32))))) (FP.i2f (I 78 (4 + (0 : Int32)).toNatClampNeg)))))) (p28 : ((((sp_187 I) = 0) → (¬ ((I 78 3) = 2)) → (¬ (I 78 3) = 4) → vf_n32 (FP.fmul (FP.i2f (sp_219 I x1 (1 : Int32))) (FP.i2f (sp_219 I x1 (1 : Int32))))))) (p29 : ((((sp_187 I) = 0) → (¬ ((I 78 3) = 2)) → (¬ (I 78 3) = 4) → (¬ (I 78 3) = 0) → vp_in (4 + (1 : Int32)) 7))) (p30 : ((((sp_187 I) = 0) → (¬ ((I 78 3) = 2)) → (¬ (I 78 3) = 4) → (¬ (I 78 3) = 0) → vf_n32 (FP.fmul (FP.fmul (FP.i2f (sp_219 I x1 (1 : Int32))) (FP.i2f (sp_219 I x1 (1 : Int32)))) (FP.i2f (I 78 (4 + (1 : Int32)).toNatClampNeg)))))) (p31 : (((¬ ((sp_187 I) = 0)) → (¬ ((I 78 3) = 2)) → (¬ (I 78 3) = 4) → vf_n32 (FP.fmul (FP.i2f (sp_188 I (sp_219 I x1 (1 : Int32)))) (FP.i2f (sp_188 I (sp_219 I x1 (1 : Int32)))))))) (p32 : (((¬ ((sp_187 I) = 0)) → (¬ ((I 78 3) = 2)) → (¬ (I 78 3) = 4) → (¬ (I 78 3) = 0) → vp_in (4 + (1 : Int32)) 7))) (p33 : (((¬ ((sp_187 I) = 0)) → (¬ ((I 78 3) = 2)) → (¬ (I 78 3) = 4) → (¬ (I 78 3) = 0) → vf_n32 (FP.fmul (FP.fmul (FP.i2f (sp_188 I (sp_219 I x1 (1 : Int32)))) (FP.i2f (sp_188 I (sp_219 I x1 (1 : Int32))))) (FP.i2f (I 78 (4 + (1 : Int32)).toNatClampNeg)))))) (p34 : ((((sp_187 I) = 0) → (¬ ((I 78 3) = 2)) → (¬ (I 78 3) = 4) → vf_n32 (FP.fmul (FP.i2f (sp_219 I x1 (2 : Int32))) (FP.i2f (sp_219 I x1 (2 : Int32))))))) (p35 : ((((sp_187 I) = 0) → (¬ ((I 78 3) = 2)) → (¬ (I 78 3) = 4) → (¬ (I 78 3) = 0) → vp_in (4 + (2 : Int32)) 7))) (p36 : ((((sp_187 I) = 0) → (¬ ((I 78 3) = 2)) → (¬ (I 78 3) = 4) → (¬ (I 78 3) = 0) → vf_n32 (FP.fmul (FP.fmul (FP.i2f (sp_219 I x1 (2 : Int32))) (FP.i2f (sp_219 I x1 (2 : Int32)))) (FP.i2f (I 78 (4 + (2 : Int32)).toNatClampNeg)))))) (p37 : (((¬ ((sp_187 I) = 0)) → (¬ ((I 78 3) = 2)) → (¬ (I 78 3) = 4) → vf_n32 (FP.fmul (FP.i2f (sp_188 I (sp_219 I x1 (2 : Int32)))) (FP.i2f (sp_188 I (sp_219 I x1 (2 : Int32)))))))) (p38 : (((¬ ((sp_187 I) = 0)) → (¬ ((I 78 3) = 2)) → (¬ (I 78 3) = 4) → (¬ (I 78 3) = 0) → vp_in (4 + (2 : Int32)) 7))) (p39 : (((¬ ((sp_187 I) = 0)) → (¬ ((I 78 3) = 2)) → (¬ (I 78 3) = 4) → (¬ (I 78 3) = 0) → vf_n32 (FP.fmul (FP.fmul (FP.i2f (sp_188 I (sp_219 I x1 (2 : Int32)))) (FP.i2f (sp_188 I (sp_219 I x1 (2 : Int32))))) (FP.i2f (I 78 (4 + (2 : Int32)).toNatClampNeg)))))) (p40 : ((¬ (I 78 3) = 4) → vf_n32 (FP.fadd (sp_222 I (sp_219 I x1 (0 : Int32)) (0 : Int32)) (sp_222 I (sp_219 I x1 (1 : Int32)) (1 : Int32))))) (p41 : ((¬ (I 78 3) = 4) → vf_n32 (FP.fadd (FP.fadd (sp_222 I (sp_219 I x1 (0 : Int32)) (0 : Int32)) (sp_222 I (sp_219 I x1 (1 : Int32)) (1 : Int32))) (sp_222 I (sp_219 I x1 (2 : Int32)) (2 : Int32))))) (p42 : ((¬ (I 78 3) = 4) → (¬ (I 78 3) = 2) → (¬ (I 78 3) = 5) → vf_n32 (FP.fmul (FP.fadd (FP.fadd (sp_222 I (sp_219 I x1 (0 : Int32)) (0 : Int32)) (sp_222 I (sp_219 I x1 (1 : Int32)) (1 : Int32))) (sp_222 I (sp_219 I x1 (2 : Int32)) (2 : Int32))) 1065353200))) (p43 : ((¬ (I 78 3) = 4) → (¬ (I 78 3) = 2) → (¬ (¬ (I 78 3) = 5)) → ((Op.cmpValue (FP.fcmp (FP.fadd (FP.fadd (sp_222 I (sp_219 I x1 (0 : Int32)) (0 : Int32)) (sp_222 I (sp_219 I x1 (1 : Int32)) (1 : Int32))) (sp_222 I (sp_219 I x1 (2 : Int32)) (2 : Int32))) (FP.i2f (I 78 2))) .l) ≤ 0) → vf_n32 (FP.fmul (FP.fadd (FP.fadd (sp_222 I (sp_219 I x1 (0 : Int32)) (0 : Int32)) (sp_222 I (sp_219 I x1 (1 : Int32)) (1 : Int32))) (sp_222 I (sp_219 I x1 (2 : Int32)) (2 : Int32))) 1065353200))) (p44 : ((¬ (I 78 3) = 4) → (¬ (I 78 3) = 2) → (¬ (¬ (I 78 3) = 5)) → (¬ ((Op.cmpValue (FP.fcmp (FP.fadd (FP.fadd (sp_222 I (sp_219 I x1 (0 : Int32)) (0 : Int32)) (sp_222 I (sp_219 I x1 (1 : Int32)) (1 : Int32))) (sp_222 I (sp_219 I x1 (2 : Int32)) (2 : Int32))) (FP.i2f (I 78 2))) .l) ≤ 0)) → vf_n32 (FP.fmul (FP.i2f (I 78 2)) 1065353200))) (p45 : ((¬ (I 78 3) = 4) → (¬ (¬ (I 78 3) = 2)) → vf_n32 (FP.fmul 1082130432 (FP.fadd (FP.fadd (sp_222 I (sp_219 I x1 (0 : Int32)) (0 : Int32)) (sp_222 I (sp_219 I x1 (1 : Int32)) (1 : Int32))) (sp_222 I (sp_219 I x1 (2 : Int32)) (2 : Int32)))))) (p46 : ((¬ (I 78 3) = 4) → (¬ (¬ (I 78 3) = 2)) → vf_n32 (FP.fmul (FP.fmul 1082130432 (FP.fadd (FP.fadd (sp_222 I (sp_219 I x1 (0 : Int32)) (0 : Int32)) (sp_222 I (sp_219 I x1 (1 : Int32)) (1 : Int32))) (sp_222 I (sp_219 I x1 (2 : Int32)) (2 : Int32)))) 1065353200))) (p47 : ((¬ (¬ (I 78 3) = 4)) → ((Op.cmpValue (FP.fcmp (sp_222 I (sp_219 I x1 (0 : Int32)) (0 : Int32)) (sp_222 I (sp_219 I x1 (1 : Int32)) (1 : Int32))) .l) ≤ 0) → ((Op.cmpValue (FP.fcmp (sp_222 I (sp_219 I x1 (1 : Int32)) (1 : Int32)) (sp_222 I (sp_219 I x1 (2 : Int32)) (2 : Int32))) .l) ≤ 0) → vf_n32 (FP.fmul 1082130432 (sp_222 I (sp_219 I x1 (2 : Int32)) (2 : Int32))))) (p48 : ((¬ (¬ (I 78 3) = 4)) → ((Op.cmpValue (FP.fcmp (sp_222 I (sp_219 I x1 (0 : Int32)) (0 : Int32)) (sp_222 I (sp_219 I x1 (1 : Int32)) (1 : Int32))) .l) ≤ 0) → ((Op.cmpValue (FP.fcmp (sp_222 I (sp_219 I x1 (1 : Int32)) (1 : Int32)) (sp_222 I (sp_219 I x1 (2 : Int32)) (2 : Int32))) .l) ≤ 0) → vf_n32 (FP.fadd (FP.fmul 1082130432 (sp_222 I (sp_219 I x1 (2 : Int32)) (2 : Int32))) FP.fconst1))) (p49 : ((¬ (¬ (I 78 3) = 4)) → ((Op.cmpValue (FP.fcmp (sp_222 I (sp_219 I x1 (0 : Int32)) (0 : Int32)) (sp_222 I (sp_219 I x1 (1 : Int32)) (1 : Int32))) .l) ≤ 0) → ((Op.cmpValue (FP.fcmp (sp_222 I (sp_219 I x1 (1 : Int32)) (1 : Int32)) (sp_222 I (sp_219 I x1 (2 : Int32)) (2 : Int32))) .l) ≤ 0) → vf_n32 (FP.fmul (FP.fadd (FP.fmul 1082130432 (sp_222 I (sp_219 I x1 (2 : Int32)) (2 : Int32))) FP.fconst1) 1065353200))) (p50 : ((¬ (¬ (I 78 3) = 4)) → ((Op.cmpValue (FP.fcmp (sp_222 I (sp_219 I x1 (0 : Int32)) (0 : Int32)) (sp_222 I (sp_219 I x1 (1 : Int32)) (1 : Int32))) .l) ≤ 0) → (¬ ((Op.cmpValue (FP.fcmp (sp_222 I (sp_219 I x1 (1 : Int32)) (1 : Int32)) (sp_222 I (sp_219 I x1 (2 : Int32)) (2 : Int32))) .l) ≤ 0)) → vf_n32 (FP.fmul 1082130432 (sp_222 I (sp_219 I x1 (1 : Int32)) (1 : Int32))))) (p51 : ((¬ (¬ (I 78 3) = 4)) → ((Op.cmpValue (FP.fcmp (sp_222 I (sp_219 I x1 (0 : Int32)) (0 : Int32)) (sp_222 I (sp_219 I x1 (1 : Int32)) (1 : Int32))) .l) ≤ 0) → (¬ ((Op.cmpValue (FP.fcmp (sp_222 I (sp_219 I x1 (1 : Int32)) (1 : Int32)) (sp_222 I (sp_219 I x1 (2 : Int32)) (2 : Int32))) .l) ≤ 0)) → vf_n32 (FP.fadd (FP.fmul 1082130432 (sp_222 I (sp_219 I x1 (1 : Int32)) (1 : Int32))) FP.fconst1))) (p52 : ((¬ (¬ (I 78 3) = 4)) → ((Op.cmpValue (FP.fcmp (sp_222 I (sp_219 I x1 (0 : Int32)) (0 : Int32)) (sp_222 I (sp_219 I x1 (1 : Int32)) (1 : Int32))) .l) ≤ 0) → (¬ ((Op.cmpValue (FP.fcmp (sp_222 I (sp_219 I x1 (1 : Int32)) (1 : Int32)) (sp_222 I (sp_219 I x1 (2 : Int32)) (2 : Int32))) .l) ≤ 0)) → vf_n32 (FP.fmul (FP.fadd (FP.fmul 1082130432 (sp_222 I (sp_219 I x1 (1 : Int32)) (1 : Int32))) FP.fconst1) 1065353200))) (p53 : ((¬ (¬ (I 78 3) = 4)) → (¬ ((Op.cmpValue (FP.fcmp (sp_222 I (sp_219 I x1 (0 : Int32)) (0 : Int32)) (sp_222 I (sp_219 I x1 (1 : Int32)) (1 : Int32))) .l) ≤ 0)) → ((Op.cmpValue (FP.fcmp (sp_222 I (sp_219 I x1 (0 : Int32)) (0 : Int32)) (sp_222 I (sp_219 I x1 (2 : Int32)) (2 : Int32))) .l) ≤ 0) → vf_n32 (FP.fmul 1082130432 (sp_222 I (sp_219 I x1 (2 : Int32)) (2 : Int32))))) (p54 : ((¬ (¬ (I 78 3) = 4)) → (¬ ((Op.cmpValue (FP.fcmp (sp_222 I (sp_219 I x1 (0 : Int32)) (0 : Int32)) (sp_222 I (sp_219 I x1 (1 : Int32)) (1 : Int32))) .l) ≤ 0)) → ((Op.cmpValue (FP.fcmp (sp_222 I (sp_219 I x1 (0 : Int32)) (0 : Int32)) (sp_222 I (sp_219 I x1 (2 : Int32)) (2 : Int32))) .l) ≤ 0) → vf_n32 (FP.fadd (FP.fmul 1082130432 (sp_222 I (sp_219 I x1 (2 : Int32)) (2 : Int32))) FP.fconst1))) (p55 : ((¬ (¬ (I 78 3) = 4)) → (¬ ((Op.cmpValue (FP.fcmp (sp_222 I (sp_219 I x1 (0 : Int32)) (0 : Int32)) (sp_222 I (sp_219 I x1 (1 : Int32)) (1 : Int32))) .l) ≤ 0)) → ((Op.cmpValue (FP.fcmp (sp_222 I (sp_219 I x1 (0 : Int32)) (0 : Int32)) (sp_222 I (sp_219 I x1 (2 : Int32)) (2 : Int32))) .l) ≤ 0) → vf_n32 (FP.fmul (FP.fadd (FP.fmul 1082130432 (sp_222 I (sp_219 I x1 (2 : Int32)) (2 : Int32))) FP.fconst1) 1065353200))) (p56 : ((¬ (¬ (I 78 3) = 4)) → (¬ ((Op.cmpValue (FP.fcmp (sp_222 I (sp_219 I x1 (0 : Int32)) (0 : Int32)) (sp_222 I (sp_219 I x1 (1 : Int32)) (1 : Int32))) .l) ≤ 0)) → (¬ ((Op.cmpValue (FP.fcmp (sp_222 I (sp_219 I x1 (0 : Int32)) (0 : Int32)) (sp_222 I (sp_219 I x1 (2 : Int32)) (2 : Int32))) .l) ≤ 0)) → vf_n32 (FP.fmul 1082130432 (sp_222 I (sp_219 I x1 (0 : Int32)) (0 : Int32))))) (p57 : ((¬ (¬ (I 78 3) = 4)) → (¬ ((Op.cmpValue (FP.fcmp (sp_222 I (sp_219 I x1 (0 : Int32)) (0 : Int32)) (sp_222 I (sp_219 I x1 (1 : Int32)) (1 : Int32))) .l) ≤ 0)) → (¬ ((Op.cmpValue (FP.fcmp (sp_222 I (sp_219 I x1 (0 : Int32)) (0 : Int32)) (sp_222 I (sp_219 I x1 (2 : Int32)) (2 : Int32))) .l) ≤ 0)) → vf_n32 (FP.fadd (FP.fmul 1082130432 (sp_222 I (sp_219 I x1 (0 : Int32)) (0 : Int32))) FP.fconst1))) (p58 : ((¬ (¬ (I 78 3) = 4)) → (¬ ((Op.cmpValue (FP.fcmp (sp_222 I (sp_219 I x1 (0 : Int32)) (0 : Int32)) (sp_222 I (sp_219 I x1 (1 : Int32)) (1 : Int32))) .l) ≤ 0)) → (¬ ((Op.cmpValue (FP.fcmp (sp_222 I (sp_219 I x1 (0 : Int32)) (0 : Int32)) (sp_222 I (sp_219 I x1 (2 : Int32)) (2 : Int32))) .l) ≤ 0)) → vf_n32 (FP.fmul (FP.fadd (FP.fmul 1082130432 (sp_222 I (sp_219 I x1 (0 : Int32)) (0 : Int32))) FP.fconst1) 1065353200))) : Con l 218 (d + 3) 0 0 [.ref 74, .int x1] SH (I, F, L, RT t) (rF (sp_218 I x1) (I, F, L, RT t)) := by
  refine cn_218 ?_
  unfold sp_218
  refine bk_218_0 (cs_219 (d := d + 0) (p1) (p2) (p3) (p4) (p5) (p6) (p7)) ?_
  refine bk_218_7 (cs_219 (d := d + 0) (p8) (p9) (p10) (p11) (p12) (p13) (p14)) ?_
  refine bk_218_13 (cs_219 (d := d + 0) (p15) (p16) (p17) (p18) (p19) (p20) (p21)) ?_
  refine bk_218_19 (cs_221 (d := d + 0) (p22) (p23) (p24) (p25) (p26) (p27) (p28) (p29) (p30) (p31) (p32) (p33) (p34) (p35) (p36) (p37) (p38) (p39) (p40) (p41) (p42) (p43) (p44) (p45) (p46) (p47) (p48) (p49) (p50) (p51) (p52) (p53) (p54) (p55) (p56) (p57) (p58)) ?_
  exact bk_218_22 ⟨rfl, rfl, rfl⟩
/-- VectorShelfModel.between(II)I -/
def sp_183 (I : Nat → Nat → Int32) (x1 : Int32) (x2 : Int32) : Int32 := (sp_185 I (sp_184 (I 84 (3 * x1).toNatClampNeg) (I 84 (3 * x2).toNatClampNeg)) (sp_184 (I 84 ((3 * x1) + 1).toNatClampNeg) (I 84 ((3 * x2) + 1).toNatClampNeg)) (sp_184 (I 84 ((3 * x1) + 2).toNatClampNeg) (I 84 ((3 * x2) + 2).toNatClampNeg)))
theorem cs_183 {l : LX} {d : Nat} {I : Nat → Nat → Int32} {F : Nat → Nat → UInt32} {L : Nat → Nat → Int64} {t : Nat} {x1 : Int32} {x2 : Int32} (p1 : vp_in (3 * x1) 36) (p2 : vp_in (3 * x2) 36) (p3 : vp_in ((3 * x1) + 1) 36) (p4 : vp_in ((3 * x2) + 1) 36) (p5 : vp_in ((3 * x1) + 2) 36) (p6 : vp_in ((3 * x2) + 2) 36) (p7 : ((((sp_187 I) = 0) → (¬ ((I 78 3) = 2)) → (¬ (I 78 3) = 4) → (¬ (I 78 3) = 0) → vp_in (4 + (0 : Int32)) 7))) (p8 : (((¬ ((sp_187 I) = 0)) → (¬ ((I 78 3) = 2)) → (¬ (I 78 3) = 4) → (¬ (I 78 3) = 0) → vp_in (4 + (0 : Int32)) 7))) (p9 : ((((sp_187 I) = 0) → (¬ ((I 78 3) = 2)) → (¬ (I 78 3) = 4) → (¬ (I 78 3) = 0) → vp_in (4 + (1 : Int32)) 7))) (p10 : (((¬ ((sp_187 I) = 0)) → (¬ ((I 78 3) = 2)) → (¬ (I 78 3) = 4) → (¬ (I 78 3) = 0) → vp_in (4 + (1 : Int32)) 7))) (p11 : ((((sp_187 I) = 0) → (¬ ((I 78 3) = 2)) → (¬ (I 78 3) = 4) → (¬ (I 78 3) = 0) → vp_in (4 + (2 : Int32)) 7))) (p12 : (((¬ ((sp_187 I) = 0)) → (¬ ((I 78 3) = 2)) → (¬ (I 78 3) = 4) → (¬ (I 78 3) = 0) → vp_in (4 + (2 : Int32)) 7))) : Con l 183 (d + 3) 0 0 [.ref 74, .int x1, .int x2] SH (I, F, L, RT t) (rI (sp_183 I x1 x2) (I, F, L, RT t)) := by
  refine cn_183 ?_
  unfold sp_183
  refine bk_183_0 p1 p2 (cs_184 (d := d + 2) ) ?_
  refine bk_183_20 p3 p4 (cs_184 (d := d + 2) ) ?_
  refine bk_183_43 p5 p6 (cs_184 (d := d + 2) ) ?_
  refine bk_183_66 (cs_185 (d := d + 0) (p7) (p8) (p9) (p10) (p11) (p12)) ?_
  exact bk_183_69 ⟨rfl, rfl, rfl⟩
/-- VectorShelfModel.apart(II)I -/
def sp_182 (I : Nat → Nat → Int32) (x1 : Int32) (x2 : Int32) : Int32 := (if (sp_179 I x1) = 0 then (-2) else (if (sp_179 I x2) = 0 then (-2) else (sp_183 I x1 x2)))
theorem cs_182 {l : LX} {d : Nat} {I : Nat → Nat → Int32} {F : Nat → Nat → UInt32} {L : Nat → Nat → Int64} {t : Nat} {x1 : Int32} {x2 : Int32} (p1 : (¬ ((sp_179 I x1) = 0)) → (¬ ((sp_179 I x2) = 0)) → (vp_in (3 * x1) 36)) (p2 : (¬ ((sp_179 I x1) = 0)) → (¬ ((sp_179 I x2) = 0)) → (vp_in (3 * x2) 36)) (p3 : (¬ ((sp_179 I x1) = 0)) → (¬ ((sp_179 I x2) = 0)) → (vp_in ((3 * x1) + 1) 36)) (p4 : (¬ ((sp_179 I x1) = 0)) → (¬ ((sp_179 I x2) = 0)) → (vp_in ((3 * x2) + 1) 36)) (p5 : (¬ ((sp_179 I x1) = 0)) → (¬ ((sp_179 I x2) = 0)) → (vp_in ((3 * x1) + 2) 36)) (p6 : (¬ ((sp_179 I x1) = 0)) → (¬ ((sp_179 I x2) = 0)) → (vp_in ((3 * x2) + 2) 36)) (p7 : (¬ ((sp_179 I x1) = 0)) → (¬ ((sp_179 I x2) = 0)) → (((((sp_187 I) = 0) → (¬ ((I 78 3) = 2)) → (¬ (I 78 3) = 4) → (¬ (I 78 3) = 0) → vp_in (4 + (0 : Int32)) 7)))) (p8 : (¬ ((sp_179 I x1) = 0)) → (¬ ((sp_179 I x2) = 0)) → ((((¬ ((sp_187 I) = 0)) → (¬ ((I 78 3) = 2)) → (¬ (I 78 3) = 4) → (¬ (I 78 3) = 0) → vp_in (4 + (0 : Int32)) 7)))) (p9 : (¬ ((sp_179 I x1) = 0)) → (¬ ((sp_179 I x2) = 0)) → (((((sp_187 I) = 0) → (¬ ((I 78 3) = 2)) → (¬ (I 78 3) = 4) → (¬ (I 78 3) = 0) → vp_in (4 + (1 : Int32)) 7)))) (p10 : (¬ ((sp_179 I x1) = 0)) → (¬ ((sp_179 I x2) = 0)) → ((((¬ ((sp_187 I) = 0)) → (¬ ((I 78 3) = 2)) → (¬ (I 78 3) = 4) → (¬ (I 78 3) = 0) → vp_in (4 + (1 : Int32)) 7)))) (p11 : (¬ ((sp_179 I x1) = 0)) → (¬ ((sp_179 I x2) = 0)) → (((((sp_187 I) = 0) → (¬ ((I 78 3) = 2)) → (¬ (I 78 3) = 4) → (¬ (I 78 3) = 0) → vp_in (4 + (2 : Int32)) 7)))) (p12 : (¬ ((sp_179 I x1) = 0)) → (¬ ((sp_179 I x2) = 0)) → ((((¬ ((sp_187 I) = 0)) → (¬ ((I 78 3) = 2)) → (¬ (I 78 3) = 4) → (¬ (I 78 3) = 0) → vp_in (4 + (2 : Int32)) 7)))) : Con l 182 (d + 4) 0 0 [.ref 74, .int x1, .int x2] SH (I, F, L, RT t) (rI (sp_182 I x1 x2) (I, F, L, RT t)) := by
  refine cn_182 ?_
  unfold sp_182
  refine bk_182_0 (cs_179 (d := d + 2) ) ?_
  refine bk_182_5 (fun h0 => ?_) (fun h0 => ?_)
  · rw [if_pos h0]
    refine bk_182_25 ?_
    exact bk_182_27 ⟨rfl, rfl, rfl⟩
  · rw [if_neg h0]
    refine bk_182_8 (cs_179 (d := d + 2) ) ?_
    refine bk_182_13 (fun h1 => ?_) (fun h1 => ?_)
    · rw [if_pos h1]
      refine bk_182_25 ?_
      exact bk_182_27 ⟨rfl, rfl, rfl⟩
    · rw [if_neg h1]
      refine bk_182_16 (cs_183 (d := d + 0) (p1 h0 h1) (p2 h0 h1) (p3 h0 h1) (p4 h0 h1) (p5 h0 h1) (p6 h0 h1) (p7 h0 h1) (p8 h0 h1) (p9 h0 h1) (p10 h0 h1) (p11 h0 h1) (p12 h0 h1)) ?_
      refine bk_182_22 ?_
      exact bk_182_27 ⟨rfl, rfl, rfl⟩
end
