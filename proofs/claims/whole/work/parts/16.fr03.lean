section
theorem frF_lp_35_30 {F : WF} {x1 : Int32} {r2 : Nat} {c k : Nat} (w0 : c = 38 → k ≠ 3 ∧ k ≠ 4 ∧ k ≠ 5 ∧ k ≠ 6) (w1 : c ≠ 40) (w2 : c ≠ 41) : ∀ n (x4 : Int32) (x5 : Int32) (I : WI), (lp_35_30 F x1 r2 n x4 x5 I).2 c k = F c k := by
  intro n
  induction n with
  | zero => intros; rfl
  | succ n ih =>
    intro x4 x5 I
    simp only [lp_35_30, bx]
    repeat' split
    all_goals simp (disch := omega) only [bx, up2_nk, upR_nk, ih]
theorem frI_v_35 {I : WI} {F : WF} {x1 : Int32} {r2 : Nat} {c k : Nat} (w0 : c = 38 → k ≠ 3 ∧ k ≠ 4 ∧ k ≠ 5 ∧ k ≠ 6) (w1 : c ≠ 39) (w2 : c ≠ 40) (w3 : c ≠ 41) : (v_35 I F x1 r2).1 c k = I c k := by
  unfold v_35
  try simp only [bx]
  repeat' split
  all_goals first | (with_reducible rfl) | simp (disch := omega) only [bx, up2_nk, upR_nk, frI_lp_35_30]
theorem frF_v_35 {I : WI} {F : WF} {x1 : Int32} {r2 : Nat} {c k : Nat} (w0 : c = 38 → k ≠ 3 ∧ k ≠ 4 ∧ k ≠ 5 ∧ k ≠ 6) (w1 : c ≠ 39) (w2 : c ≠ 40) (w3 : c ≠ 41) : (v_35 I F x1 r2).2 c k = F c k := by
  unfold v_35
  try simp only [bx]
  repeat' split
  all_goals first | (with_reducible rfl) | simp (disch := omega) only [bx, up2_nk, upR_nk, frF_lp_35_30, frF_v_36]
theorem frI_v_113 {I : WI} {x1 : Int32} {x2 : Int32} {c k : Nat} (w0 : c = 35 → k ≠ 1 ∧ k ≠ 2) (w1 : c ≠ 36) (w2 : c ≠ 37) : (v_113 I x1 x2).2 c k = I c k := by
  unfold v_113
  refine ite_gen (P := fun z : Int32 × WI => z.2 c k = I c k) (fun _ => ?_) (fun _ => ?_)
  · skip
    first | assumption | simp (disch := omega) only [bx, up2_nk, upR_nk, frI_v_114]
  · skip
    refine ite_gen (P := fun z : Int32 × WI => z.2 c k = I c k) (fun _ => ?_) (fun _ => ?_)
    · skip
      refine ite_gen (P := fun z : Int32 × WI => z.2 c k = I c k) (fun _ => ?_) (fun _ => ?_)
      · skip
        refine bx_gen (P := fun z : Int32 × WI => z.2 c k = I c k) ?_
        intro p1 hp1
        clear hp1
        refine ite_gen (P := fun z : Int32 × WI => z.2 c k = I c k) (fun _ => ?_) (fun _ => ?_)
        · skip
          first | assumption | simp (disch := omega) only [bx, up2_nk, upR_nk, frI_v_114]
        · skip
          refine ite_gen (P := fun z : Int32 × WI => z.2 c k = I c k) (fun _ => ?_) (fun _ => ?_)
          · skip
            refine ite_gen (P := fun z : Int32 × WI => z.2 c k = I c k) (fun _ => ?_) (fun _ => ?_)
            · skip
              first | assumption | simp (disch := omega) only [bx, up2_nk, upR_nk, frI_v_114]
            · skip
              first | assumption | simp (disch := omega) only [bx, up2_nk, upR_nk, frI_v_114]
          · skip
            refine ite_gen (P := fun z : Int32 × WI => z.2 c k = I c k) (fun _ => ?_) (fun _ => ?_)
            · skip
              first | assumption | simp (disch := omega) only [bx, up2_nk, upR_nk, frI_v_114]
            · skip
              refine ite_gen (P := fun z : Int32 × WI => z.2 c k = I c k) (fun _ => ?_) (fun _ => ?_)
              · skip
                refine ite_gen (P := fun z : Int32 × WI => z.2 c k = I c k) (fun _ => ?_) (fun _ => ?_)
                · skip
                  first | assumption | simp (disch := omega) only [bx, up2_nk, upR_nk, frI_v_114]
                · skip
                  first | assumption | simp (disch := omega) only [bx, up2_nk, upR_nk, frI_v_114]
              · skip
                refine ite_gen (P := fun z : Int32 × WI => z.2 c k = I c k) (fun _ => ?_) (fun _ => ?_)
                · skip
                  refine ite_gen (P := fun z : Int32 × WI => z.2 c k = I c k) (fun _ => ?_) (fun _ => ?_)
                  · skip
                    first | assumption | simp (disch := omega) only [bx, up2_nk, upR_nk, frI_v_114]
                  · skip
                    first | assumption | simp (disch := omega) only [bx, up2_nk, upR_nk, frI_v_114]
                · skip
                  refine ite_gen (P := fun z : Int32 × WI => z.2 c k = I c k) (fun _ => ?_) (fun _ => ?_)
                  · skip
                    refine ite_gen (P := fun z : Int32 × WI => z.2 c k = I c k) (fun _ => ?_) (fun _ => ?_)
                    · skip
                      first | assumption | simp (disch := omega) only [bx, up2_nk, upR_nk, frI_v_114]
                    · skip
                      first | assumption | simp (disch := omega) only [bx, up2_nk, upR_nk, frI_v_114]
                  · skip
                    refine ite_gen (P := fun z : Int32 × WI => z.2 c k = I c k) (fun _ => ?_) (fun _ => ?_)
                    · skip
                      refine bx_gen (P := fun z : Int32 × WI => z.2 c k = I c k) ?_
                      intro p2 hp2
                      have fp2 : p2.2 c k = I c k := by rw [hp2]; simp (disch := omega) only [bx, up2_nk, upR_nk, frI_v_114]
                      clear hp2
                      first | assumption | simp (disch := omega) only [bx, up2_nk, upR_nk, frI_v_114, fp2]
                    · skip
                      refine ite_gen (P := fun z : Int32 × WI => z.2 c k = I c k) (fun _ => ?_) (fun _ => ?_)
                      · skip
                        refine bx_gen (P := fun z : Int32 × WI => z.2 c k = I c k) ?_
                        intro p3 hp3
                        have fp3 : p3.2 c k = I c k := by rw [hp3]; simp (disch := omega) only [bx, up2_nk, upR_nk, frI_v_114]
                        clear hp3
                        first | assumption | simp (disch := omega) only [bx, up2_nk, upR_nk, frI_v_114, fp3]
                      · skip
                        refine ite_gen (P := fun z : Int32 × WI => z.2 c k = I c k) (fun _ => ?_) (fun _ => ?_)
                        · skip
                          refine bx_gen (P := fun z : Int32 × WI => z.2 c k = I c k) ?_
                          intro p4 hp4
                          have fp4 : p4.2 c k = I c k := by rw [hp4]; simp (disch := omega) only [bx, up2_nk, upR_nk, frI_v_114]
                          clear hp4
                          first | assumption | simp (disch := omega) only [bx, up2_nk, upR_nk, frI_v_114, fp4]
                        · skip
                          refine ite_gen (P := fun z : Int32 × WI => z.2 c k = I c k) (fun _ => ?_) (fun _ => ?_)
                          · skip
                            refine ite_gen (P := fun z : Int32 × WI => z.2 c k = I c k) (fun _ => ?_) (fun _ => ?_)
                            · skip
                              first | assumption | simp (disch := omega) only [bx, up2_nk, upR_nk, frI_v_114]
                            · skip
                              first | assumption | simp (disch := omega) only [bx, up2_nk, upR_nk, frI_v_114]
                          · skip
                            refine bx_gen (P := fun z : Int32 × WI => z.2 c k = I c k) ?_
                            intro p5 hp5
                            have fp5 : p5.2 c k = I c k := by rw [hp5]; simp (disch := omega) only [bx, up2_nk, upR_nk, frI_v_114]
                            clear hp5
                            first | assumption | simp (disch := omega) only [bx, up2_nk, upR_nk, frI_v_114, fp5]
      · skip
        first | assumption | simp (disch := omega) only [bx, up2_nk, upR_nk, frI_v_114]
    · skip
      first | assumption | simp (disch := omega) only [bx, up2_nk, upR_nk, frI_v_114]
theorem frI_v_119 {I : WI} {x1 : Int32} {x2 : Int32} {x3 : Int32} {c k : Nat} (w0 : c = 35 → k ≠ 1 ∧ k ≠ 2) (w1 : c ≠ 36) (w2 : c ≠ 37) (w3 : c = 4 → k ≠ 0 ∧ k ≠ 1 ∧ k ≠ 2) : (v_119 I x1 x2 x3).2 c k = I c k := by
  unfold v_119
  try simp only [bx]
  repeat' split
  all_goals first | (with_reducible rfl) | simp (disch := omega) only [bx, up2_nk, upR_nk, frI_v_120, frI_v_70]
theorem frI_v_128 {I : WI} {F : WF} {x1 : Int32} {x2 : Int32} {c k : Nat} (w0 : c = 35 → k ≠ 1 ∧ k ≠ 2) (w1 : c ≠ 36) (w2 : c ≠ 37) (w3 : c = 38 → k ≠ 3 ∧ k ≠ 4 ∧ k ≠ 5 ∧ k ≠ 6) (w4 : c ≠ 39) (w5 : c ≠ 40) (w6 : c ≠ 41) : (v_128 I F x1 x2).2.1 c k = I c k := by
  unfold v_128
  try simp only [bx]
  repeat' split
  all_goals first | (with_reducible rfl) | simp (disch := omega) only [bx, up2_nk, upR_nk, frI_v_12, frI_v_35]
theorem frF_v_128 {I : WI} {F : WF} {x1 : Int32} {x2 : Int32} {c k : Nat} (w0 : c = 35 → k ≠ 1 ∧ k ≠ 2) (w1 : c ≠ 36) (w2 : c ≠ 37) (w3 : c = 38 → k ≠ 3 ∧ k ≠ 4 ∧ k ≠ 5 ∧ k ≠ 6) (w4 : c ≠ 39) (w5 : c ≠ 40) (w6 : c ≠ 41) : (v_128 I F x1 x2).2.2 c k = F c k := by
  unfold v_128
  try simp only [bx]
  repeat' split
  all_goals first | (with_reducible rfl) | simp (disch := omega) only [bx, up2_nk, upR_nk, frF_v_35]
theorem frI_lp_140_57 {I : WI} {F : WF} {a2 : Int32} {c k : Nat} (w0 : c = 24 → k ≠ 0 ∧ k ≠ 1 ∧ k ≠ 2) (w1 : c = 38 → k ≠ 3 ∧ k ≠ 4 ∧ k ≠ 5 ∧ k ≠ 6) (w2 : c ≠ 39) (w3 : c ≠ 40) (w4 : c ≠ 41) : ∀ n, (lp_140_57 I F a2 n).2.1 c k = I c k := by
  intro n
  induction n with
  | zero => rfl
  | succ n ih =>
    simp only [lp_140_57, bx]
    repeat' split
    all_goals simp (disch := omega) only [bx, up2_nk, upR_nk, frI_v_35, frI_v_78, ih]
theorem frF_lp_140_57 {I : WI} {F : WF} {a2 : Int32} {c k : Nat} (w0 : c = 24 → k ≠ 0 ∧ k ≠ 1 ∧ k ≠ 2) (w1 : c = 38 → k ≠ 3 ∧ k ≠ 4 ∧ k ≠ 5 ∧ k ≠ 6) (w2 : c ≠ 39) (w3 : c ≠ 40) (w4 : c ≠ 41) : ∀ n, (lp_140_57 I F a2 n).2.2 c k = F c k := by
  intro n
  induction n with
  | zero => rfl
  | succ n ih =>
    simp only [lp_140_57, bx]
    repeat' split
    all_goals simp (disch := omega) only [bx, up2_nk, upR_nk, frF_v_35, ih]
theorem frI_v_140 {I : WI} {F : WF} {x1 : Int32} {c k : Nat} (w0 : c = 21 → k ≠ 1 ∧ k ≠ 2 ∧ k ≠ 4 ∧ k ≠ 8 ∧ k ≠ 12) (w1 : c = 22 → k ≠ 0 ∧ k ≠ 1 ∧ k ≠ 2) (w2 : c ≠ 23) (w3 : c ≠ 24) (w4 : c ≠ 25) (w5 : c ≠ 26) (w6 : c ≠ 27) (w7 : c ≠ 28) (w8 : c ≠ 29) (w9 : c ≠ 30) (w10 : c = 35 → k ≠ 1 ∧ k ≠ 2) (w11 : c ≠ 36) (w12 : c ≠ 37) (w13 : c = 38 → k ≠ 3 ∧ k ≠ 4 ∧ k ≠ 5 ∧ k ≠ 6) (w14 : c ≠ 39) (w15 : c ≠ 40) (w16 : c ≠ 41) : (v_140 I F x1).2.1 c k = I c k := by
  unfold v_140
  try simp only [bx]
  repeat' split
  all_goals first | (with_reducible rfl) | simp (disch := omega) only [bx, up2_nk, upR_nk, frI_lp_140_57, frI_v_12, frI_v_76]
theorem frF_v_140 {I : WI} {F : WF} {x1 : Int32} {c k : Nat} (w0 : c = 21 → k ≠ 1 ∧ k ≠ 2 ∧ k ≠ 4 ∧ k ≠ 8 ∧ k ≠ 12) (w1 : c = 22 → k ≠ 0 ∧ k ≠ 1 ∧ k ≠ 2) (w2 : c ≠ 23) (w3 : c ≠ 24) (w4 : c ≠ 25) (w5 : c ≠ 26) (w6 : c ≠ 27) (w7 : c ≠ 28) (w8 : c ≠ 29) (w9 : c ≠ 30) (w10 : c = 35 → k ≠ 1 ∧ k ≠ 2) (w11 : c ≠ 36) (w12 : c ≠ 37) (w13 : c = 38 → k ≠ 3 ∧ k ≠ 4 ∧ k ≠ 5 ∧ k ≠ 6) (w14 : c ≠ 39) (w15 : c ≠ 40) (w16 : c ≠ 41) : (v_140 I F x1).2.2 c k = F c k := by
  unfold v_140
  try simp only [bx]
  repeat' split
  all_goals first | (with_reducible rfl) | simp (disch := omega) only [bx, up2_nk, upR_nk, frF_lp_140_57]
theorem frI_lp_142_70 {I : WI} {F : WF} {x1 : Int32} {x3 : Int32} {a5 : Int32} {c k : Nat} (w0 : c = 24 → k ≠ 0 ∧ k ≠ 1 ∧ k ≠ 2) (w1 : c = 38 → k ≠ 3 ∧ k ≠ 4 ∧ k ≠ 5 ∧ k ≠ 6) (w2 : c ≠ 39) (w3 : c ≠ 40) (w4 : c ≠ 41) : ∀ n, (lp_142_70 I F x1 x3 a5 n).2.1 c k = I c k := by
  intro n
  induction n with
  | zero => rfl
  | succ n ih =>
    simp only [lp_142_70, bx]
    repeat' split
    all_goals simp (disch := omega) only [bx, up2_nk, upR_nk, frI_v_35, frI_v_70, ih]
theorem frF_lp_142_70 {I : WI} {F : WF} {x1 : Int32} {x3 : Int32} {a5 : Int32} {c k : Nat} (w0 : c = 24 → k ≠ 0 ∧ k ≠ 1 ∧ k ≠ 2) (w1 : c = 38 → k ≠ 3 ∧ k ≠ 4 ∧ k ≠ 5 ∧ k ≠ 6) (w2 : c ≠ 39) (w3 : c ≠ 40) (w4 : c ≠ 41) : ∀ n, (lp_142_70 I F x1 x3 a5 n).2.2 c k = F c k := by
  intro n
  induction n with
  | zero => rfl
  | succ n ih =>
    simp only [lp_142_70, bx]
    repeat' split
    all_goals simp (disch := omega) only [bx, up2_nk, upR_nk, frF_v_35, ih]
theorem frI_v_142 {I : WI} {F : WF} {x1 : Int32} {x2 : Int32} {x3 : Int32} {x4 : Int32} {c k : Nat} (w0 : c = 21 → k ≠ 1 ∧ k ≠ 2 ∧ k ≠ 4 ∧ k ≠ 8 ∧ k ≠ 12) (w1 : c = 22 → k ≠ 0 ∧ k ≠ 1 ∧ k ≠ 2) (w2 : c ≠ 23) (w3 : c ≠ 24) (w4 : c ≠ 25) (w5 : c ≠ 26) (w6 : c ≠ 27) (w7 : c ≠ 28) (w8 : c ≠ 29) (w9 : c ≠ 30) (w10 : c = 35 → k ≠ 1 ∧ k ≠ 2) (w11 : c ≠ 36) (w12 : c ≠ 37) (w13 : c = 38 → k ≠ 3 ∧ k ≠ 4 ∧ k ≠ 5 ∧ k ≠ 6) (w14 : c ≠ 39) (w15 : c ≠ 40) (w16 : c ≠ 41) : (v_142 I F x1 x2 x3 x4).2.1 c k = I c k := by
  unfold v_142
  try simp only [bx]
  repeat' split
  all_goals first | (with_reducible rfl) | simp (disch := omega) only [bx, up2_nk, upR_nk, frI_lp_142_70, frI_v_12, frI_v_76]
theorem frF_v_142 {I : WI} {F : WF} {x1 : Int32} {x2 : Int32} {x3 : Int32} {x4 : Int32} {c k : Nat} (w0 : c = 21 → k ≠ 1 ∧ k ≠ 2 ∧ k ≠ 4 ∧ k ≠ 8 ∧ k ≠ 12) (w1 : c = 22 → k ≠ 0 ∧ k ≠ 1 ∧ k ≠ 2) (w2 : c ≠ 23) (w3 : c ≠ 24) (w4 : c ≠ 25) (w5 : c ≠ 26) (w6 : c ≠ 27) (w7 : c ≠ 28) (w8 : c ≠ 29) (w9 : c ≠ 30) (w10 : c = 35 → k ≠ 1 ∧ k ≠ 2) (w11 : c ≠ 36) (w12 : c ≠ 37) (w13 : c = 38 → k ≠ 3 ∧ k ≠ 4 ∧ k ≠ 5 ∧ k ≠ 6) (w14 : c ≠ 39) (w15 : c ≠ 40) (w16 : c ≠ 41) : (v_142 I F x1 x2 x3 x4).2.2 c k = F c k := by
  unfold v_142
  try simp only [bx]
  repeat' split
  all_goals first | (with_reducible rfl) | simp (disch := omega) only [bx, up2_nk, upR_nk, frF_lp_142_70]
theorem frI_v_145 {I : WI} {F : WF} {x1 : Int32} {x2 : Int32} {c k : Nat} (w0 : c = 21 → k ≠ 1 ∧ k ≠ 2 ∧ k ≠ 4 ∧ k ≠ 8 ∧ k ≠ 12) (w1 : c = 22 → k ≠ 0 ∧ k ≠ 1 ∧ k ≠ 2) (w2 : c ≠ 23) (w3 : c ≠ 24) (w4 : c ≠ 25) (w5 : c ≠ 26) (w6 : c ≠ 27) (w7 : c ≠ 28) (w8 : c ≠ 29) (w9 : c ≠ 30) (w10 : c = 35 → k ≠ 1 ∧ k ≠ 2) (w11 : c ≠ 36) (w12 : c ≠ 37) : (v_145 I F x1 x2).2 c k = I c k := by
  unfold v_145
  try simp only [bx]
  repeat' split
  all_goals first | (with_reducible rfl) | simp (disch := omega) only [bx, up2_nk, upR_nk, frI_v_12, frI_v_147, frI_v_148, frI_v_149, frI_v_150, frI_v_151, frI_v_76]
theorem frI_v_103 {rec : RECTC} {I : WI} {t : Nat} {x1 : Int32} {c k : Nat} (w0 : c ≠ (t + 1)) (w1 : c = 31 → k ≠ 2 ∧ k ≠ 3 ∧ k ≠ 4 ∧ k ≠ 5 ∧ k ≠ 6) (w2 : c = t → k ≠ 1) (hrec : ∀ s I x, rec s I t x c k = I c k) : (v_103 rec I t x1) c k = I c k := by
  unfold v_103
  refine ite_gen (P := fun z : WI => z c k = I c k) (fun _ => ?_) (fun _ => ?_)
  · skip
    refine bx_gen (P := fun z : WI => z c k = I c k) ?_
    intro p1 hp1
    have fp1 : p1 c k = I c k := by rw [hp1]; simp (disch := (first | assumption | omega)) only [bx, up2_nk, upR_nk, frI_v_81, frI_v_85, frI_v_95, frI_v_96, hrec]
    clear hp1
    refine bx_gen (P := fun z : WI => z c k = I c k) ?_
    intro p2 hp2
    have fp2 : p2 c k = I c k := by rw [hp2]; simp (disch := (first | assumption | omega)) only [bx, up2_nk, upR_nk, frI_v_81, frI_v_85, frI_v_95, frI_v_96, hrec, fp1]
    clear hp2
    first | assumption | simp (disch := (first | assumption | omega)) only [bx, up2_nk, upR_nk, frI_v_81, frI_v_85, frI_v_95, frI_v_96, hrec, fp1, fp2]
  · skip
    refine ite_gen (P := fun z : WI => z c k = I c k) (fun _ => ?_) (fun _ => ?_)
    · skip
      refine ite_gen (P := fun z : WI => z c k = I c k) (fun _ => ?_) (fun _ => ?_)
      · skip
        refine ite_gen (P := fun z : WI => z c k = I c k) (fun _ => ?_) (fun _ => ?_)
        · skip
          refine bx_gen (P := fun z : WI => z c k = I c k) ?_
          intro p3 hp3
          have fp3 : p3 c k = I c k := by rw [hp3]; simp (disch := (first | assumption | omega)) only [bx, up2_nk, upR_nk, frI_v_81, frI_v_85, frI_v_95, frI_v_96, hrec]
          clear hp3
          first | assumption | simp (disch := (first | assumption | omega)) only [bx, up2_nk, upR_nk, frI_v_81, frI_v_85, frI_v_95, frI_v_96, hrec, fp3]
        · skip
          refine ite_gen (P := fun z : WI => z c k = I c k) (fun _ => ?_) (fun _ => ?_)
          · skip
            refine bx_gen (P := fun z : WI => z c k = I c k) ?_
            intro p4 hp4
            have fp4 : p4 c k = I c k := by rw [hp4]; simp (disch := (first | assumption | omega)) only [bx, up2_nk, upR_nk, frI_v_81, frI_v_85, frI_v_95, frI_v_96, hrec]
            clear hp4
            first | assumption | simp (disch := (first | assumption | omega)) only [bx, up2_nk, upR_nk, frI_v_81, frI_v_85, frI_v_95, frI_v_96, hrec, fp4]
          · skip
            refine bx_gen (P := fun z : WI => z c k = I c k) ?_
            intro p5 hp5
            have fp5 : p5 c k = I c k := by rw [hp5]; simp (disch := (first | assumption | omega)) only [bx, up2_nk, upR_nk, frI_v_81, frI_v_85, frI_v_95, frI_v_96, hrec]
            clear hp5
            refine bx_gen (P := fun z : WI => z c k = I c k) ?_
            intro p6 hp6
            have fp6 : p6 c k = I c k := by rw [hp6]; simp (disch := (first | assumption | omega)) only [bx, up2_nk, upR_nk, frI_v_81, frI_v_85, frI_v_95, frI_v_96, hrec, fp5]
            clear hp6
            refine bx_gen (P := fun z : WI => z c k = I c k) ?_
            intro p7 hp7
            have fp7 : p7 c k = I c k := by rw [hp7]; simp (disch := (first | assumption | omega)) only [bx, up2_nk, upR_nk, frI_v_81, frI_v_85, frI_v_95, frI_v_96, hrec, fp5, fp6]
            clear hp7
            first | assumption | simp (disch := (first | assumption | omega)) only [bx, up2_nk, upR_nk, frI_v_81, frI_v_85, frI_v_95, frI_v_96, hrec, fp5, fp6, fp7]
      · skip
        refine ite_gen (P := fun z : WI => z c k = I c k) (fun _ => ?_) (fun _ => ?_)
        · skip
          refine ite_gen (P := fun z : WI => z c k = I c k) (fun _ => ?_) (fun _ => ?_)
          · skip
            refine bx_gen (P := fun z : WI => z c k = I c k) ?_
            intro p8 hp8
            have fp8 : p8 c k = I c k := by rw [hp8]; simp (disch := (first | assumption | omega)) only [bx, up2_nk, upR_nk, frI_v_81, frI_v_85, frI_v_95, frI_v_96, hrec]
            clear hp8
            first | assumption | simp (disch := (first | assumption | omega)) only [bx, up2_nk, upR_nk, frI_v_81, frI_v_85, frI_v_95, frI_v_96, hrec, fp8]
          · skip
            refine ite_gen (P := fun z : WI => z c k = I c k) (fun _ => ?_) (fun _ => ?_)
            · skip
              refine bx_gen (P := fun z : WI => z c k = I c k) ?_
              intro p9 hp9
              have fp9 : p9 c k = I c k := by rw [hp9]; simp (disch := (first | assumption | omega)) only [bx, up2_nk, upR_nk, frI_v_81, frI_v_85, frI_v_95, frI_v_96, hrec]
              clear hp9
              first | assumption | simp (disch := (first | assumption | omega)) only [bx, up2_nk, upR_nk, frI_v_81, frI_v_85, frI_v_95, frI_v_96, hrec, fp9]
            · skip
              refine bx_gen (P := fun z : WI => z c k = I c k) ?_
              intro p10 hp10
              have fp10 : p10 c k = I c k := by rw [hp10]; simp (disch := (first | assumption | omega)) only [bx, up2_nk, upR_nk, frI_v_81, frI_v_85, frI_v_95, frI_v_96, hrec]
              clear hp10
              refine bx_gen (P := fun z : WI => z c k = I c k) ?_
              intro p11 hp11
              have fp11 : p11 c k = I c k := by rw [hp11]; simp (disch := (first | assumption | omega)) only [bx, up2_nk, upR_nk, frI_v_81, frI_v_85, frI_v_95, frI_v_96, hrec, fp10]
              clear hp11
              refine bx_gen (P := fun z : WI => z c k = I c k) ?_
              intro p12 hp12
              have fp12 : p12 c k = I c k := by rw [hp12]; simp (disch := (first | assumption | omega)) only [bx, up2_nk, upR_nk, frI_v_81, frI_v_85, frI_v_95, frI_v_96, hrec, fp10, fp11]
              clear hp12
              first | assumption | simp (disch := (first | assumption | omega)) only [bx, up2_nk, upR_nk, frI_v_81, frI_v_85, frI_v_95, frI_v_96, hrec, fp10, fp11, fp12]
        · skip
          refine bx_gen (P := fun z : WI => z c k = I c k) ?_
          intro p13 hp13
          have fp13 : p13 c k = I c k := by rw [hp13]; simp (disch := (first | assumption | omega)) only [bx, up2_nk, upR_nk, frI_v_81, frI_v_85, frI_v_95, frI_v_96, hrec]
          clear hp13
          refine bx_gen (P := fun z : WI => z c k = I c k) ?_
          intro p14 hp14
          have fp14 : p14 c k = I c k := by rw [hp14]; simp (disch := (first | assumption | omega)) only [bx, up2_nk, upR_nk, frI_v_81, frI_v_85, frI_v_95, frI_v_96, hrec, fp13]
          clear hp14
          refine bx_gen (P := fun z : WI => z c k = I c k) ?_
          intro p15 hp15
          have fp15 : p15 c k = I c k := by rw [hp15]; simp (disch := (first | assumption | omega)) only [bx, up2_nk, upR_nk, frI_v_81, frI_v_85, frI_v_95, frI_v_96, hrec, fp13, fp14]
          clear hp15
          first | assumption | simp (disch := (first | assumption | omega)) only [bx, up2_nk, upR_nk, frI_v_81, frI_v_85, frI_v_95, frI_v_96, hrec, fp13, fp14, fp15]
    · skip
      refine bx_gen (P := fun z : WI => z c k = I c k) ?_
      intro p16 hp16
      have fp16 : p16 c k = I c k := by rw [hp16]; simp (disch := (first | assumption | omega)) only [bx, up2_nk, upR_nk, frI_v_81, frI_v_85, frI_v_95, frI_v_96, hrec]
      clear hp16
      refine bx_gen (P := fun z : WI => z c k = I c k) ?_
      intro p17 hp17
      have fp17 : p17 c k = I c k := by rw [hp17]; simp (disch := (first | assumption | omega)) only [bx, up2_nk, upR_nk, frI_v_81, frI_v_85, frI_v_95, frI_v_96, hrec, fp16]
      clear hp17
      first | assumption | simp (disch := (first | assumption | omega)) only [bx, up2_nk, upR_nk, frI_v_81, frI_v_85, frI_v_95, frI_v_96, hrec, fp16, fp17]
theorem frI_lp_102_7 {rec : RECTC} {t : Nat} {x1 : Int32} {c k : Nat} (w0 : c ≠ (t + 1)) (w1 : c = 31 → k ≠ 2 ∧ k ≠ 3 ∧ k ≠ 4 ∧ k ≠ 5 ∧ k ≠ 6) (w2 : c = t → k ≠ 1) (hrec : ∀ s I x, rec s I t x c k = I c k) : ∀ n (x2 : Int32) (I : WI), (lp_102_7 rec t x1 n x2 I) c k = I c k := by
  intro n
  induction n with
  | zero => intros; rfl
  | succ n ih =>
    intro x2 I
    simp only [lp_102_7, bx]
    repeat' split
    all_goals simp (disch := (first | assumption | omega)) only [bx, up2_nk, upR_nk, frI_v_103, frI_v_81, frI_v_85, hrec, ih]
theorem frI_v_102 {rec : RECTC} {I : WI} {t : Nat} {x1 : Int32} {c k : Nat} (w0 : c ≠ (t + 1)) (w1 : c = 31 → k ≠ 2 ∧ k ≠ 3 ∧ k ≠ 4 ∧ k ≠ 5 ∧ k ≠ 6) (w2 : c = t → k ≠ 1) (hrec : ∀ s I x, rec s I t x c k = I c k) : (v_102 rec I t x1) c k = I c k := by
  unfold v_102
  try simp only [bx]
  repeat' split
  all_goals first | (with_reducible rfl) | simp (disch := (first | assumption | omega)) only [bx, up2_nk, upR_nk, frI_lp_102_7, frI_v_103, hrec]
theorem frI_lp_101_7 {rec : RECTC} {t : Nat} {x1 : Int32} {c k : Nat} (w0 : c ≠ (t + 1)) (w1 : c = 31 → k ≠ 2 ∧ k ≠ 3 ∧ k ≠ 4 ∧ k ≠ 5 ∧ k ≠ 6) (w2 : c = t → k ≠ 1) (hrec : ∀ s I x, rec s I t x c k = I c k) : ∀ n (x2 : Int32) (I : WI), (lp_101_7 rec t x1 n x2 I) c k = I c k := by
  intro n
  induction n with
  | zero => intros; rfl
  | succ n ih =>
    intro x2 I
    simp only [lp_101_7, bx]
    repeat' split
    all_goals simp (disch := (first | assumption | omega)) only [bx, up2_nk, upR_nk, frI_v_102, frI_v_81, frI_v_85, hrec, ih]
theorem frI_v_101 {rec : RECTC} {I : WI} {t : Nat} {x1 : Int32} {c k : Nat} (w0 : c ≠ (t + 1)) (w1 : c = 31 → k ≠ 2 ∧ k ≠ 3 ∧ k ≠ 4 ∧ k ≠ 5 ∧ k ≠ 6) (w2 : c = t → k ≠ 1) (hrec : ∀ s I x, rec s I t x c k = I c k) : (v_101 rec I t x1) c k = I c k := by
  unfold v_101
  try simp only [bx]
  repeat' split
  all_goals first | (with_reducible rfl) | simp (disch := (first | assumption | omega)) only [bx, up2_nk, upR_nk, frI_lp_101_7, frI_v_102, hrec]
theorem frI_v_100 {rec : RECTC} {I : WI} {t : Nat} {x1 : Int32} {c k : Nat} (w0 : c ≠ (t + 1)) (w1 : c = 31 → k ≠ 2 ∧ k ≠ 3 ∧ k ≠ 4 ∧ k ≠ 5 ∧ k ≠ 6) (w2 : c = t → k ≠ 1) (hrec : ∀ s I x, rec s I t x c k = I c k) : (v_100 rec I t x1) c k = I c k := by
  unfold v_100
  try simp only [bx]
  repeat' split
  all_goals first | (with_reducible rfl) | simp (disch := (first | assumption | omega)) only [bx, up2_nk, upR_nk, frI_v_101, frI_v_81, frI_v_85, hrec]
theorem frI_v_99 {rec : RECTC} {I : WI} {t : Nat} {x1 : Int32} {c k : Nat} (w0 : c ≠ (t + 1)) (w1 : c = 31 → k ≠ 2 ∧ k ≠ 3 ∧ k ≠ 4 ∧ k ≠ 5 ∧ k ≠ 6) (w2 : c = t → k ≠ 1) (hrec : ∀ s I x, rec s I t x c k = I c k) : (v_99 rec I t x1) c k = I c k := by
  unfold v_99
  try simp only [bx]
  repeat' split
  all_goals first | (with_reducible rfl) | simp (disch := (first | assumption | omega)) only [bx, up2_nk, upR_nk, frI_v_100, frI_v_81, frI_v_85, frI_v_96, hrec]
theorem frI_lp_98_7 {rec : RECTC} {t : Nat} {x1 : Int32} {c k : Nat} (w0 : c ≠ (t + 1)) (w1 : c = 31 → k ≠ 2 ∧ k ≠ 3 ∧ k ≠ 4 ∧ k ≠ 5 ∧ k ≠ 6) (w2 : c = t → k ≠ 1) (hrec : ∀ s I x, rec s I t x c k = I c k) : ∀ n (x2 : Int32) (I : WI), (lp_98_7 rec t x1 n x2 I) c k = I c k := by
  intro n
  induction n with
  | zero => intros; rfl
  | succ n ih =>
    intro x2 I
    simp only [lp_98_7, bx]
    repeat' split
    all_goals simp (disch := (first | assumption | omega)) only [bx, up2_nk, upR_nk, frI_v_81, frI_v_85, frI_v_99, hrec, ih]
theorem frI_v_98 {rec : RECTC} {I : WI} {t : Nat} {x1 : Int32} {c k : Nat} (w0 : c ≠ (t + 1)) (w1 : c = 31 → k ≠ 2 ∧ k ≠ 3 ∧ k ≠ 4 ∧ k ≠ 5 ∧ k ≠ 6) (w2 : c = t → k ≠ 1) (hrec : ∀ s I x, rec s I t x c k = I c k) : (v_98 rec I t x1) c k = I c k := by
  unfold v_98
  try simp only [bx]
  repeat' split
  all_goals first | (with_reducible rfl) | simp (disch := (first | assumption | omega)) only [bx, up2_nk, upR_nk, frI_lp_98_7, frI_v_99, hrec]
theorem frI_lp_97_7 {rec : RECTC} {t : Nat} {x1 : Int32} {c k : Nat} (w0 : c ≠ (t + 1)) (w1 : c = 31 → k ≠ 2 ∧ k ≠ 3 ∧ k ≠ 4 ∧ k ≠ 5 ∧ k ≠ 6) (w2 : c = t → k ≠ 1) (hrec : ∀ s I x, rec s I t x c k = I c k) : ∀ n (x2 : Int32) (I : WI), (lp_97_7 rec t x1 n x2 I) c k = I c k := by
  intro n
  induction n with
  | zero => intros; rfl
  | succ n ih =>
    intro x2 I
    simp only [lp_97_7, bx]
    repeat' split
    all_goals simp (disch := (first | assumption | omega)) only [bx, up2_nk, upR_nk, frI_v_81, frI_v_85, frI_v_98, hrec, ih]
theorem frI_v_97 {rec : RECTC} {I : WI} {t : Nat} {x1 : Int32} {c k : Nat} (w0 : c ≠ (t + 1)) (w1 : c = 31 → k ≠ 2 ∧ k ≠ 3 ∧ k ≠ 4 ∧ k ≠ 5 ∧ k ≠ 6) (w2 : c = t → k ≠ 1) (hrec : ∀ s I x, rec s I t x c k = I c k) : (v_97 rec I t x1) c k = I c k := by
  unfold v_97
  try simp only [bx]
  repeat' split
  all_goals first | (with_reducible rfl) | simp (disch := (first | assumption | omega)) only [bx, up2_nk, upR_nk, frI_lp_97_7, frI_v_98, hrec]
theorem frI_pcl {c k t : Nat} (w0 : c ≠ (t + 1)) (w1 : c = 31 → k ≠ 2 ∧ k ≠ 3 ∧ k ≠ 4 ∧ k ≠ 5 ∧ k ≠ 6) (w2 : c = t → k ≠ 1) : ∀ n s (I : WI) x, pcl n s I t x c k = I c k := by
  intro n
  induction n with
  | zero => intros; rfl
  | succ n ih =>
    intro s I x
    simp only [pcl]
    repeat' split
    all_goals simp (disch := (first | assumption | omega)) only [frI_v_97, frI_v_99, frI_v_103, ih]
theorem frI_pcc {I : WI} {t : Nat} {x : Int32} {c k : Nat} (w0 : c ≠ (t + 1)) (w1 : c = 31 → k ≠ 2 ∧ k ≠ 3 ∧ k ≠ 4 ∧ k ≠ 5 ∧ k ≠ 6) (w2 : c = t → k ≠ 1) : pcc I t x c k = I c k := by
  rw [pcc_eq]
  exact frI_pcl w0 w1 w2 8 97 I x
theorem frI_v_84 {I : WI} {t : Nat} {r1 : Nat} {c k : Nat} (w0 : c ≠ (r1 + 1)) (w1 : c = 31 → k ≠ 1 ∧ k ≠ 2 ∧ k ≠ 3 ∧ k ≠ 4 ∧ k ≠ 5 ∧ k ≠ 6) (w2 : c = r1 → k ≠ 1 ∧ k ≠ 2) : (v_84 I t r1).2.1 c k = I c k := by
  unfold v_84
  try simp only [bx]
  repeat' split
  all_goals first | (with_reducible rfl) | simp (disch := omega) only [bx, up2_nk, upR_nk, frI_pcc, frI_v_80, frI_v_85, frI_v_95, frI_v_96]
theorem frI_v_126 {I : WI} {t : Nat} {c k : Nat} (w0 : c ≠ ((45 + 2 * ((I 0 9).toNatClampNeg)) + 1)) (w1 : c = (45 + 2 * ((I 0 9).toNatClampNeg)) → k ≠ 1 ∧ k ≠ 2) (w2 : c = 0 → k ≠ 9) (w3 : c = 31 → k ≠ 1 ∧ k ≠ 2 ∧ k ≠ 3 ∧ k ≠ 4 ∧ k ≠ 5 ∧ k ≠ 6) : (v_126 I t).2.1 c k = I c k := by
  unfold v_126
  try simp only [bx]
  repeat' split
  all_goals first | (with_reducible rfl) | simp (disch := omega) only [bx, up2_nk, upR_nk, frI_v_84]
theorem frI_v_206 {rec : RECTR} {I : WI} {L : WL} {c k : Nat} (w0 : c = 74 → k ≠ 27 ∧ k ≠ 28 ∧ k ≠ 29 ∧ k ≠ 30 ∧ k ≠ 31 ∧ k ≠ 32 ∧ k ≠ 33) (hrec : ∀ s I L, (rec s I L).2.1 c k = I c k) : (v_206 rec I L).2.1 c k = I c k := by
  unfold v_206
  try simp only [bx]
  repeat' split
  all_goals first | (with_reducible rfl) | simp (disch := (first | assumption | omega)) only [bx, up2_nk, upR_nk, frI_v_194, frI_v_199, frI_v_203, frI_v_208, hrec]
theorem frL_v_206 {rec : RECTR} {I : WI} {L : WL} {c k : Nat} (w0 : c = 74 → k ≠ 27 ∧ k ≠ 28 ∧ k ≠ 29 ∧ k ≠ 30 ∧ k ≠ 31 ∧ k ≠ 32 ∧ k ≠ 33) (hrec : ∀ s I L, (rec s I L).2.2 c k = L c k) : (v_206 rec I L).2.2 c k = L c k := by
  unfold v_206
  try simp only [bx]
  repeat' split
  all_goals first | (with_reducible rfl) | simp (disch := (first | assumption | omega)) only [bx, up2_nk, upR_nk, frL_v_194, frL_v_203, hrec]
theorem frI_lp_205_5 {rec : RECTR} {c k : Nat} (w0 : c = 74 → k ≠ 27 ∧ k ≠ 28 ∧ k ≠ 29 ∧ k ≠ 30 ∧ k ≠ 31 ∧ k ≠ 32 ∧ k ≠ 33) (hrec : ∀ s I L, (rec s I L).2.1 c k = I c k) : ∀ n (x1 : Int32) (I : WI) (L : WL), (lp_205_5 rec n x1 I L).2.1 c k = I c k := by
  intro n
  induction n with
  | zero => intros; rfl
  | succ n ih =>
    intro x1 I L
    simp only [lp_205_5, bx]
    repeat' split
    all_goals simp (disch := (first | assumption | omega)) only [bx, up2_nk, upR_nk, frI_v_194, frI_v_206, hrec, ih]
theorem frL_lp_205_5 {rec : RECTR} {c k : Nat} (w0 : c = 74 → k ≠ 27 ∧ k ≠ 28 ∧ k ≠ 29 ∧ k ≠ 30 ∧ k ≠ 31 ∧ k ≠ 32 ∧ k ≠ 33) (hrec : ∀ s I L, (rec s I L).2.2 c k = L c k) : ∀ n (x1 : Int32) (I : WI) (L : WL), (lp_205_5 rec n x1 I L).2.2 c k = L c k := by
  intro n
  induction n with
  | zero => intros; rfl
  | succ n ih =>
    intro x1 I L
    simp only [lp_205_5, bx]
    repeat' split
    all_goals simp (disch := (first | assumption | omega)) only [bx, up2_nk, upR_nk, frL_v_194, frL_v_206, hrec, ih]
theorem frI_v_205 {rec : RECTR} {I : WI} {L : WL} {c k : Nat} (w0 : c = 74 → k ≠ 27 ∧ k ≠ 28 ∧ k ≠ 29 ∧ k ≠ 30 ∧ k ≠ 31 ∧ k ≠ 32 ∧ k ≠ 33) (hrec : ∀ s I L, (rec s I L).2.1 c k = I c k) : (v_205 rec I L).2.1 c k = I c k := by
  unfold v_205
  try simp only [bx]
  repeat' split
  all_goals first | (with_reducible rfl) | simp (disch := (first | assumption | omega)) only [bx, up2_nk, upR_nk, frI_lp_205_5, frI_v_206, hrec]
theorem frL_v_205 {rec : RECTR} {I : WI} {L : WL} {c k : Nat} (w0 : c = 74 → k ≠ 27 ∧ k ≠ 28 ∧ k ≠ 29 ∧ k ≠ 30 ∧ k ≠ 31 ∧ k ≠ 32 ∧ k ≠ 33) (hrec : ∀ s I L, (rec s I L).2.2 c k = L c k) : (v_205 rec I L).2.2 c k = L c k := by
  unfold v_205
  try simp only [bx]
  repeat' split
  all_goals first | (with_reducible rfl) | simp (disch := (first | assumption | omega)) only [bx, up2_nk, upR_nk, frL_lp_205_5, frL_v_206, hrec]
theorem frI_lp_204_5 {rec : RECTR} {c k : Nat} (w0 : c = 74 → k ≠ 27 ∧ k ≠ 28 ∧ k ≠ 29 ∧ k ≠ 30 ∧ k ≠ 31 ∧ k ≠ 32 ∧ k ≠ 33) (hrec : ∀ s I L, (rec s I L).2.1 c k = I c k) : ∀ n (x1 : Int32) (I : WI) (L : WL), (lp_204_5 rec n x1 I L).2.1 c k = I c k := by
  intro n
  induction n with
  | zero => intros; rfl
  | succ n ih =>
    intro x1 I L
    simp only [lp_204_5, bx]
    repeat' split
    all_goals simp (disch := (first | assumption | omega)) only [bx, up2_nk, upR_nk, frI_v_194, frI_v_205, hrec, ih]
theorem frL_lp_204_5 {rec : RECTR} {c k : Nat} (w0 : c = 74 → k ≠ 27 ∧ k ≠ 28 ∧ k ≠ 29 ∧ k ≠ 30 ∧ k ≠ 31 ∧ k ≠ 32 ∧ k ≠ 33) (hrec : ∀ s I L, (rec s I L).2.2 c k = L c k) : ∀ n (x1 : Int32) (I : WI) (L : WL), (lp_204_5 rec n x1 I L).2.2 c k = L c k := by
  intro n
  induction n with
  | zero => intros; rfl
  | succ n ih =>
    intro x1 I L
    simp only [lp_204_5, bx]
    repeat' split
    all_goals simp (disch := (first | assumption | omega)) only [bx, up2_nk, upR_nk, frL_v_194, frL_v_205, hrec, ih]
theorem frI_v_204 {rec : RECTR} {I : WI} {L : WL} {c k : Nat} (w0 : c = 74 → k ≠ 27 ∧ k ≠ 28 ∧ k ≠ 29 ∧ k ≠ 30 ∧ k ≠ 31 ∧ k ≠ 32 ∧ k ≠ 33) (hrec : ∀ s I L, (rec s I L).2.1 c k = I c k) : (v_204 rec I L).2.1 c k = I c k := by
  unfold v_204
  try simp only [bx]
  repeat' split
  all_goals first | (with_reducible rfl) | simp (disch := (first | assumption | omega)) only [bx, up2_nk, upR_nk, frI_lp_204_5, frI_v_205, hrec]
theorem frL_v_204 {rec : RECTR} {I : WI} {L : WL} {c k : Nat} (w0 : c = 74 → k ≠ 27 ∧ k ≠ 28 ∧ k ≠ 29 ∧ k ≠ 30 ∧ k ≠ 31 ∧ k ≠ 32 ∧ k ≠ 33) (hrec : ∀ s I L, (rec s I L).2.2 c k = L c k) : (v_204 rec I L).2.2 c k = L c k := by
  unfold v_204
  try simp only [bx]
  repeat' split
  all_goals first | (with_reducible rfl) | simp (disch := (first | assumption | omega)) only [bx, up2_nk, upR_nk, frL_lp_204_5, frL_v_205, hrec]
theorem frI_v_202 {rec : RECTR} {I : WI} {L : WL} {c k : Nat} (w0 : c = 74 → k ≠ 27 ∧ k ≠ 28 ∧ k ≠ 29 ∧ k ≠ 30 ∧ k ≠ 31 ∧ k ≠ 32 ∧ k ≠ 33) (hrec : ∀ s I L, (rec s I L).2.1 c k = I c k) : (v_202 rec I L).2.1 c k = I c k := by
  unfold v_202
  try simp only [bx]
  repeat' split
  all_goals first | (with_reducible rfl) | simp (disch := (first | assumption | omega)) only [bx, up2_nk, upR_nk, frI_v_194, frI_v_203, frI_v_204, hrec]
theorem frL_v_202 {rec : RECTR} {I : WI} {L : WL} {c k : Nat} (w0 : c = 74 → k ≠ 27 ∧ k ≠ 28 ∧ k ≠ 29 ∧ k ≠ 30 ∧ k ≠ 31 ∧ k ≠ 32 ∧ k ≠ 33) (hrec : ∀ s I L, (rec s I L).2.2 c k = L c k) : (v_202 rec I L).2.2 c k = L c k := by
  unfold v_202
  try simp only [bx]
  repeat' split
  all_goals first | (with_reducible rfl) | simp (disch := (first | assumption | omega)) only [bx, up2_nk, upR_nk, frL_v_194, frL_v_203, frL_v_204, hrec]
theorem frI_lp_201_5 {rec : RECTR} {c k : Nat} (w0 : c = 74 → k ≠ 27 ∧ k ≠ 28 ∧ k ≠ 29 ∧ k ≠ 30 ∧ k ≠ 31 ∧ k ≠ 32 ∧ k ≠ 33) (hrec : ∀ s I L, (rec s I L).2.1 c k = I c k) : ∀ n (x1 : Int32) (I : WI) (L : WL), (lp_201_5 rec n x1 I L).2.1 c k = I c k := by
  intro n
  induction n with
  | zero => intros; rfl
  | succ n ih =>
    intro x1 I L
    simp only [lp_201_5, bx]
    repeat' split
    all_goals simp (disch := (first | assumption | omega)) only [bx, up2_nk, upR_nk, frI_v_194, frI_v_202, hrec, ih]
theorem frL_lp_201_5 {rec : RECTR} {c k : Nat} (w0 : c = 74 → k ≠ 27 ∧ k ≠ 28 ∧ k ≠ 29 ∧ k ≠ 30 ∧ k ≠ 31 ∧ k ≠ 32 ∧ k ≠ 33) (hrec : ∀ s I L, (rec s I L).2.2 c k = L c k) : ∀ n (x1 : Int32) (I : WI) (L : WL), (lp_201_5 rec n x1 I L).2.2 c k = L c k := by
  intro n
  induction n with
  | zero => intros; rfl
  | succ n ih =>
    intro x1 I L
    simp only [lp_201_5, bx]
    repeat' split
    all_goals simp (disch := (first | assumption | omega)) only [bx, up2_nk, upR_nk, frL_v_194, frL_v_202, hrec, ih]
theorem frI_v_201 {rec : RECTR} {I : WI} {L : WL} {c k : Nat} (w0 : c = 74 → k ≠ 27 ∧ k ≠ 28 ∧ k ≠ 29 ∧ k ≠ 30 ∧ k ≠ 31 ∧ k ≠ 32 ∧ k ≠ 33) (hrec : ∀ s I L, (rec s I L).2.1 c k = I c k) : (v_201 rec I L).2.1 c k = I c k := by
  unfold v_201
  try simp only [bx]
  repeat' split
  all_goals first | (with_reducible rfl) | simp (disch := (first | assumption | omega)) only [bx, up2_nk, upR_nk, frI_lp_201_5, frI_v_202, hrec]
theorem frL_v_201 {rec : RECTR} {I : WI} {L : WL} {c k : Nat} (w0 : c = 74 → k ≠ 27 ∧ k ≠ 28 ∧ k ≠ 29 ∧ k ≠ 30 ∧ k ≠ 31 ∧ k ≠ 32 ∧ k ≠ 33) (hrec : ∀ s I L, (rec s I L).2.2 c k = L c k) : (v_201 rec I L).2.2 c k = L c k := by
  unfold v_201
  try simp only [bx]
  repeat' split
  all_goals first | (with_reducible rfl) | simp (disch := (first | assumption | omega)) only [bx, up2_nk, upR_nk, frL_lp_201_5, frL_v_202, hrec]
theorem frI_lp_200_5 {rec : RECTR} {c k : Nat} (w0 : c = 74 → k ≠ 27 ∧ k ≠ 28 ∧ k ≠ 29 ∧ k ≠ 30 ∧ k ≠ 31 ∧ k ≠ 32 ∧ k ≠ 33) (hrec : ∀ s I L, (rec s I L).2.1 c k = I c k) : ∀ n (x1 : Int32) (I : WI) (L : WL), (lp_200_5 rec n x1 I L).2.1 c k = I c k := by
  intro n
  induction n with
  | zero => intros; rfl
  | succ n ih =>
    intro x1 I L
    simp only [lp_200_5, bx]
    repeat' split
    all_goals simp (disch := (first | assumption | omega)) only [bx, up2_nk, upR_nk, frI_v_194, frI_v_201, hrec, ih]
theorem frL_lp_200_5 {rec : RECTR} {c k : Nat} (w0 : c = 74 → k ≠ 27 ∧ k ≠ 28 ∧ k ≠ 29 ∧ k ≠ 30 ∧ k ≠ 31 ∧ k ≠ 32 ∧ k ≠ 33) (hrec : ∀ s I L, (rec s I L).2.2 c k = L c k) : ∀ n (x1 : Int32) (I : WI) (L : WL), (lp_200_5 rec n x1 I L).2.2 c k = L c k := by
  intro n
  induction n with
  | zero => intros; rfl
  | succ n ih =>
    intro x1 I L
    simp only [lp_200_5, bx]
    repeat' split
    all_goals simp (disch := (first | assumption | omega)) only [bx, up2_nk, upR_nk, frL_v_194, frL_v_201, hrec, ih]
theorem frI_v_200 {rec : RECTR} {I : WI} {L : WL} {c k : Nat} (w0 : c = 74 → k ≠ 27 ∧ k ≠ 28 ∧ k ≠ 29 ∧ k ≠ 30 ∧ k ≠ 31 ∧ k ≠ 32 ∧ k ≠ 33) (hrec : ∀ s I L, (rec s I L).2.1 c k = I c k) : (v_200 rec I L).2.1 c k = I c k := by
  unfold v_200
  try simp only [bx]
  repeat' split
  all_goals first | (with_reducible rfl) | simp (disch := (first | assumption | omega)) only [bx, up2_nk, upR_nk, frI_lp_200_5, frI_v_201, hrec]
theorem frL_v_200 {rec : RECTR} {I : WI} {L : WL} {c k : Nat} (w0 : c = 74 → k ≠ 27 ∧ k ≠ 28 ∧ k ≠ 29 ∧ k ≠ 30 ∧ k ≠ 31 ∧ k ≠ 32 ∧ k ≠ 33) (hrec : ∀ s I L, (rec s I L).2.2 c k = L c k) : (v_200 rec I L).2.2 c k = L c k := by
  unfold v_200
  try simp only [bx]
  repeat' split
  all_goals first | (with_reducible rfl) | simp (disch := (first | assumption | omega)) only [bx, up2_nk, upR_nk, frL_lp_200_5, frL_v_201, hrec]
theorem frI_prl {c k : Nat} (w0 : c = 74 → k ≠ 27 ∧ k ≠ 28 ∧ k ≠ 29 ∧ k ≠ 30 ∧ k ≠ 31 ∧ k ≠ 32 ∧ k ≠ 33) : ∀ n s (I : WI) (L : WL), (prl n s I L).2.1 c k = I c k := by
  intro n
  induction n with
  | zero => intros; rfl
  | succ n ih =>
    intro s I L
    simp only [prl]
    repeat' split
    all_goals simp (disch := (first | assumption | omega)) only [frI_v_200, frI_v_202, frI_v_206, ih]
theorem frL_prl {c k : Nat} (w0 : c = 74 → k ≠ 27 ∧ k ≠ 28 ∧ k ≠ 29 ∧ k ≠ 30 ∧ k ≠ 31 ∧ k ≠ 32 ∧ k ≠ 33) : ∀ n s (I : WI) (L : WL), (prl n s I L).2.2 c k = L c k := by
  intro n
  induction n with
  | zero => intros; rfl
  | succ n ih =>
    intro s I L
    simp only [prl]
    repeat' split
    all_goals simp (disch := (first | assumption | omega)) only [frL_v_200, frL_v_202, frL_v_206, ih]
theorem frI_prc {I : WI} {L : WL} {c k : Nat} (w0 : c = 74 → k ≠ 27 ∧ k ≠ 28 ∧ k ≠ 29 ∧ k ≠ 30 ∧ k ≠ 31 ∧ k ≠ 32 ∧ k ≠ 33) : (prc I L).2.1 c k = I c k := by
  rw [prc_eq]
  exact frI_prl w0 8 200 I L
theorem frL_prc {I : WI} {L : WL} {c k : Nat} (w0 : c = 74 → k ≠ 27 ∧ k ≠ 28 ∧ k ≠ 29 ∧ k ≠ 30 ∧ k ≠ 31 ∧ k ≠ 32 ∧ k ≠ 33) : (prc I L).2.2 c k = L c k := by
  rw [prc_eq]
  exact frL_prl w0 8 200 I L
theorem frI_v_198 {I : WI} {L : WL} {x1 : Int32} {c k : Nat} (w0 : c = 74 → k ≠ 27 ∧ k ≠ 28 ∧ k ≠ 29 ∧ k ≠ 30 ∧ k ≠ 31 ∧ k ≠ 32 ∧ k ≠ 33) : (v_198 I L x1).2.1 c k = I c k := by
  unfold v_198
  refine bx_gen (P := fun z : Int32 × WI × WL => z.2.1 c k = I c k) ?_
  intro p2 hp2
  have fp2 : p2 c k = I c k := by rw [hp2]; (try simp only [bx]); (repeat' split) <;> first | (with_reducible rfl) | assumption | simp (disch := omega) only [bx, up2_nk, upR_nk, frI_prc, frI_v_194, frI_v_199]
  clear hp2
  refine bx_gen (P := fun z : Int32 × WI × WL => z.2.1 c k = I c k) ?_
  intro p4 hp4
  have fp4 : p4.1 c k = I c k := by rw [hp4]; (try simp only [bx]); (repeat' split) <;> first | (with_reducible rfl) | assumption | simp (disch := omega) only [bx, up2_nk, upR_nk, frI_prc, frI_v_194, frI_v_199, fp2]
  clear hp4
  refine bx_gen (P := fun z : Int32 × WI × WL => z.2.1 c k = I c k) ?_
  intro p6 hp6
  have fp6 : p6.2.1 c k = I c k := by rw [hp6]; (try simp only [bx]); (repeat' split) <;> first | (with_reducible rfl) | assumption | simp (disch := omega) only [bx, up2_nk, upR_nk, frI_prc, frI_v_194, frI_v_199, fp2, fp4]
  clear hp6
  refine bx_gen (P := fun z : Int32 × WI × WL => z.2.1 c k = I c k) ?_
  intro p8 hp8
  have fp8 : p8 c k = I c k := by rw [hp8]; (try simp only [bx]); (repeat' split) <;> first | (with_reducible rfl) | assumption | simp (disch := omega) only [bx, up2_nk, upR_nk, frI_prc, frI_v_194, frI_v_199, fp2, fp4, fp6]
  clear hp8
  refine ite_gen (P := fun z : Int32 × WI × WL => z.2.1 c k = I c k) (fun _ => ?_) (fun _ => ?_)
  · skip
    first | assumption | simp (disch := omega) only [bx, up2_nk, upR_nk, frI_prc, frI_v_194, frI_v_199, fp2, fp4, fp6, fp8]
  · skip
    refine bx_gen (P := fun z : Int32 × WI × WL => z.2.1 c k = I c k) ?_
    intro p9 hp9
    have fp9 : p9.1 c k = I c k := by rw [hp9]; simp (disch := omega) only [bx, up2_nk, upR_nk, frI_prc, frI_v_194, frI_v_199, fp2, fp4, fp6, fp8]
    clear hp9
    first | assumption | simp (disch := omega) only [bx, up2_nk, upR_nk, frI_prc, frI_v_194, frI_v_199, fp2, fp4, fp6, fp8, fp9]
theorem frL_v_198 {I : WI} {L : WL} {x1 : Int32} {c k : Nat} (w0 : c = 74 → k ≠ 27 ∧ k ≠ 28 ∧ k ≠ 29 ∧ k ≠ 30 ∧ k ≠ 31 ∧ k ≠ 32 ∧ k ≠ 33) : (v_198 I L x1).2.2 c k = L c k := by
  unfold v_198
  refine bx_gen (P := fun z : Int32 × WI × WL => z.2.2 c k = L c k) ?_
  intro p2 hp2
  clear hp2
  refine bx_gen (P := fun z : Int32 × WI × WL => z.2.2 c k = L c k) ?_
  intro p4 hp4
  have fp4 : p4.2 c k = L c k := by rw [hp4]; (try simp only [bx]); (repeat' split) <;> first | (with_reducible rfl) | assumption | simp (disch := omega) only [bx, up2_nk, upR_nk, frL_prc, frL_v_194]
  clear hp4
  refine bx_gen (P := fun z : Int32 × WI × WL => z.2.2 c k = L c k) ?_
  intro p6 hp6
  have fp6 : p6.2.2 c k = L c k := by rw [hp6]; (try simp only [bx]); (repeat' split) <;> first | (with_reducible rfl) | assumption | simp (disch := omega) only [bx, up2_nk, upR_nk, frL_prc, frL_v_194, fp4]
  clear hp6
  refine bx_gen (P := fun z : Int32 × WI × WL => z.2.2 c k = L c k) ?_
  intro p8 hp8
  clear hp8
  refine ite_gen (P := fun z : Int32 × WI × WL => z.2.2 c k = L c k) (fun _ => ?_) (fun _ => ?_)
  · skip
    first | assumption | simp (disch := omega) only [bx, up2_nk, upR_nk, frL_prc, frL_v_194, fp4, fp6]
  · skip
    refine bx_gen (P := fun z : Int32 × WI × WL => z.2.2 c k = L c k) ?_
    intro p9 hp9
    have fp9 : p9.2 c k = L c k := by rw [hp9]; simp (disch := omega) only [bx, up2_nk, upR_nk, frL_prc, frL_v_194, fp4, fp6]
    clear hp9
    first | assumption | simp (disch := omega) only [bx, up2_nk, upR_nk, frL_prc, frL_v_194, fp4, fp6, fp9]
theorem frI_v_193 {I : WI} {L : WL} {x1 : Int32} {x2 : Int32} {c k : Nat} (w0 : c = 74 → k ≠ 25 ∧ k ≠ 26 ∧ k ≠ 27 ∧ k ≠ 28 ∧ k ≠ 29 ∧ k ≠ 30 ∧ k ≠ 31 ∧ k ≠ 32 ∧ k ≠ 33) : (v_193 I L x1 x2).2.1 c k = I c k := by
  unfold v_193
  try simp only [bx]
  repeat' split
  all_goals first | (with_reducible rfl) | simp (disch := omega) only [bx, up2_nk, upR_nk, frI_v_194, frI_v_198, frI_v_199]
theorem frL_v_193 {I : WI} {L : WL} {x1 : Int32} {x2 : Int32} {c k : Nat} (w0 : c = 74 → k ≠ 25 ∧ k ≠ 26 ∧ k ≠ 27 ∧ k ≠ 28 ∧ k ≠ 29 ∧ k ≠ 30 ∧ k ≠ 31 ∧ k ≠ 32 ∧ k ≠ 33) : (v_193 I L x1 x2).2.2 c k = L c k := by
  unfold v_193
  try simp only [bx]
  repeat' split
  all_goals first | (with_reducible rfl) | simp (disch := omega) only [bx, up2_nk, upR_nk, frL_v_194, frL_v_198]
theorem frI_v_214 {I : WI} {L : WL} {x1 : Int32} {x2 : Int32} {c k : Nat} (w0 : c = 74 → k ≠ 19 ∧ k ≠ 20 ∧ k ≠ 21 ∧ k ≠ 22 ∧ k ≠ 23 ∧ k ≠ 24 ∧ k ≠ 25 ∧ k ≠ 26 ∧ k ≠ 27 ∧ k ≠ 28 ∧ k ≠ 29 ∧ k ≠ 30 ∧ k ≠ 31 ∧ k ≠ 32 ∧ k ≠ 33) (w1 : c ≠ 88) (w2 : c ≠ 89) : (v_214 I L x1 x2).2.1 c k = I c k := by
  unfold v_214
  try simp only [bx]
  repeat' split
  all_goals first | (with_reducible rfl) | simp (disch := omega) only [bx, up2_nk, upR_nk, frI_v_193]
end
