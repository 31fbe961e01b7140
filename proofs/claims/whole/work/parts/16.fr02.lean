section
theorem frI_v_279 {I : WI} {x1 : Int32} {x2 : Int32} {x3 : Int32} {c k : Nat} (w0 : c ≠ 114) : (v_279 I x1 x2 x3).2 c k = I c k := by
  unfold v_279
  try simp only [bx]
  repeat' split
  all_goals first | (with_reducible rfl) | simp (disch := omega) only [bx, up2_nk, upR_nk, frI_lp_279_78]
theorem frI_lp_13_8 {r1 : Nat} {x3 : Int32} {r4 : Nat} {x5 : Int32} {c k : Nat} (w0 : c = 35 → k ≠ 1) (w1 : c ≠ 36) : ∀ n (x6 : Int32) (I : WI), (lp_13_8 r1 x3 r4 x5 n x6 I) c k = I c k := by
  intro n
  induction n with
  | zero => intros; rfl
  | succ n ih =>
    intro x6 I
    simp only [lp_13_8, bx]
    repeat' split
    all_goals simp (disch := omega) only [bx, up2_nk, upR_nk, frI_v_14, frI_v_16, frI_v_18, ih]
theorem frI_v_13 {I : WI} {r1 : Nat} {x2 : Int32} {x3 : Int32} {r4 : Nat} {x5 : Int32} {c k : Nat} (w0 : c = 35 → k ≠ 1) (w1 : c ≠ 36) : (v_13 I r1 x2 x3 r4 x5).2 c k = I c k := by
  unfold v_13
  try simp only [bx]
  repeat' split
  all_goals first | (with_reducible rfl) | simp (disch := omega) only [bx, up2_nk, upR_nk, frI_lp_13_8]
theorem frF_lp_36_4 {I : WI} {F : WF} {r1 : Nat} {a2 : Int32} {c k : Nat} (w0 : c ≠ 39) : ∀ n, (lp_36_4 I F r1 a2 n).2 c k = F c k := by
  intro n
  induction n with
  | zero => rfl
  | succ n ih =>
    simp only [lp_36_4, bx]
    repeat' split
    all_goals simp (disch := omega) only [bx, up2_nk, upR_nk, ih]
theorem frF_v_36 {I : WI} {F : WF} {r1 : Nat} {c k : Nat} (w0 : c ≠ 39) : (v_36 I F r1).2 c k = F c k := by
  unfold v_36
  try simp only [bx]
  repeat' split
  all_goals first | (with_reducible rfl) | simp (disch := omega) only [bx, up2_nk, upR_nk, frF_lp_36_4]
theorem frI_v_57 {I : WI} {b : Nat} {x1 : Int32} {x2 : Int32} {x3 : Int32} {x4 : Int32} {c k : Nat} (w0 : c ≠ (b + 5)) (w1 : c ≠ (b + 6)) (w2 : c ≠ (b + 7)) (w3 : c ≠ (b + 9)) : (v_57 I b x1 x2 x3 x4) c k = I c k := by
  unfold v_57
  try simp only [bx]
  repeat' split
  all_goals first | (with_reducible rfl) | simp (disch := omega) only [bx, up2_nk, upR_nk, frI_v_60]
theorem frI_lp_72_13 {I : WI} {b : Nat} {x1 : Int32} {c k : Nat} (w0 : c ≠ (b + 5)) (w1 : c ≠ (b + 6)) (w2 : c ≠ (b + 9)) : ∀ n, (lp_72_13 I b x1 n) c k = I c k := by
  intro n
  induction n with
  | zero => rfl
  | succ n ih =>
    simp only [lp_72_13, bx]
    repeat' split
    all_goals simp (disch := omega) only [bx, up2_nk, upR_nk, frI_v_60, ih]
theorem frI_v_72 {I : WI} {b : Nat} {x1 : Int32} {c k : Nat} (w0 : c ≠ (b + 5)) (w1 : c ≠ (b + 6)) (w2 : c ≠ (b + 9)) : (v_72 I b x1).2 c k = I c k := by
  unfold v_72
  try simp only [bx]
  repeat' split
  all_goals first | (with_reducible rfl) | simp (disch := omega) only [bx, up2_nk, upR_nk, frI_lp_72_13, frI_v_54, frI_v_73]
theorem frI_lp_74_4 {I : WI} {b : Nat} {a1 : Int32} {c k : Nat} (w0 : c ≠ (b + 4)) (w1 : c ≠ (b + 5)) (w2 : c ≠ (b + 6)) (w3 : c ≠ (b + 9)) : ∀ n, (lp_74_4 I b a1 n).2 c k = I c k := by
  intro n
  induction n with
  | zero => rfl
  | succ n ih =>
    simp only [lp_74_4, bx]
    repeat' split
    all_goals simp (disch := omega) only [bx, up2_nk, upR_nk, frI_v_54, frI_v_73, frI_v_75, ih]
theorem frI_lp_74_42 {I : WI} {b : Nat} {c k : Nat} (w0 : c ≠ (b + 5)) (w1 : c ≠ (b + 6)) (w2 : c ≠ (b + 9)) : ∀ n, (lp_74_42 I b n) c k = I c k := by
  intro n
  induction n with
  | zero => rfl
  | succ n ih =>
    simp only [lp_74_42, bx]
    repeat' split
    all_goals simp (disch := omega) only [bx, up2_nk, upR_nk, frI_v_60, ih]
theorem frI_v_74 {I : WI} {b : Nat} {c k : Nat} (w0 : c ≠ (b + 4)) (w1 : c ≠ (b + 5)) (w2 : c ≠ (b + 6)) (w3 : c ≠ (b + 9)) : (v_74 I b).2 c k = I c k := by
  unfold v_74
  try simp only [bx]
  repeat' split
  all_goals first | (with_reducible rfl) | simp (disch := omega) only [bx, up2_nk, upR_nk, frI_lp_74_4, frI_lp_74_42]
theorem frI_lp_85_0 {c k : Nat} (w0 : c = 31 → k ≠ 3) : ∀ n (I : WI), (lp_85_0 n I) c k = I c k := by
  intro n
  induction n with
  | zero => intros; rfl
  | succ n ih =>
    intro I
    simp only [lp_85_0, bx]
    repeat' split
    all_goals simp (disch := omega) only [bx, up2_nk, upR_nk, ih]
theorem frI_v_85 {I : WI} {c k : Nat} (w0 : c = 31 → k ≠ 2 ∧ k ≠ 3 ∧ k ≠ 4 ∧ k ≠ 5) : (v_85 I) c k = I c k := by
  unfold v_85
  try simp only [bx]
  repeat' split
  all_goals first | (with_reducible rfl) | simp (disch := omega) only [bx, up2_nk, upR_nk, frI_lp_85_0, frI_v_89, frI_v_94]
theorem frI_v_95 {I : WI} {x1 : Int32} {c k : Nat} (w0 : c = 31 → k ≠ 2 ∧ k ≠ 3 ∧ k ≠ 4 ∧ k ≠ 5 ∧ k ≠ 6) : (v_95 I x1) c k = I c k := by
  unfold v_95
  try simp only [bx]
  repeat' split
  all_goals first | (with_reducible rfl) | simp (disch := omega) only [bx, up2_nk, upR_nk, frI_v_85, frI_v_96]
theorem frI_v_105 {I : WI} {x1 : Int32} {x2 : Int32} {x3 : Int32} {c k : Nat} (w0 : c = 1 → k ≠ 4) (w1 : c ≠ 5) (w2 : c ≠ 6) (w3 : c ≠ 7) : (v_105 I x1 x2 x3).2 c k = I c k := by
  unfold v_105
  try simp only [bx]
  repeat' split
  all_goals first | (with_reducible rfl) | simp (disch := omega) only [bx, up2_nk, upR_nk, frI_v_53]
theorem frI_v_109 {I : WI} {x1 : Int32} {x2 : Int32} {x3 : Int32} {x4 : Int32} {c k : Nat} (w0 : c ≠ 10) (w1 : c ≠ 6) (w2 : c ≠ 7) (w3 : c ≠ 8) : (v_109 I x1 x2 x3 x4).2 c k = I c k := by
  unfold v_109
  try simp only [bx]
  repeat' split
  all_goals first | (with_reducible rfl) | simp (disch := omega) only [bx, up2_nk, upR_nk, frI_v_57]
theorem frI_v_123 {I : WI} {x1 : Int32} {c k : Nat} (w0 : c ≠ 10) (w1 : c ≠ 6) (w2 : c ≠ 7) : (v_123 I x1).2 c k = I c k := by
  unfold v_123
  try simp only [bx]
  repeat' split
  all_goals first | (with_reducible rfl) | simp (disch := omega) only [bx, up2_nk, upR_nk, frI_v_72]
theorem frI_v_124 {I : WI} {c k : Nat} (w0 : c ≠ 10) (w1 : c ≠ 5) (w2 : c ≠ 6) (w3 : c ≠ 7) : (v_124 I).2 c k = I c k := by
  unfold v_124
  try simp only [bx]
  repeat' split
  all_goals first | (with_reducible rfl) | simp (disch := omega) only [bx, up2_nk, upR_nk, frI_v_74]
theorem frI_lp_138_40 {c k : Nat} (w0 : c ≠ 25) (w1 : c ≠ 26) (w2 : c ≠ 27) (w3 : c ≠ 30) : ∀ n (x2 : Int32) (x3 : Int32) (I : WI), (lp_138_40 n x2 x3 I).2 c k = I c k := by
  intro n
  induction n with
  | zero => intros; rfl
  | succ n ih =>
    intro x2 x3 I
    simp only [lp_138_40, bx]
    repeat' split
    all_goals simp (disch := omega) only [bx, up2_nk, upR_nk, frI_v_74, ih]
theorem frI_v_138 {I : WI} {x1 : Int32} {c k : Nat} (w0 : c = 21 → k ≠ 1 ∧ k ≠ 2 ∧ k ≠ 4 ∧ k ≠ 8 ∧ k ≠ 12) (w1 : c = 22 → k ≠ 0 ∧ k ≠ 1 ∧ k ≠ 2) (w2 : c ≠ 23) (w3 : c ≠ 24) (w4 : c ≠ 25) (w5 : c ≠ 26) (w6 : c ≠ 27) (w7 : c ≠ 28) (w8 : c ≠ 29) (w9 : c ≠ 30) : (v_138 I x1).2 c k = I c k := by
  unfold v_138
  try simp only [bx]
  repeat' split
  all_goals first | (with_reducible rfl) | simp (disch := omega) only [bx, up2_nk, upR_nk, frI_lp_138_40, frI_v_76]
theorem frI_lp_147_2 {F : WF} {r1 : Nat} {c k : Nat} (w0 : c = 24 → k ≠ 0 ∧ k ≠ 1 ∧ k ≠ 2) : ∀ n (x2 : Int32) (I : WI), (lp_147_2 F r1 n x2 I).2 c k = I c k := by
  intro n
  induction n with
  | zero => intros; rfl
  | succ n ih =>
    intro x2 I
    simp only [lp_147_2, bx]
    repeat' split
    all_goals simp (disch := omega) only [bx, up2_nk, upR_nk, frI_v_78, ih]
theorem frI_v_147 {I : WI} {F : WF} {r1 : Nat} {c k : Nat} (w0 : c = 24 → k ≠ 0 ∧ k ≠ 1 ∧ k ≠ 2) : (v_147 I F r1).2 c k = I c k := by
  unfold v_147
  try simp only [bx]
  repeat' split
  all_goals first | (with_reducible rfl) | simp (disch := omega) only [bx, up2_nk, upR_nk, frI_lp_147_2]
theorem frI_lp_148_4 {I : WI} {F : WF} {r1 : Nat} {a2 : Int32} {c k : Nat} (w0 : c = 22 → k ≠ 0) (w1 : c = 24 → k ≠ 0 ∧ k ≠ 1 ∧ k ≠ 2) : ∀ n, (lp_148_4 I F r1 a2 n).2 c k = I c k := by
  intro n
  induction n with
  | zero => rfl
  | succ n ih =>
    simp only [lp_148_4, bx]
    repeat' split
    all_goals simp (disch := omega) only [bx, up2_nk, upR_nk, frI_v_147, ih]
theorem frI_v_148 {I : WI} {F : WF} {r1 : Nat} {c k : Nat} (w0 : c = 22 → k ≠ 0) (w1 : c = 24 → k ≠ 0 ∧ k ≠ 1 ∧ k ≠ 2) : (v_148 I F r1).2 c k = I c k := by
  unfold v_148
  try simp only [bx]
  repeat' split
  all_goals first | (with_reducible rfl) | simp (disch := omega) only [bx, up2_nk, upR_nk, frI_lp_148_4]
theorem frI_lp_150_4s {I : WI} {F : WF} {r1 : Nat} {a3 : Int32} {a2 : Int32} {c k : Nat} (w0 : c = 23 → k ≠ 0) (w1 : c = 24 → k ≠ 0 ∧ k ≠ 1 ∧ k ≠ 2) : ∀ n, (lp_150_4s I F r1 a3 a2 n).2 c k = I c k := by
  intro n
  induction n with
  | zero => rfl
  | succ n ih =>
    simp only [lp_150_4s, bx]
    repeat' split
    all_goals simp (disch := omega) only [bx, up2_nk, upR_nk, frI_v_147, ih]
theorem frI_v_150 {I : WI} {F : WF} {r1 : Nat} {c k : Nat} (w0 : c = 23 → k ≠ 0) (w1 : c = 24 → k ≠ 0 ∧ k ≠ 1 ∧ k ≠ 2) : (v_150 I F r1).2 c k = I c k := by
  unfold v_150
  try simp only [bx]
  repeat' split
  all_goals first | (with_reducible rfl) | simp (disch := omega) only [bx, up2_nk, upR_nk, frI_lp_150_4s]
theorem frI_lp_151_4 {I : WI} {F : WF} {r1 : Nat} {a2 : Int32} {c k : Nat} (w0 : c = 21 → k ≠ 12) (w1 : c = 24 → k ≠ 0 ∧ k ≠ 1 ∧ k ≠ 2) : ∀ n, (lp_151_4 I F r1 a2 n).2 c k = I c k := by
  intro n
  induction n with
  | zero => rfl
  | succ n ih =>
    simp only [lp_151_4, bx]
    repeat' split
    all_goals simp (disch := omega) only [bx, up2_nk, upR_nk, frI_v_147, frI_v_56, ih]
theorem frI_v_151 {I : WI} {F : WF} {r1 : Nat} {c k : Nat} (w0 : c = 21 → k ≠ 12) (w1 : c = 24 → k ≠ 0 ∧ k ≠ 1 ∧ k ≠ 2) : (v_151 I F r1).2 c k = I c k := by
  unfold v_151
  try simp only [bx]
  repeat' split
  all_goals first | (with_reducible rfl) | simp (disch := omega) only [bx, up2_nk, upR_nk, frI_lp_151_4]
theorem frI_v_174 {I : WI} {x1 : Int32} {x2 : Int32} {x3 : Int32} {x4 : Int32} {c k : Nat} (w0 : c = 74 → k ≠ 18) (w1 : c ≠ 81) (w2 : c ≠ 82) (w3 : c ≠ 83) (w4 : c ≠ 84) (w5 : c ≠ 85) (w6 : c ≠ 86) (w7 : c ≠ 87) : (v_174 I x1 x2 x3 x4).2 c k = I c k := by
  unfold v_174
  try simp only [bx]
  repeat' split
  all_goals first | (with_reducible rfl) | simp (disch := omega) only [bx, up2_nk, upR_nk, frI_v_175]
theorem frI_lp_277_75 {F : WF} {x1 : Int32} {x3 : Int32} {x4 : Int32} {c k : Nat} (w0 : c = 74 → k ≠ 18) (w1 : c ≠ 81) (w2 : c ≠ 82) (w3 : c ≠ 83) (w4 : c ≠ 84) (w5 : c ≠ 85) (w6 : c ≠ 86) (w7 : c ≠ 87) : ∀ n (x5 : Int32) (x6 : Int32) (I : WI), (lp_277_75 F x1 x3 x4 n x5 x6 I).2 c k = I c k := by
  intro n
  induction n with
  | zero => intros; rfl
  | succ n ih =>
    intro x5 x6 I
    simp only [lp_277_75, bx]
    repeat' split
    all_goals simp (disch := omega) only [bx, up2_nk, upR_nk, frI_v_174, ih]
theorem frI_v_277 {I : WI} {F : WF} {x1 : Int32} {x2 : Int32} {x3 : Int32} {x4 : Int32} {c k : Nat} (w0 : c = 74 → k ≠ 18) (w1 : c ≠ 81) (w2 : c ≠ 82) (w3 : c ≠ 83) (w4 : c ≠ 84) (w5 : c ≠ 85) (w6 : c ≠ 86) (w7 : c ≠ 87) : (v_277 I F x1 x2 x3 x4).2 c k = I c k := by
  unfold v_277
  try simp only [bx]
  repeat' split
  all_goals first | (with_reducible rfl) | simp (disch := omega) only [bx, up2_nk, upR_nk, frI_lp_277_75]
theorem frI_lp_8_2 {I : WI} {r1 : Nat} {x2 : Int32} {c k : Nat} (w0 : c ≠ 43) : ∀ n, (lp_8_2 I r1 x2 n) c k = I c k := by
  intro n
  induction n with
  | zero => rfl
  | succ n ih =>
    simp only [lp_8_2, bx]
    repeat' split
    all_goals simp (disch := omega) only [bx, up2_nk, upR_nk, ih]
theorem frI_v_8 {I : WI} {r1 : Nat} {x2 : Int32} {c k : Nat} (w0 : c ≠ 43) : (v_8 I r1 x2).2 c k = I c k := by
  unfold v_8
  try simp only [bx]
  repeat' split
  all_goals first | (with_reducible rfl) | simp (disch := omega) only [bx, up2_nk, upR_nk, frI_lp_8_2]
theorem frI_lp_12_7 {I : WI} {r1 : Nat} {r2 : Nat} {c k : Nat} (w0 : c = 35 → k ≠ 1 ∧ k ≠ 2) (w1 : c ≠ 36) (w2 : c ≠ 37) : ∀ n, (lp_12_7 I r1 r2 n) c k = I c k := by
  intro n
  induction n with
  | zero => rfl
  | succ n ih =>
    simp only [lp_12_7, bx]
    repeat' split
    all_goals simp (disch := omega) only [bx, up2_nk, upR_nk, frI_v_13, ih]
theorem frI_v_12 {I : WI} {r1 : Nat} {r2 : Nat} {c k : Nat} (w0 : c = 35 → k ≠ 1 ∧ k ≠ 2) (w1 : c ≠ 36) (w2 : c ≠ 37) : (v_12 I r1 r2) c k = I c k := by
  unfold v_12
  try simp only [bx]
  repeat' split
  all_goals first | (with_reducible rfl) | simp (disch := omega) only [bx, up2_nk, upR_nk, frI_lp_12_7]
theorem frI_lp_39_23 {I : WI} {x2 : Int32} {r3 : Nat} {x5 : Int32} {x6 : Int32} {c k : Nat} (w0 : c = 38 → k ≠ 3 ∧ k ≠ 4 ∧ k ≠ 5) (w1 : c ≠ 40) (w2 : c ≠ 41) : ∀ n, (lp_39_23 I x2 r3 x5 x6 n) c k = I c k := by
  intro n
  induction n with
  | zero => rfl
  | succ n ih =>
    simp only [lp_39_23, bx]
    repeat' split
    all_goals simp (disch := omega) only [bx, up2_nk, upR_nk, frI_v_40, ih]
theorem frI_v_39 {I : WI} {x1 : Int32} {x2 : Int32} {r3 : Nat} {c k : Nat} (w0 : c = 38 → k ≠ 3 ∧ k ≠ 4 ∧ k ≠ 5) (w1 : c ≠ 40) (w2 : c ≠ 41) : (v_39 I x1 x2 r3) c k = I c k := by
  unfold v_39
  try simp only [bx]
  repeat' split
  all_goals first | (with_reducible rfl) | simp (disch := omega) only [bx, up2_nk, upR_nk, frI_lp_39_23]
theorem frI_v_55 {I : WI} {b : Nat} {x1 : Int32} {x2 : Int32} {x3 : Int32} {x4 : Int32} {c k : Nat} (w0 : c ≠ (b + 5)) (w1 : c ≠ (b + 6)) (w2 : c ≠ (b + 7)) (w3 : c ≠ (b + 8)) (w4 : c ≠ (b + 9)) (w5 : c = b → k ≠ 8 ∧ k ≠ 12) : (v_55 I b x1 x2 x3 x4).2 c k = I c k := by
  unfold v_55
  try simp only [bx]
  repeat' split
  all_goals first | (with_reducible rfl) | simp (disch := omega) only [bx, up2_nk, upR_nk, frI_v_56, frI_v_57]
theorem frI_v_108 {I : WI} {x1 : Int32} {x2 : Int32} {x3 : Int32} {x4 : Int32} {c k : Nat} (w0 : c = 1 → k ≠ 8 ∧ k ≠ 12) (w1 : c ≠ 10) (w2 : c ≠ 6) (w3 : c ≠ 7) (w4 : c ≠ 8) (w5 : c ≠ 9) : (v_108 I x1 x2 x3 x4).2 c k = I c k := by
  unfold v_108
  try simp only [bx]
  repeat' split
  all_goals first | (with_reducible rfl) | simp (disch := omega) only [bx, up2_nk, upR_nk, frI_v_55]
theorem frI_v_114 {I : WI} {x1 : Int32} {x2 : Int32} {c k : Nat} (w0 : c = 35 → k ≠ 1 ∧ k ≠ 2) (w1 : c ≠ 36) (w2 : c ≠ 37) : (v_114 I x1 x2).2 c k = I c k := by
  unfold v_114
  try simp only [bx]
  repeat' split
  all_goals first | (with_reducible rfl) | simp (disch := omega) only [bx, up2_nk, upR_nk, frI_v_12]
theorem frI_v_120 {I : WI} {c k : Nat} (w0 : c = 35 → k ≠ 1 ∧ k ≠ 2) (w1 : c ≠ 36) (w2 : c ≠ 37) : (v_120 I).2 c k = I c k := by
  unfold v_120
  try simp only [bx]
  repeat' split
  all_goals first | (with_reducible rfl) | simp (disch := omega) only [bx, up2_nk, upR_nk, frI_v_12]
theorem frI_v_130 {I : WI} {x1 : Int32} {x2 : Int32} {c k : Nat} (w0 : c = 35 → k ≠ 1 ∧ k ≠ 2) (w1 : c ≠ 36) (w2 : c ≠ 37) : (v_130 I x1 x2).2 c k = I c k := by
  unfold v_130
  try simp only [bx]
  repeat' split
  all_goals first | (with_reducible rfl) | simp (disch := omega) only [bx, up2_nk, upR_nk, frI_v_120]
theorem frI_v_131 {I : WI} {x1 : Int32} {c k : Nat} (w0 : c = 35 → k ≠ 1 ∧ k ≠ 2) (w1 : c ≠ 36) (w2 : c ≠ 37) : (v_131 I x1).2 c k = I c k := by
  unfold v_131
  try simp only [bx]
  repeat' split
  all_goals first | (with_reducible rfl) | simp (disch := omega) only [bx, up2_nk, upR_nk, frI_v_120]
theorem frI_v_137 {I : WI} {x1 : Int32} {x2 : Int32} {c k : Nat} (w0 : c ≠ 43) : (v_137 I x1 x2).2 c k = I c k := by
  unfold v_137
  try simp only [bx]
  repeat' split
  all_goals first | (with_reducible rfl) | simp (disch := omega) only [bx, up2_nk, upR_nk, frI_v_8]
theorem frI_lp_139_68 {x1 : Int32} {x2 : Int32} {x3 : Int32} {c k : Nat} (w0 : c ≠ 24) : ∀ n (x4 : Int32) (I : WI), (lp_139_68 x1 x2 x3 n x4 I).2 c k = I c k := by
  intro n
  induction n with
  | zero => intros; rfl
  | succ n ih =>
    intro x4 I
    simp only [lp_139_68, bx]
    repeat' split
    all_goals simp (disch := omega) only [bx, up2_nk, upR_nk, ih]
theorem frI_v_139 {I : WI} {x1 : Int32} {x2 : Int32} {c k : Nat} (w0 : c = 21 → k ≠ 1 ∧ k ≠ 2 ∧ k ≠ 4 ∧ k ≠ 8 ∧ k ≠ 12) (w1 : c = 22 → k ≠ 0 ∧ k ≠ 1 ∧ k ≠ 2) (w2 : c ≠ 23) (w3 : c ≠ 24) (w4 : c ≠ 25) (w5 : c ≠ 26) (w6 : c ≠ 27) (w7 : c ≠ 28) (w8 : c ≠ 29) (w9 : c ≠ 30) (w10 : c = 35 → k ≠ 1 ∧ k ≠ 2) (w11 : c ≠ 36) (w12 : c ≠ 37) : (v_139 I x1 x2).2 c k = I c k := by
  unfold v_139
  try simp only [bx]
  repeat' split
  all_goals first | (with_reducible rfl) | simp (disch := omega) only [bx, up2_nk, upR_nk, frI_lp_139_68, frI_v_12, frI_v_76]
theorem frI_lp_149_4 {I : WI} {F : WF} {r1 : Nat} {a2 : Int32} {c k : Nat} (w0 : c = 24 → k ≠ 0 ∧ k ≠ 1 ∧ k ≠ 2) (w1 : c = 35 → k ≠ 1 ∧ k ≠ 2) (w2 : c ≠ 36) (w3 : c ≠ 37) : ∀ n, (lp_149_4 I F r1 a2 n).2 c k = I c k := by
  intro n
  induction n with
  | zero => rfl
  | succ n ih =>
    simp only [lp_149_4, bx]
    repeat' split
    all_goals simp (disch := omega) only [bx, up2_nk, upR_nk, frI_v_12, frI_v_147, ih]
theorem frI_v_149 {I : WI} {F : WF} {r1 : Nat} {c k : Nat} (w0 : c = 24 → k ≠ 0 ∧ k ≠ 1 ∧ k ≠ 2) (w1 : c = 35 → k ≠ 1 ∧ k ≠ 2) (w2 : c ≠ 36) (w3 : c ≠ 37) : (v_149 I F r1).2 c k = I c k := by
  unfold v_149
  try simp only [bx]
  repeat' split
  all_goals first | (with_reducible rfl) | simp (disch := omega) only [bx, up2_nk, upR_nk, frI_lp_149_4]
theorem frI_lp_152_66 {I : WI} {F : WF} {v3 : Nat} {c k : Nat} (w0 : c ≠ (v3 + 1)) (w1 : c ≠ (v3 + 2)) (w2 : c ≠ (v3 + 3)) (w3 : c = 24 → k ≠ 0 ∧ k ≠ 1 ∧ k ≠ 2) : ∀ n, (lp_152_66 I F v3 n).1 c k = I c k := by
  intro n
  induction n with
  | zero => rfl
  | succ n ih =>
    simp only [lp_152_66, bx]
    repeat' split
    all_goals simp (disch := omega) only [bx, up2_nk, upR_nk, frI_v_47, frI_v_78, ih]
theorem frF_lp_152_66 {I : WI} {F : WF} {v3 : Nat} {c k : Nat} (w0 : c ≠ (v3 + 1)) (w1 : c ≠ (v3 + 2)) (w2 : c ≠ (v3 + 3)) (w3 : c = 24 → k ≠ 0 ∧ k ≠ 1 ∧ k ≠ 2) : ∀ n, (lp_152_66 I F v3 n).2 c k = F c k := by
  intro n
  induction n with
  | zero => rfl
  | succ n ih =>
    simp only [lp_152_66, bx]
    repeat' split
    all_goals simp (disch := omega) only [bx, up2_nk, upR_nk, frF_v_47, ih]
theorem frI_v_152 {I : WI} {F : WF} {x1 : Int32} {x2 : Int32} {c k : Nat} (w0 : c ≠ ((58 + 4 * x1.toNatClampNeg) + 1)) (w1 : c ≠ ((58 + 4 * x1.toNatClampNeg) + 2)) (w2 : c ≠ ((58 + 4 * x1.toNatClampNeg) + 3)) (w3 : c = (58 + 4 * x1.toNatClampNeg) → k ≠ 0 ∧ k ≠ 1) (w4 : c = 21 → k ≠ 1 ∧ k ≠ 2 ∧ k ≠ 4 ∧ k ≠ 8 ∧ k ≠ 12) (w5 : c = 22 → k ≠ 0 ∧ k ≠ 1 ∧ k ≠ 2) (w6 : c ≠ 23) (w7 : c ≠ 24) (w8 : c ≠ 25) (w9 : c ≠ 26) (w10 : c ≠ 27) (w11 : c ≠ 28) (w12 : c ≠ 29) (w13 : c ≠ 30) (w14 : c = 35 → k ≠ 1 ∧ k ≠ 2) (w15 : c ≠ 36) (w16 : c ≠ 37) : (v_152 I F x1 x2).2.1 c k = I c k := by
  unfold v_152
  try simp only [bx]
  repeat' split
  all_goals first | (with_reducible rfl) | simp (disch := omega) only [bx, up2_nk, upR_nk, frI_lp_152_66, frI_v_12, frI_v_46, frI_v_76]
theorem frF_v_152 {I : WI} {F : WF} {x1 : Int32} {x2 : Int32} {c k : Nat} (w0 : c ≠ ((58 + 4 * x1.toNatClampNeg) + 1)) (w1 : c ≠ ((58 + 4 * x1.toNatClampNeg) + 2)) (w2 : c ≠ ((58 + 4 * x1.toNatClampNeg) + 3)) (w3 : c = (58 + 4 * x1.toNatClampNeg) → k ≠ 0 ∧ k ≠ 1) (w4 : c = 21 → k ≠ 1 ∧ k ≠ 2 ∧ k ≠ 4 ∧ k ≠ 8 ∧ k ≠ 12) (w5 : c = 22 → k ≠ 0 ∧ k ≠ 1 ∧ k ≠ 2) (w6 : c ≠ 23) (w7 : c ≠ 24) (w8 : c ≠ 25) (w9 : c ≠ 26) (w10 : c ≠ 27) (w11 : c ≠ 28) (w12 : c ≠ 29) (w13 : c ≠ 30) (w14 : c = 35 → k ≠ 1 ∧ k ≠ 2) (w15 : c ≠ 36) (w16 : c ≠ 37) : (v_152 I F x1 x2).2.2 c k = F c k := by
  unfold v_152
  try simp only [bx]
  repeat' split
  all_goals first | (with_reducible rfl) | simp (disch := omega) only [bx, up2_nk, upR_nk, frF_lp_152_66, frF_v_46]
theorem frI_v_155 {I : WI} {x1 : Int32} {c k : Nat} (w0 : c = 35 → k ≠ 1 ∧ k ≠ 2) (w1 : c ≠ 36) (w2 : c ≠ 37) : (v_155 I x1).2 c k = I c k := by
  unfold v_155
  try simp only [bx]
  repeat' split
  all_goals first | (with_reducible rfl) | simp (disch := omega) only [bx, up2_nk, upR_nk, frI_v_120]
theorem frI_lp_163_55 {F : WF} {x3 : Int32} {x4 : Int32} {v6 : Nat} {c k : Nat} (w0 : c = 1 → k ≠ 8 ∧ k ≠ 12) (w1 : c ≠ 10) (w2 : c ≠ 6) (w3 : c ≠ 7) (w4 : c ≠ 8) (w5 : c ≠ 9) : ∀ n (x7 : Int32) (x8 : Int32) (I : WI), (lp_163_55 F x3 x4 v6 n x7 x8 I).2 c k = I c k := by
  intro n
  induction n with
  | zero => intros; rfl
  | succ n ih =>
    intro x7 x8 I
    simp only [lp_163_55, bx]
    repeat' split
    all_goals simp (disch := omega) only [bx, up2_nk, upR_nk, frI_v_108, ih]
theorem frI_v_163 {I : WI} {F : WF} {x1 : Int32} {x2 : Int32} {x3 : Int32} {x4 : Int32} {c k : Nat} (w0 : c = 1 → k ≠ 8 ∧ k ≠ 12) (w1 : c ≠ 10) (w2 : c ≠ 6) (w3 : c ≠ 7) (w4 : c ≠ 8) (w5 : c ≠ 9) : (v_163 I F x1 x2 x3 x4).2 c k = I c k := by
  unfold v_163
  try simp only [bx]
  repeat' split
  all_goals first | (with_reducible rfl) | simp (disch := omega) only [bx, up2_nk, upR_nk, frI_lp_163_55]
theorem frI_v_164 {I : WI} {F : WF} {x1 : Int32} {x2 : Int32} {c k : Nat} (w0 : c = 35 → k ≠ 1 ∧ k ≠ 2) (w1 : c ≠ 36) (w2 : c ≠ 37) (w3 : c = 4 → k ≠ 0 ∧ k ≠ 1 ∧ k ≠ 2) : (v_164 I F x1 x2).2 c k = I c k := by
  unfold v_164
  try simp only [bx]
  repeat' split
  all_goals first | (with_reducible rfl) | simp (disch := omega) only [bx, up2_nk, upR_nk, frI_v_120, frI_v_70]
theorem frI_lp_250_70 {I : WI} {x1 : Int32} {x4 : Int32} {c k : Nat} (w0 : c ≠ 100) : ∀ n, (lp_250_70 I x1 x4 n) c k = I c k := by
  intro n
  induction n with
  | zero => rfl
  | succ n ih =>
    simp only [lp_250_70, bx]
    repeat' split
    all_goals simp (disch := omega) only [bx, up2_nk, upR_nk, ih]
theorem frI_lp_250_30 {I : WI} {x1 : Int32} {a3 : Int32} {c k : Nat} (w0 : c ≠ 100) : ∀ n, (lp_250_30 I x1 a3 n).2 c k = I c k := by
  intro n
  induction n with
  | zero => rfl
  | succ n ih =>
    simp only [lp_250_30, bx]
    repeat' split
    all_goals simp (disch := omega) only [bx, up2_nk, upR_nk, frI_lp_250_70, ih]
theorem frI_v_250 {I : WI} {x1 : Int32} {x2 : Int32} {c k : Nat} (w0 : c ≠ 100) : (v_250 I x1 x2).2 c k = I c k := by
  unfold v_250
  try simp only [bx]
  repeat' split
  all_goals first | (with_reducible rfl) | simp (disch := omega) only [bx, up2_nk, upR_nk, frI_lp_250_30]
theorem frI_lp_35_30 {F : WF} {x1 : Int32} {r2 : Nat} {c k : Nat} (w0 : c = 38 → k ≠ 3 ∧ k ≠ 4 ∧ k ≠ 5 ∧ k ≠ 6) (w1 : c ≠ 40) (w2 : c ≠ 41) : ∀ n (x4 : Int32) (x5 : Int32) (I : WI), (lp_35_30 F x1 r2 n x4 x5 I).1 c k = I c k := by
  intro n
  induction n with
  | zero => intros; rfl
  | succ n ih =>
    intro x4 x5 I
    simp only [lp_35_30, bx]
    repeat' split
    all_goals simp (disch := omega) only [bx, up2_nk, upR_nk, frI_v_39, ih]
end
