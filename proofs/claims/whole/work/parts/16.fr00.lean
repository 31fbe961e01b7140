section
theorem ite_gen {α : Type} {P : α → Prop} {c : Prop} [Decidable c] {a b : α} (h1 : c → P a) (h2 : ¬ c → P b) : P (if c then a else b) := by
  split
  · exact h1 ‹_›
  · exact h2 ‹_›
theorem bx_gen {α β : Type} {P : β → Prop} {a : α} {f : α → β} (h : ∀ r, r = a → P (f r)) : P (bx a f) := h a rfl
theorem up2_nk {α : Type} {f : Nat → Nat → α} {c k c' k' : Nat} {v : α} (h : ¬ (c' = c ∧ k' = k)) : up2 f c k v c' k' = f c' k' := by simp only [up2]; rw [if_neg h]
theorem upR_nk {α : Type} {f : Nat → Nat → α} {c c' k' : Nat} {g : Nat → α} (h : c' ≠ c) : upR f c g c' k' = f c' k' := by unfold upR; rw [if_neg h]
theorem frI_v_14 {I : WI} {x1 : Int32} {c k : Nat} (w0 : c = 35 → k ≠ 1) (w1 : c ≠ 36) : (v_14 I x1) c k = I c k := by
  unfold v_14
  try simp only [bx]
  repeat' split
  all_goals first | (with_reducible rfl) | simp (disch := omega) only [bx, up2_nk, upR_nk]
theorem frI_v_32 {I : WI} {b : Nat} {r1 : Nat} {c k : Nat} (w0 : c ≠ (b + 1)) (w1 : c = b → k ≠ 0 ∧ k ≠ 1 ∧ k ≠ 2) : (v_32 I b r1) c k = I c k := by
  unfold v_32
  try simp only [bx]
  repeat' split
  all_goals first | (with_reducible rfl) | simp (disch := omega) only [bx, up2_nk, upR_nk]
theorem frI_v_47 {I : WI} {F : WF} {b : Nat} {x1 : Int32} {x2 : Int32} {c k : Nat} (w0 : c ≠ (b + 1)) (w1 : c ≠ (b + 2)) (w2 : c ≠ (b + 3)) : (v_47 I F b x1 x2).1 c k = I c k := by
  unfold v_47
  try simp only [bx]
  repeat' split
  all_goals first | (with_reducible rfl) | simp (disch := omega) only [bx, up2_nk, upR_nk]
theorem frF_v_47 {I : WI} {F : WF} {b : Nat} {x1 : Int32} {x2 : Int32} {c k : Nat} (w0 : c ≠ (b + 1)) (w1 : c ≠ (b + 2)) (w2 : c ≠ (b + 3)) : (v_47 I F b x1 x2).2 c k = F c k := by
  unfold v_47
  try simp only [bx]
  repeat' split
  all_goals first | (with_reducible rfl) | simp (disch := omega) only [bx, up2_nk, upR_nk]
theorem frF_v_49 {F : WF} {b : Nat} {x1 : Int32} {c k : Nat} (w0 : c ≠ (b + 1)) : (v_49 F b x1) c k = F c k := by
  unfold v_49
  try simp only [bx]
  repeat' split
  all_goals first | (with_reducible rfl) | simp (disch := omega) only [bx, up2_nk, upR_nk]
theorem frI_v_50 {I : WI} {F : WF} {b : Nat} {x1 : Int32} {r2 : Nat} {x3 : Int32} {x4 : Int32} {c k : Nat} (w0 : c ≠ (r2 + 1)) (w1 : c ≠ (r2 + 2)) (w2 : c ≠ (r2 + 3)) : (v_50 I F b x1 r2 x3 x4).1 c k = I c k := by
  unfold v_50
  try simp only [bx]
  repeat' split
  all_goals first | (with_reducible rfl) | simp (disch := omega) only [bx, up2_nk, upR_nk]
theorem frF_v_50 {I : WI} {F : WF} {b : Nat} {x1 : Int32} {r2 : Nat} {x3 : Int32} {x4 : Int32} {c k : Nat} (w0 : c ≠ (r2 + 1)) (w1 : c ≠ (r2 + 2)) (w2 : c ≠ (r2 + 3)) : (v_50 I F b x1 r2 x3 x4).2 c k = F c k := by
  unfold v_50
  try simp only [bx]
  repeat' split
  all_goals first | (with_reducible rfl) | simp (disch := omega) only [bx, up2_nk, upR_nk]
theorem frI_lp_54_2 {I : WI} {b : Nat} {x1 : Int32} {c k : Nat} (w0 : c ≠ (b + 5)) (w1 : c ≠ (b + 6)) : ∀ n, (lp_54_2 I b x1 n) c k = I c k := by
  intro n
  induction n with
  | zero => rfl
  | succ n ih =>
    simp only [lp_54_2, bx]
    repeat' split
    all_goals simp (disch := omega) only [bx, up2_nk, upR_nk, ih]
theorem frI_v_54 {I : WI} {b : Nat} {x1 : Int32} {c k : Nat} (w0 : c ≠ (b + 5)) (w1 : c ≠ (b + 6)) : (v_54 I b x1) c k = I c k := by
  unfold v_54
  try simp only [bx]
  repeat' split
  all_goals first | (with_reducible rfl) | simp (disch := omega) only [bx, up2_nk, upR_nk, frI_lp_54_2]
theorem frI_v_56 {I : WI} {b : Nat} {x1 : Int32} {x2 : Int32} {c k : Nat} (w0 : c = b → k ≠ 12) : (v_56 I b x1 x2) c k = I c k := by
  unfold v_56
  try simp only [bx]
  repeat' split
  all_goals first | (with_reducible rfl) | simp (disch := omega) only [bx, up2_nk, upR_nk]
theorem frI_v_69 {I : WI} {b : Nat} {x1 : Int32} {x2 : Int32} {c k : Nat} (w0 : c = (b + 1) → k ≠ 0 ∧ k ≠ 1 ∧ k ≠ 2) (w1 : c ≠ (b + 2)) (w2 : c = b → k ≠ 1) : (v_69 I b x1 x2).2 c k = I c k := by
  unfold v_69
  try simp only [bx]
  repeat' split
  all_goals first | (with_reducible rfl) | simp (disch := omega) only [bx, up2_nk, upR_nk]
theorem frI_v_70 {I : WI} {b : Nat} {x1 : Int32} {x2 : Int32} {x3 : Int32} {c k : Nat} (w0 : c = (b + 3) → k ≠ 0 ∧ k ≠ 1 ∧ k ≠ 2) : (v_70 I b x1 x2 x3) c k = I c k := by
  unfold v_70
  try simp only [bx]
  repeat' split
  all_goals first | (with_reducible rfl) | simp (disch := omega) only [bx, up2_nk, upR_nk]
theorem frI_v_76 {I : WI} {b : Nat} {r1 : Nat} {c k : Nat} (w0 : c = (b + 1) → k ≠ 0 ∧ k ≠ 1 ∧ k ≠ 2) (w1 : c ≠ (b + 2)) (w2 : c ≠ (b + 3)) (w3 : c ≠ (b + 4)) (w4 : c ≠ (b + 5)) (w5 : c ≠ (b + 6)) (w6 : c ≠ (b + 7)) (w7 : c ≠ (b + 8)) (w8 : c ≠ (b + 9)) (w9 : c = b → k ≠ 1 ∧ k ≠ 2 ∧ k ≠ 4 ∧ k ≠ 8 ∧ k ≠ 12) : (v_76 I b r1) c k = I c k := by
  unfold v_76
  try simp only [bx]
  repeat' split
  all_goals first | (with_reducible rfl) | simp (disch := omega) only [bx, up2_nk, upR_nk, frI_v_32]
theorem frI_v_80 {I : WI} {b : Nat} {c k : Nat} (w0 : c = b → k ≠ 1 ∧ k ≠ 2) : (v_80 I b) c k = I c k := by
  unfold v_80
  try simp only [bx]
  repeat' split
  all_goals first | (with_reducible rfl) | simp (disch := omega) only [bx, up2_nk, upR_nk]
theorem frI_v_81 {I : WI} {b : Nat} {x1 : Int32} {c k : Nat} (w0 : c ≠ (b + 1)) (w1 : c = b → k ≠ 1) : (v_81 I b x1) c k = I c k := by
  unfold v_81
  try simp only [bx]
  repeat' split
  all_goals first | (with_reducible rfl) | simp (disch := omega) only [bx, up2_nk, upR_nk]
theorem frI_v_83 {I : WI} {x1 : Int32} {c k : Nat} (w0 : c = 31 → k ≠ 1) (w1 : c ≠ 32) : (v_83 I x1).2 c k = I c k := by
  unfold v_83
  try simp only [bx]
  repeat' split
  all_goals first | (with_reducible rfl) | simp (disch := omega) only [bx, up2_nk, upR_nk]
theorem frI_lp_94_5 {c k : Nat} (w0 : c = 31 → k ≠ 3 ∧ k ≠ 5) : ∀ n (I : WI), (lp_94_5 n I) c k = I c k := by
  intro n
  induction n with
  | zero => intros; rfl
  | succ n ih =>
    intro I
    simp only [lp_94_5, bx]
    repeat' split
    all_goals simp (disch := omega) only [bx, up2_nk, upR_nk, ih]
theorem frI_v_94 {I : WI} {c k : Nat} (w0 : c = 31 → k ≠ 3 ∧ k ≠ 4 ∧ k ≠ 5) : (v_94 I) c k = I c k := by
  unfold v_94
  try simp only [bx]
  repeat' split
  all_goals first | (with_reducible rfl) | simp (disch := omega) only [bx, up2_nk, upR_nk, frI_lp_94_5]
theorem frI_v_96 {I : WI} {c k : Nat} (w0 : c = 31 → k ≠ 4 ∧ k ≠ 6) : (v_96 I) c k = I c k := by
  unfold v_96
  try simp only [bx]
  repeat' split
  all_goals first | (with_reducible rfl) | simp (disch := omega) only [bx, up2_nk, upR_nk]
theorem frI_v_125 {I : WI} {x1 : Int32} {c k : Nat} (w0 : c = 31 → k ≠ 1) (w1 : c ≠ 32) : (v_125 I x1).2 c k = I c k := by
  unfold v_125
  try simp only [bx]
  repeat' split
  all_goals first | (with_reducible rfl) | simp (disch := omega) only [bx, up2_nk, upR_nk, frI_v_83]
theorem frI_v_127 {I : WI} {x1 : Int32} {c k : Nat} (w0 : c = 1 → k ≠ 2) : (v_127 I x1).2 c k = I c k := by
  unfold v_127
  try simp only [bx]
  repeat' split
  all_goals first | (with_reducible rfl) | simp (disch := omega) only [bx, up2_nk, upR_nk]
theorem frI_v_153 {I : WI} {c k : Nat} (w0 : c = 0 → k ≠ 10) (w1 : c = 11 → k ≠ 1 ∧ k ≠ 2 ∧ k ≠ 4 ∧ k ≠ 8 ∧ k ≠ 12) (w2 : c = 12 → k ≠ 0 ∧ k ≠ 1 ∧ k ≠ 2) (w3 : c ≠ 13) (w4 : c ≠ 14) (w5 : c ≠ 15) (w6 : c ≠ 16) (w7 : c ≠ 17) (w8 : c ≠ 18) (w9 : c ≠ 19) (w10 : c ≠ 20) : (v_153 I).2 c k = I c k := by
  unfold v_153
  try simp only [bx]
  repeat' split
  all_goals first | (with_reducible rfl) | simp (disch := omega) only [bx, up2_nk, upR_nk, frI_v_76]
theorem frI_v_154 {I : WI} {c k : Nat} (w0 : c = 1 → k ≠ 1 ∧ k ≠ 2 ∧ k ≠ 4 ∧ k ≠ 8 ∧ k ≠ 12) (w1 : c ≠ 10) (w2 : c = 2 → k ≠ 0 ∧ k ≠ 1 ∧ k ≠ 2) (w3 : c ≠ 3) (w4 : c ≠ 4) (w5 : c ≠ 5) (w6 : c ≠ 6) (w7 : c ≠ 7) (w8 : c ≠ 8) (w9 : c ≠ 9) : (v_154 I).2 c k = I c k := by
  unfold v_154
  try simp only [bx]
  repeat' split
  all_goals first | (with_reducible rfl) | simp (disch := omega) only [bx, up2_nk, upR_nk, frI_v_76]
theorem frF_v_159 {I : WI} {F : WF} {x1 : Int32} {x2 : Int32} {c k : Nat} (w0 : c ≠ ((58 + 4 * x1.toNatClampNeg) + 1)) : (v_159 I F x1 x2).2 c k = F c k := by
  unfold v_159
  try simp only [bx]
  repeat' split
  all_goals first | (with_reducible rfl) | simp (disch := omega) only [bx, up2_nk, upR_nk, frF_v_49]
theorem frI_v_161 {I : WI} {F : WF} {x1 : Int32} {x2 : Int32} {x3 : Int32} {x4 : Int32} {x5 : Int32} {c k : Nat} (w0 : c ≠ ((58 + 4 * x3.toNatClampNeg) + 1)) (w1 : c ≠ ((58 + 4 * x3.toNatClampNeg) + 2)) (w2 : c ≠ ((58 + 4 * x3.toNatClampNeg) + 3)) : (v_161 I F x1 x2 x3 x4 x5).2.1 c k = I c k := by
  unfold v_161
  try simp only [bx]
  repeat' split
  all_goals first | (with_reducible rfl) | simp (disch := omega) only [bx, up2_nk, upR_nk, frI_v_50]
theorem frF_v_161 {I : WI} {F : WF} {x1 : Int32} {x2 : Int32} {x3 : Int32} {x4 : Int32} {x5 : Int32} {c k : Nat} (w0 : c ≠ ((58 + 4 * x3.toNatClampNeg) + 1)) (w1 : c ≠ ((58 + 4 * x3.toNatClampNeg) + 2)) (w2 : c ≠ ((58 + 4 * x3.toNatClampNeg) + 3)) : (v_161 I F x1 x2 x3 x4 x5).2.2 c k = F c k := by
  unfold v_161
  try simp only [bx]
  repeat' split
  all_goals first | (with_reducible rfl) | simp (disch := omega) only [bx, up2_nk, upR_nk, frF_v_50]
theorem frI_v_168 {I : WI} {x1 : Int32} {x2 : Int32} {x3 : Int32} {x4 : Int32} {x5 : Int32} {x6 : Int32} {x7 : Int32} {x8 : Int32} {x9 : Int32} {c k : Nat} (w0 : c ≠ 75) : (v_168 I x1 x2 x3 x4 x5 x6 x7 x8 x9) c k = I c k := by
  unfold v_168
  try simp only [bx]
  repeat' split
  all_goals first | (with_reducible rfl) | simp (disch := omega) only [bx, up2_nk, upR_nk]
theorem frI_lp_177_9 {I : WI} {x1 : Int32} {x2 : Int32} {c k : Nat} (w0 : c ≠ 81) (w1 : c ≠ 82) : ∀ n, (lp_177_9 I x1 x2 n) c k = I c k := by
  intro n
  induction n with
  | zero => rfl
  | succ n ih =>
    simp only [lp_177_9, bx]
    repeat' split
    all_goals simp (disch := omega) only [bx, up2_nk, upR_nk, ih]
theorem frI_v_177 {I : WI} {x1 : Int32} {x2 : Int32} {c k : Nat} (w0 : c ≠ 81) (w1 : c ≠ 82) (w2 : c ≠ 83) (w3 : c ≠ 86) : (v_177 I x1 x2) c k = I c k := by
  unfold v_177
  try simp only [bx]
  repeat' split
  all_goals first | (with_reducible rfl) | simp (disch := omega) only [bx, up2_nk, upR_nk, frI_lp_177_9]
theorem frI_v_181 {I : WI} {x1 : Int32} {x2 : Int32} {c k : Nat} (w0 : c ≠ 87) : (v_181 I x1 x2).2 c k = I c k := by
  unfold v_181
  try simp only [bx]
  repeat' split
  all_goals first | (with_reducible rfl) | simp (disch := omega) only [bx, up2_nk, upR_nk]
theorem frI_v_191 {I : WI} {x1 : Int32} {c k : Nat} (w0 : c = 74 → k ≠ 6) (w1 : c ≠ 77) : (v_191 I x1).2 c k = I c k := by
  unfold v_191
  try simp only [bx]
  repeat' split
  all_goals first | (with_reducible rfl) | simp (disch := omega) only [bx, up2_nk, upR_nk]
theorem frI_v_199 {I : WI} {c k : Nat} (w0 : c = 74 → k ≠ 32 ∧ k ≠ 33) : (v_199 I) c k = I c k := by
  unfold v_199
  try simp only [bx]
  repeat' split
  all_goals first | (with_reducible rfl) | simp (disch := omega) only [bx, up2_nk, upR_nk]
theorem frI_v_209 {I : WI} {x1 : Int32} {c k : Nat} (w0 : c = 74 → k ≠ 4) : (v_209 I x1).2 c k = I c k := by
  unfold v_209
  try simp only [bx]
  repeat' split
  all_goals first | (with_reducible rfl) | simp (disch := omega) only [bx, up2_nk, upR_nk]
theorem frI_lp_230_4 {I : WI} {x1 : Int32} {a2 : Int32} {c k : Nat} (w0 : c ≠ 86) : ∀ n, (lp_230_4 I x1 a2 n).2 c k = I c k := by
  intro n
  induction n with
  | zero => rfl
  | succ n ih =>
    simp only [lp_230_4, bx]
    repeat' split
    all_goals simp (disch := omega) only [bx, up2_nk, upR_nk, ih]
theorem frI_v_230 {I : WI} {x1 : Int32} {c k : Nat} (w0 : c ≠ 86) : (v_230 I x1).2 c k = I c k := by
  unfold v_230
  try simp only [bx]
  repeat' split
  all_goals first | (with_reducible rfl) | simp (disch := omega) only [bx, up2_nk, upR_nk, frI_lp_230_4]
theorem frI_lp_232_24 {I : WI} {x3 : Int32} {a4 : Int32} {c k : Nat} (w0 : c ≠ 80) : ∀ n, (lp_232_24 I x3 a4 n).2 c k = I c k := by
  intro n
  induction n with
  | zero => rfl
  | succ n ih =>
    simp only [lp_232_24, bx]
    repeat' split
    all_goals simp (disch := omega) only [bx, up2_nk, upR_nk, ih]
theorem frI_lp_232_10 {I : WI} {a2 : Int32} {c k : Nat} (w0 : c ≠ 80) (w1 : c ≠ 83) : ∀ n, (lp_232_10 I a2 n).2 c k = I c k := by
  intro n
  induction n with
  | zero => rfl
  | succ n ih =>
    simp only [lp_232_10, bx]
    repeat' split
    all_goals simp (disch := omega) only [bx, up2_nk, upR_nk, frI_lp_232_24, ih]
theorem frI_lp_232_210 {I : WI} {c k : Nat} (w0 : c ≠ 81) (w1 : c ≠ 82) (w2 : c ≠ 83) (w3 : c ≠ 86) : ∀ n, (lp_232_210 I n) c k = I c k := by
  intro n
  induction n with
  | zero => rfl
  | succ n ih =>
    simp only [lp_232_210, bx]
    repeat' split
    all_goals simp (disch := omega) only [bx, up2_nk, upR_nk, frI_v_177, ih]
theorem frI_v_232 {I : WI} {c k : Nat} (w0 : c ≠ 80) (w1 : c ≠ 81) (w2 : c ≠ 82) (w3 : c ≠ 83) (w4 : c ≠ 86) : (v_232 I).2 c k = I c k := by
  unfold v_232
  try simp only [bx]
  repeat' split
  all_goals first | (with_reducible rfl) | simp (disch := omega) only [bx, up2_nk, upR_nk, frI_lp_232_10, frI_lp_232_210, frI_v_230]
theorem frI_lp_234_2 {I : WI} {c k : Nat} (w0 : c ≠ 90) (w1 : c ≠ 91) (w2 : c ≠ 92) (w3 : c ≠ 94) : ∀ n, (lp_234_2 I n) c k = I c k := by
  intro n
  induction n with
  | zero => rfl
  | succ n ih =>
    simp only [lp_234_2, bx]
    repeat' split
    all_goals simp (disch := omega) only [bx, up2_nk, upR_nk, ih]
theorem frI_lp_234_64 {I : WI} {c k : Nat} (w0 : c ≠ 93) : ∀ n, (lp_234_64 I n) c k = I c k := by
  intro n
  induction n with
  | zero => rfl
  | succ n ih =>
    simp only [lp_234_64, bx]
    repeat' split
    all_goals simp (disch := omega) only [bx, up2_nk, upR_nk, ih]
theorem frI_lp_234_89 {I : WI} {c k : Nat} (w0 : c ≠ 95) : ∀ n, (lp_234_89 I n) c k = I c k := by
  intro n
  induction n with
  | zero => rfl
  | succ n ih =>
    simp only [lp_234_89, bx]
    repeat' split
    all_goals simp (disch := omega) only [bx, up2_nk, upR_nk, ih]
theorem frI_v_234 {I : WI} {c k : Nat} (w0 : c ≠ 90) (w1 : c ≠ 91) (w2 : c ≠ 92) (w3 : c ≠ 93) (w4 : c ≠ 94) (w5 : c ≠ 95) : (v_234 I) c k = I c k := by
  unfold v_234
  try simp only [bx]
  repeat' split
  all_goals first | (with_reducible rfl) | simp (disch := omega) only [bx, up2_nk, upR_nk, frI_lp_234_2, frI_lp_234_64, frI_lp_234_89]
theorem frI_lp_235_2 {I : WI} {c k : Nat} (w0 : c ≠ 80) (w1 : c ≠ 81) (w2 : c ≠ 82) (w3 : c ≠ 86) : ∀ n, (lp_235_2 I n) c k = I c k := by
  intro n
  induction n with
  | zero => rfl
  | succ n ih =>
    simp only [lp_235_2, bx]
    repeat' split
    all_goals simp (disch := omega) only [bx, up2_nk, upR_nk, ih]
theorem frI_lp_235_64 {I : WI} {c k : Nat} (w0 : c ≠ 83) : ∀ n, (lp_235_64 I n) c k = I c k := by
  intro n
  induction n with
  | zero => rfl
  | succ n ih =>
    simp only [lp_235_64, bx]
    repeat' split
    all_goals simp (disch := omega) only [bx, up2_nk, upR_nk, ih]
theorem frI_lp_235_89 {I : WI} {c k : Nat} (w0 : c ≠ 79) : ∀ n, (lp_235_89 I n) c k = I c k := by
  intro n
  induction n with
  | zero => rfl
  | succ n ih =>
    simp only [lp_235_89, bx]
    repeat' split
    all_goals simp (disch := omega) only [bx, up2_nk, upR_nk, ih]
theorem frI_v_235 {I : WI} {c k : Nat} (w0 : c ≠ 79) (w1 : c ≠ 80) (w2 : c ≠ 81) (w3 : c ≠ 82) (w4 : c ≠ 83) (w5 : c ≠ 86) : (v_235 I) c k = I c k := by
  unfold v_235
  try simp only [bx]
  repeat' split
  all_goals first | (with_reducible rfl) | simp (disch := omega) only [bx, up2_nk, upR_nk, frI_lp_235_2, frI_lp_235_64, frI_lp_235_89]
theorem frI_lp_257_2 {I : WI} {x1 : Int32} {c k : Nat} (w0 : c ≠ 79) : ∀ n, (lp_257_2 I x1 n) c k = I c k := by
  intro n
  induction n with
  | zero => rfl
  | succ n ih =>
    simp only [lp_257_2, bx]
    repeat' split
    all_goals simp (disch := omega) only [bx, up2_nk, upR_nk, ih]
theorem frI_v_257 {I : WI} {x1 : Int32} {c k : Nat} (w0 : c ≠ 79) : (v_257 I x1) c k = I c k := by
  unfold v_257
  try simp only [bx]
  repeat' split
  all_goals first | (with_reducible rfl) | simp (disch := omega) only [bx, up2_nk, upR_nk, frI_lp_257_2]
theorem frI_v_265 {I : WI} {x1 : Int32} {x2 : Int32} {x3 : Int32} {c k : Nat} (w0 : c = 74 → k ≠ 4) (w1 : c = 78 → k ≠ 3 ∧ k ≠ 4) (w2 : c ≠ 87) : (v_265 I x1 x2 x3) c k = I c k := by
  unfold v_265
  try simp only [bx]
  repeat' split
  all_goals first | (with_reducible rfl) | simp (disch := omega) only [bx, up2_nk, upR_nk]
theorem frI_lp_267_77 {x1 : Int32} {x2 : Int32} {x3 : Int32} {c k : Nat} (w0 : c ≠ 114) (w1 : c ≠ 115) (w2 : c ≠ 116) : ∀ n (x4 : Int32) (I : WI) (F : WF), (lp_267_77 x1 x2 x3 n x4 I F).1 c k = I c k := by
  intro n
  induction n with
  | zero => intros; rfl
  | succ n ih =>
    intro x4 I F
    simp only [lp_267_77, bx]
    repeat' split
    all_goals simp (disch := omega) only [bx, up2_nk, upR_nk, ih]
theorem frF_lp_267_77 {x1 : Int32} {x2 : Int32} {x3 : Int32} {c k : Nat} (w0 : c ≠ 114) (w1 : c ≠ 115) (w2 : c ≠ 116) : ∀ n (x4 : Int32) (I : WI) (F : WF), (lp_267_77 x1 x2 x3 n x4 I F).2 c k = F c k := by
  intro n
  induction n with
  | zero => intros; rfl
  | succ n ih =>
    intro x4 I F
    simp only [lp_267_77, bx]
    repeat' split
    all_goals simp (disch := omega) only [bx, up2_nk, upR_nk, ih]
theorem frI_v_267 {I : WI} {F : WF} {x1 : Int32} {x2 : Int32} {x3 : Int32} {c k : Nat} (w0 : c ≠ 111) (w1 : c ≠ 112) (w2 : c ≠ 113) (w3 : c ≠ 114) (w4 : c ≠ 115) (w5 : c ≠ 116) : (v_267 I F x1 x2 x3).2.1 c k = I c k := by
  unfold v_267
  try simp only [bx]
  repeat' split
  all_goals first | (with_reducible rfl) | simp (disch := omega) only [bx, up2_nk, upR_nk, frI_lp_267_77]
theorem frF_v_267 {I : WI} {F : WF} {x1 : Int32} {x2 : Int32} {x3 : Int32} {c k : Nat} (w0 : c ≠ 111) (w1 : c ≠ 112) (w2 : c ≠ 113) (w3 : c ≠ 114) (w4 : c ≠ 115) (w5 : c ≠ 116) : (v_267 I F x1 x2 x3).2.2 c k = F c k := by
  unfold v_267
  try simp only [bx]
  repeat' split
  all_goals first | (with_reducible rfl) | simp (disch := omega) only [bx, up2_nk, upR_nk, frF_lp_267_77]
theorem frI_lp_268_2 {I : WI} {c k : Nat} (w0 : c ≠ 107) : ∀ n, (lp_268_2 I n) c k = I c k := by
  intro n
  induction n with
  | zero => rfl
  | succ n ih =>
    simp only [lp_268_2, bx]
    repeat' split
    all_goals simp (disch := omega) only [bx, up2_nk, upR_nk, ih]
theorem frI_lp_268_28 {I : WI} {c k : Nat} (w0 : c ≠ 103) (w1 : c ≠ 104) (w2 : c ≠ 105) (w3 : c ≠ 108) (w4 : c ≠ 109) (w5 : c ≠ 110) : ∀ n, (lp_268_28 I n) c k = I c k := by
  intro n
  induction n with
  | zero => rfl
  | succ n ih =>
    simp only [lp_268_28, bx]
    repeat' split
    all_goals simp (disch := omega) only [bx, up2_nk, upR_nk, ih]
theorem frI_lp_268_114 {I : WI} {c k : Nat} (w0 : c ≠ 101) : ∀ n, (lp_268_114 I n) c k = I c k := by
  intro n
  induction n with
  | zero => rfl
  | succ n ih =>
    simp only [lp_268_114, bx]
    repeat' split
    all_goals simp (disch := omega) only [bx, up2_nk, upR_nk, ih]
theorem frI_lp_268_140 {I : WI} {c k : Nat} (w0 : c ≠ 106) : ∀ n, (lp_268_140 I n) c k = I c k := by
  intro n
  induction n with
  | zero => rfl
  | succ n ih =>
    simp only [lp_268_140, bx]
    repeat' split
    all_goals simp (disch := omega) only [bx, up2_nk, upR_nk, ih]
theorem frI_lp_268_165 {I : WI} {c k : Nat} (w0 : c ≠ 102) : ∀ n, (lp_268_165 I n) c k = I c k := by
  intro n
  induction n with
  | zero => rfl
  | succ n ih =>
    simp only [lp_268_165, bx]
    repeat' split
    all_goals simp (disch := omega) only [bx, up2_nk, upR_nk, ih]
theorem frI_v_268 {I : WI} {c k : Nat} (w0 : c ≠ 101) (w1 : c ≠ 102) (w2 : c ≠ 103) (w3 : c ≠ 104) (w4 : c ≠ 105) (w5 : c ≠ 106) (w6 : c ≠ 107) (w7 : c ≠ 108) (w8 : c ≠ 109) (w9 : c ≠ 110) (w10 : c = 74 → k ≠ 60 ∧ k ≠ 61 ∧ k ≠ 62) : (v_268 I).2 c k = I c k := by
  unfold v_268
  try simp only [bx]
  repeat' split
  all_goals first | (with_reducible rfl) | simp (disch := omega) only [bx, up2_nk, upR_nk, frI_lp_268_114, frI_lp_268_140, frI_lp_268_165, frI_lp_268_2, frI_lp_268_28]
end
