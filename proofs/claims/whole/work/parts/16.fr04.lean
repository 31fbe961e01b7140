section
theorem frL_v_214 {I : WI} {L : WL} {x1 : Int32} {x2 : Int32} {c k : Nat} (w0 : c = 74 → k ≠ 19 ∧ k ≠ 20 ∧ k ≠ 21 ∧ k ≠ 22 ∧ k ≠ 23 ∧ k ≠ 24 ∧ k ≠ 25 ∧ k ≠ 26 ∧ k ≠ 27 ∧ k ≠ 28 ∧ k ≠ 29 ∧ k ≠ 30 ∧ k ≠ 31 ∧ k ≠ 32 ∧ k ≠ 33) (w1 : c ≠ 88) (w2 : c ≠ 89) : (v_214 I L x1 x2).2.2 c k = L c k := by
  unfold v_214
  try simp only [bx]
  repeat' split
  all_goals first | (with_reducible rfl) | simp (disch := omega) only [bx, up2_nk, upR_nk, frL_v_193]
theorem frI_v_215 {I : WI} {L : WL} {x1 : Int32} {c k : Nat} (w0 : c = 74 → k ≠ 19 ∧ k ≠ 20 ∧ k ≠ 21 ∧ k ≠ 22 ∧ k ≠ 23 ∧ k ≠ 24 ∧ k ≠ 25 ∧ k ≠ 26 ∧ k ≠ 27 ∧ k ≠ 28 ∧ k ≠ 29 ∧ k ≠ 30 ∧ k ≠ 31 ∧ k ≠ 32 ∧ k ≠ 33) (w1 : c ≠ 88) (w2 : c ≠ 89) : (v_215 I L x1).2.1 c k = I c k := by
  unfold v_215
  try simp only [bx]
  repeat' split
  all_goals first | (with_reducible rfl) | simp (disch := omega) only [bx, up2_nk, upR_nk, frI_v_214]
theorem frL_v_215 {I : WI} {L : WL} {x1 : Int32} {c k : Nat} (w0 : c = 74 → k ≠ 19 ∧ k ≠ 20 ∧ k ≠ 21 ∧ k ≠ 22 ∧ k ≠ 23 ∧ k ≠ 24 ∧ k ≠ 25 ∧ k ≠ 26 ∧ k ≠ 27 ∧ k ≠ 28 ∧ k ≠ 29 ∧ k ≠ 30 ∧ k ≠ 31 ∧ k ≠ 32 ∧ k ≠ 33) (w1 : c ≠ 88) (w2 : c ≠ 89) : (v_215 I L x1).2.2 c k = L c k := by
  unfold v_215
  try simp only [bx]
  repeat' split
  all_goals first | (with_reducible rfl) | simp (disch := omega) only [bx, up2_nk, upR_nk, frL_v_214]
theorem frI_v_217 {I : WI} {L : WL} {x1 : Int32} {c k : Nat} (w0 : c = 74 → k ≠ 19 ∧ k ≠ 20 ∧ k ≠ 21 ∧ k ≠ 22 ∧ k ≠ 23 ∧ k ≠ 24 ∧ k ≠ 25 ∧ k ≠ 26 ∧ k ≠ 27 ∧ k ≠ 28 ∧ k ≠ 29 ∧ k ≠ 30 ∧ k ≠ 31 ∧ k ≠ 32 ∧ k ≠ 33) (w1 : c ≠ 88) (w2 : c ≠ 89) : (v_217 I L x1).2.1 c k = I c k := by
  unfold v_217
  try simp only [bx]
  repeat' split
  all_goals first | (with_reducible rfl) | simp (disch := omega) only [bx, up2_nk, upR_nk, frI_v_215]
theorem frL_v_217 {I : WI} {L : WL} {x1 : Int32} {c k : Nat} (w0 : c = 74 → k ≠ 19 ∧ k ≠ 20 ∧ k ≠ 21 ∧ k ≠ 22 ∧ k ≠ 23 ∧ k ≠ 24 ∧ k ≠ 25 ∧ k ≠ 26 ∧ k ≠ 27 ∧ k ≠ 28 ∧ k ≠ 29 ∧ k ≠ 30 ∧ k ≠ 31 ∧ k ≠ 32 ∧ k ≠ 33) (w1 : c ≠ 88) (w2 : c ≠ 89) : (v_217 I L x1).2.2 c k = L c k := by
  unfold v_217
  try simp only [bx]
  repeat' split
  all_goals first | (with_reducible rfl) | simp (disch := omega) only [bx, up2_nk, upR_nk, frL_v_215]
theorem frI_lp_192_14 {I : WI} {c k : Nat} (w0 : c ≠ 75) : ∀ n, (lp_192_14 I n) c k = I c k := by
  intro n
  induction n with
  | zero => rfl
  | succ n ih =>
    simp only [lp_192_14, bx]
    repeat' split
    all_goals simp (disch := omega) only [bx, up2_nk, upR_nk, ih]
theorem frI_v_192 {I : WI} {L : WL} {c k : Nat} (w0 : c = 74 → k ≠ 3 ∧ k ≠ 6 ∧ k ≠ 25 ∧ k ≠ 26 ∧ k ≠ 27 ∧ k ≠ 28 ∧ k ≠ 29 ∧ k ≠ 30 ∧ k ≠ 31 ∧ k ≠ 32 ∧ k ≠ 33) (w1 : c ≠ 75) (w2 : c ≠ 76) : (v_192 I L).2.1 c k = I c k := by
  unfold v_192
  try simp only [bx]
  repeat' split
  all_goals first | (with_reducible rfl) | simp (disch := omega) only [bx, up2_nk, upR_nk, frI_lp_192_14, frI_v_193]
theorem frL_v_192 {I : WI} {L : WL} {c k : Nat} (w0 : c = 74 → k ≠ 3 ∧ k ≠ 6 ∧ k ≠ 25 ∧ k ≠ 26 ∧ k ≠ 27 ∧ k ≠ 28 ∧ k ≠ 29 ∧ k ≠ 30 ∧ k ≠ 31 ∧ k ≠ 32 ∧ k ≠ 33) (w1 : c ≠ 75) (w2 : c ≠ 76) : (v_192 I L).2.2 c k = L c k := by
  unfold v_192
  try simp only [bx]
  repeat' split
  all_goals first | (with_reducible rfl) | simp (disch := omega) only [bx, up2_nk, upR_nk, frL_v_193]
theorem frI_v_213 {I : WI} {L : WL} {x1 : Int32} {c k : Nat} (w0 : c = 74 → k ≠ 19 ∧ k ≠ 20 ∧ k ≠ 21 ∧ k ≠ 22 ∧ k ≠ 23 ∧ k ≠ 24 ∧ k ≠ 25 ∧ k ≠ 26 ∧ k ≠ 27 ∧ k ≠ 28 ∧ k ≠ 29 ∧ k ≠ 30 ∧ k ≠ 31 ∧ k ≠ 32 ∧ k ≠ 33) (w1 : c ≠ 88) (w2 : c ≠ 89) : (v_213 I L x1).2.1 c k = I c k := by
  unfold v_213
  try simp only [bx]
  repeat' split
  all_goals first | (with_reducible rfl) | simp (disch := omega) only [bx, up2_nk, upR_nk, frI_v_214]
theorem frL_v_213 {I : WI} {L : WL} {x1 : Int32} {c k : Nat} (w0 : c = 74 → k ≠ 19 ∧ k ≠ 20 ∧ k ≠ 21 ∧ k ≠ 22 ∧ k ≠ 23 ∧ k ≠ 24 ∧ k ≠ 25 ∧ k ≠ 26 ∧ k ≠ 27 ∧ k ≠ 28 ∧ k ≠ 29 ∧ k ≠ 30 ∧ k ≠ 31 ∧ k ≠ 32 ∧ k ≠ 33) (w1 : c ≠ 88) (w2 : c ≠ 89) : (v_213 I L x1).2.2 c k = L c k := by
  unfold v_213
  try simp only [bx]
  repeat' split
  all_goals first | (with_reducible rfl) | simp (disch := omega) only [bx, up2_nk, upR_nk, frL_v_214]
theorem frI_lp_228_4 {I : WI} {L : WL} {a1 : Int32} {c k : Nat} (w0 : c = 74 → k ≠ 19 ∧ k ≠ 20 ∧ k ≠ 21 ∧ k ≠ 22 ∧ k ≠ 23 ∧ k ≠ 24 ∧ k ≠ 25 ∧ k ≠ 26 ∧ k ≠ 27 ∧ k ≠ 28 ∧ k ≠ 29 ∧ k ≠ 30 ∧ k ≠ 31 ∧ k ≠ 32 ∧ k ≠ 33) (w1 : c ≠ 88) (w2 : c ≠ 89) : ∀ n, (lp_228_4 I L a1 n).2.1 c k = I c k := by
  intro n
  induction n with
  | zero => rfl
  | succ n ih =>
    simp only [le_228_4, st_228_4, bx]
    repeat' split
    all_goals simp (disch := omega) only [bx, up2_nk, upR_nk, frI_v_213, ih]
theorem frL_lp_228_4 {I : WI} {L : WL} {a1 : Int32} {c k : Nat} (w0 : c = 74 → k ≠ 19 ∧ k ≠ 20 ∧ k ≠ 21 ∧ k ≠ 22 ∧ k ≠ 23 ∧ k ≠ 24 ∧ k ≠ 25 ∧ k ≠ 26 ∧ k ≠ 27 ∧ k ≠ 28 ∧ k ≠ 29 ∧ k ≠ 30 ∧ k ≠ 31 ∧ k ≠ 32 ∧ k ≠ 33) (w1 : c ≠ 88) (w2 : c ≠ 89) : ∀ n, (lp_228_4 I L a1 n).2.2 c k = L c k := by
  intro n
  induction n with
  | zero => rfl
  | succ n ih =>
    simp only [le_228_4, st_228_4, bx]
    repeat' split
    all_goals simp (disch := omega) only [bx, up2_nk, upR_nk, frL_v_213, ih]
theorem frI_v_228 {I : WI} {L : WL} {c k : Nat} (w0 : c = 74 → k ≠ 19 ∧ k ≠ 20 ∧ k ≠ 21 ∧ k ≠ 22 ∧ k ≠ 23 ∧ k ≠ 24 ∧ k ≠ 25 ∧ k ≠ 26 ∧ k ≠ 27 ∧ k ≠ 28 ∧ k ≠ 29 ∧ k ≠ 30 ∧ k ≠ 31 ∧ k ≠ 32 ∧ k ≠ 33) (w1 : c ≠ 88) (w2 : c ≠ 89) : (v_228 I L).2.1 c k = I c k := by
  unfold v_228
  try simp only [bx]
  repeat' split
  all_goals first | (with_reducible rfl) | simp (disch := omega) only [bx, up2_nk, upR_nk, frI_lp_228_4]
theorem frL_v_228 {I : WI} {L : WL} {c k : Nat} (w0 : c = 74 → k ≠ 19 ∧ k ≠ 20 ∧ k ≠ 21 ∧ k ≠ 22 ∧ k ≠ 23 ∧ k ≠ 24 ∧ k ≠ 25 ∧ k ≠ 26 ∧ k ≠ 27 ∧ k ≠ 28 ∧ k ≠ 29 ∧ k ≠ 30 ∧ k ≠ 31 ∧ k ≠ 32 ∧ k ≠ 33) (w1 : c ≠ 88) (w2 : c ≠ 89) : (v_228 I L).2.2 c k = L c k := by
  unfold v_228
  try simp only [bx]
  repeat' split
  all_goals first | (with_reducible rfl) | simp (disch := omega) only [bx, up2_nk, upR_nk, frL_lp_228_4]
theorem frI_lp_238_2 {I : WI} {L : WL} {c k : Nat} (w0 : c = 74 → k ≠ 19 ∧ k ≠ 20 ∧ k ≠ 21 ∧ k ≠ 22 ∧ k ≠ 23 ∧ k ≠ 24 ∧ k ≠ 25 ∧ k ≠ 26 ∧ k ≠ 27 ∧ k ≠ 28 ∧ k ≠ 29 ∧ k ≠ 30 ∧ k ≠ 31 ∧ k ≠ 32 ∧ k ≠ 33) (w1 : c ≠ 88) (w2 : c ≠ 89) (w3 : c ≠ 96) (w4 : c ≠ 97) (w5 : c ≠ 98) : ∀ n, (lp_238_2 I L n).1 c k = I c k := by
  intro n
  induction n with
  | zero => rfl
  | succ n ih =>
    simp only [le_238_2, st_238_2, bx]
    repeat' split
    all_goals simp (disch := omega) only [bx, up2_nk, upR_nk, frI_v_213, frI_v_217, ih]
theorem frL_lp_238_2 {I : WI} {L : WL} {c k : Nat} (w0 : c = 74 → k ≠ 19 ∧ k ≠ 20 ∧ k ≠ 21 ∧ k ≠ 22 ∧ k ≠ 23 ∧ k ≠ 24 ∧ k ≠ 25 ∧ k ≠ 26 ∧ k ≠ 27 ∧ k ≠ 28 ∧ k ≠ 29 ∧ k ≠ 30 ∧ k ≠ 31 ∧ k ≠ 32 ∧ k ≠ 33) (w1 : c ≠ 88) (w2 : c ≠ 89) (w3 : c ≠ 96) (w4 : c ≠ 97) (w5 : c ≠ 98) : ∀ n, (lp_238_2 I L n).2 c k = L c k := by
  intro n
  induction n with
  | zero => rfl
  | succ n ih =>
    simp only [le_238_2, st_238_2, bx]
    repeat' split
    all_goals simp (disch := omega) only [bx, up2_nk, upR_nk, frL_v_213, frL_v_217, ih]
theorem frI_v_238 {I : WI} {L : WL} {c k : Nat} (w0 : c = 74 → k ≠ 19 ∧ k ≠ 20 ∧ k ≠ 21 ∧ k ≠ 22 ∧ k ≠ 23 ∧ k ≠ 24 ∧ k ≠ 25 ∧ k ≠ 26 ∧ k ≠ 27 ∧ k ≠ 28 ∧ k ≠ 29 ∧ k ≠ 30 ∧ k ≠ 31 ∧ k ≠ 32 ∧ k ≠ 33) (w1 : c ≠ 88) (w2 : c ≠ 89) (w3 : c ≠ 96) (w4 : c ≠ 97) (w5 : c ≠ 98) : (v_238 I L).1 c k = I c k := by
  unfold v_238
  try simp only [bx]
  repeat' split
  all_goals first | (with_reducible rfl) | simp (disch := omega) only [bx, up2_nk, upR_nk, frI_lp_238_2]
theorem frL_v_238 {I : WI} {L : WL} {c k : Nat} (w0 : c = 74 → k ≠ 19 ∧ k ≠ 20 ∧ k ≠ 21 ∧ k ≠ 22 ∧ k ≠ 23 ∧ k ≠ 24 ∧ k ≠ 25 ∧ k ≠ 26 ∧ k ≠ 27 ∧ k ≠ 28 ∧ k ≠ 29 ∧ k ≠ 30 ∧ k ≠ 31 ∧ k ≠ 32 ∧ k ≠ 33) (w1 : c ≠ 88) (w2 : c ≠ 89) (w3 : c ≠ 96) (w4 : c ≠ 97) (w5 : c ≠ 98) : (v_238 I L).2 c k = L c k := by
  unfold v_238
  try simp only [bx]
  repeat' split
  all_goals first | (with_reducible rfl) | simp (disch := omega) only [bx, up2_nk, upR_nk, frL_lp_238_2]
theorem frI_lp_243_33 {I : WI} {L : WL} {x1 : Int32} {a3 : Int32} {a4 : Int32} {c k : Nat} (w0 : c = 74 → k ≠ 19 ∧ k ≠ 20 ∧ k ≠ 21 ∧ k ≠ 22 ∧ k ≠ 23 ∧ k ≠ 24 ∧ k ≠ 25 ∧ k ≠ 26 ∧ k ≠ 27 ∧ k ≠ 28 ∧ k ≠ 29 ∧ k ≠ 30 ∧ k ≠ 31 ∧ k ≠ 32 ∧ k ≠ 33) (w1 : c ≠ 88) (w2 : c ≠ 89) : ∀ n, (lp_243_33 I L x1 a3 a4 n).2.2.1 c k = I c k := by
  intro n
  induction n with
  | zero => rfl
  | succ n ih =>
    simp only [le_243_33, st_243_33, bx]
    repeat' split
    all_goals simp (disch := omega) only [bx, up2_nk, upR_nk, frI_v_213, frI_v_217, ih]
theorem frL_lp_243_33 {I : WI} {L : WL} {x1 : Int32} {a3 : Int32} {a4 : Int32} {c k : Nat} (w0 : c = 74 → k ≠ 19 ∧ k ≠ 20 ∧ k ≠ 21 ∧ k ≠ 22 ∧ k ≠ 23 ∧ k ≠ 24 ∧ k ≠ 25 ∧ k ≠ 26 ∧ k ≠ 27 ∧ k ≠ 28 ∧ k ≠ 29 ∧ k ≠ 30 ∧ k ≠ 31 ∧ k ≠ 32 ∧ k ≠ 33) (w1 : c ≠ 88) (w2 : c ≠ 89) : ∀ n, (lp_243_33 I L x1 a3 a4 n).2.2.2 c k = L c k := by
  intro n
  induction n with
  | zero => rfl
  | succ n ih =>
    simp only [le_243_33, st_243_33, bx]
    repeat' split
    all_goals simp (disch := omega) only [bx, up2_nk, upR_nk, frL_v_213, frL_v_217, ih]
theorem frI_v_243 {I : WI} {L : WL} {x1 : Int32} {x2 : Int32} {c k : Nat} (w0 : c = 74 → k ≠ 19 ∧ k ≠ 20 ∧ k ≠ 21 ∧ k ≠ 22 ∧ k ≠ 23 ∧ k ≠ 24 ∧ k ≠ 25 ∧ k ≠ 26 ∧ k ≠ 27 ∧ k ≠ 28 ∧ k ≠ 29 ∧ k ≠ 30 ∧ k ≠ 31 ∧ k ≠ 32 ∧ k ≠ 33) (w1 : c ≠ 88) (w2 : c ≠ 89) : (v_243 I L x1 x2).2.1 c k = I c k := by
  unfold v_243
  try simp only [bx]
  repeat' split
  all_goals first | (with_reducible rfl) | simp (disch := omega) only [bx, up2_nk, upR_nk, frI_lp_243_33]
theorem frL_v_243 {I : WI} {L : WL} {x1 : Int32} {x2 : Int32} {c k : Nat} (w0 : c = 74 → k ≠ 19 ∧ k ≠ 20 ∧ k ≠ 21 ∧ k ≠ 22 ∧ k ≠ 23 ∧ k ≠ 24 ∧ k ≠ 25 ∧ k ≠ 26 ∧ k ≠ 27 ∧ k ≠ 28 ∧ k ≠ 29 ∧ k ≠ 30 ∧ k ≠ 31 ∧ k ≠ 32 ∧ k ≠ 33) (w1 : c ≠ 88) (w2 : c ≠ 89) : (v_243 I L x1 x2).2.2 c k = L c k := by
  unfold v_243
  try simp only [bx]
  repeat' split
  all_goals first | (with_reducible rfl) | simp (disch := omega) only [bx, up2_nk, upR_nk, frL_lp_243_33]
theorem frI_v_244 {I : WI} {L : WL} {x1 : Int32} {c k : Nat} (w0 : c = 74 → k ≠ 19 ∧ k ≠ 20 ∧ k ≠ 21 ∧ k ≠ 22 ∧ k ≠ 23 ∧ k ≠ 24 ∧ k ≠ 25 ∧ k ≠ 26 ∧ k ≠ 27 ∧ k ≠ 28 ∧ k ≠ 29 ∧ k ≠ 30 ∧ k ≠ 31 ∧ k ≠ 32 ∧ k ≠ 33) (w1 : c ≠ 88) (w2 : c ≠ 89) (w3 : c ≠ 96) (w4 : c ≠ 97) (w5 : c ≠ 98) : (v_244 I L x1).2.1 c k = I c k := by
  unfold v_244
  try simp only [bx]
  repeat' split
  all_goals first | (with_reducible rfl) | simp (disch := omega) only [bx, up2_nk, upR_nk, frI_v_238]
theorem frL_v_244 {I : WI} {L : WL} {x1 : Int32} {c k : Nat} (w0 : c = 74 → k ≠ 19 ∧ k ≠ 20 ∧ k ≠ 21 ∧ k ≠ 22 ∧ k ≠ 23 ∧ k ≠ 24 ∧ k ≠ 25 ∧ k ≠ 26 ∧ k ≠ 27 ∧ k ≠ 28 ∧ k ≠ 29 ∧ k ≠ 30 ∧ k ≠ 31 ∧ k ≠ 32 ∧ k ≠ 33) (w1 : c ≠ 88) (w2 : c ≠ 89) (w3 : c ≠ 96) (w4 : c ≠ 97) (w5 : c ≠ 98) : (v_244 I L x1).2.2 c k = L c k := by
  unfold v_244
  try simp only [bx]
  repeat' split
  all_goals first | (with_reducible rfl) | simp (disch := omega) only [bx, up2_nk, upR_nk, frL_v_238]
theorem frI_v_255 {I : WI} {L : WL} {c k : Nat} (w0 : c = 74 → k ≠ 19 ∧ k ≠ 20 ∧ k ≠ 21 ∧ k ≠ 22 ∧ k ≠ 23 ∧ k ≠ 24 ∧ k ≠ 25 ∧ k ≠ 26 ∧ k ≠ 27 ∧ k ≠ 28 ∧ k ≠ 29 ∧ k ≠ 30 ∧ k ≠ 31 ∧ k ≠ 32 ∧ k ≠ 33) (w1 : c ≠ 88) (w2 : c ≠ 89) (w3 : c ≠ 96) (w4 : c ≠ 97) (w5 : c ≠ 98) : (v_255 I L).2.1 c k = I c k := by
  unfold v_255
  try simp only [bx]
  repeat' split
  all_goals first | (with_reducible rfl) | simp (disch := omega) only [bx, up2_nk, upR_nk, frI_v_238]
theorem frL_v_255 {I : WI} {L : WL} {c k : Nat} (w0 : c = 74 → k ≠ 19 ∧ k ≠ 20 ∧ k ≠ 21 ∧ k ≠ 22 ∧ k ≠ 23 ∧ k ≠ 24 ∧ k ≠ 25 ∧ k ≠ 26 ∧ k ≠ 27 ∧ k ≠ 28 ∧ k ≠ 29 ∧ k ≠ 30 ∧ k ≠ 31 ∧ k ≠ 32 ∧ k ≠ 33) (w1 : c ≠ 88) (w2 : c ≠ 89) (w3 : c ≠ 96) (w4 : c ≠ 97) (w5 : c ≠ 98) : (v_255 I L).2.2 c k = L c k := by
  unfold v_255
  try simp only [bx]
  repeat' split
  all_goals first | (with_reducible rfl) | simp (disch := omega) only [bx, up2_nk, upR_nk, frL_v_238]
theorem frI_lp_263_8 {F : WF} {x1 : Int32} {c k : Nat} (w0 : c = 74 → k ≠ 19 ∧ k ≠ 20 ∧ k ≠ 21 ∧ k ≠ 22 ∧ k ≠ 23 ∧ k ≠ 24 ∧ k ≠ 25 ∧ k ≠ 26 ∧ k ≠ 27 ∧ k ≠ 28 ∧ k ≠ 29 ∧ k ≠ 30 ∧ k ≠ 31 ∧ k ≠ 32 ∧ k ≠ 33) (w1 : c ≠ 79) (w2 : c ≠ 88) (w3 : c ≠ 89) (w4 : c ≠ 96) (w5 : c ≠ 97) (w6 : c ≠ 98) : ∀ n (x2 : Int32) (x3 : Int32) (I : WI) (L : WL), (lp_263_8 F x1 n x2 x3 I L).2.1 c k = I c k := by
  intro n
  induction n with
  | zero => intros; rfl
  | succ n ih =>
    intro x2 x3 I L
    simp only [le_263_8, st_263_8, bx]
    repeat' split
    all_goals simp (disch := omega) only [bx, up2_nk, upR_nk, frI_v_255, frI_v_257, ih]
theorem frL_lp_263_8 {F : WF} {x1 : Int32} {c k : Nat} (w0 : c = 74 → k ≠ 19 ∧ k ≠ 20 ∧ k ≠ 21 ∧ k ≠ 22 ∧ k ≠ 23 ∧ k ≠ 24 ∧ k ≠ 25 ∧ k ≠ 26 ∧ k ≠ 27 ∧ k ≠ 28 ∧ k ≠ 29 ∧ k ≠ 30 ∧ k ≠ 31 ∧ k ≠ 32 ∧ k ≠ 33) (w1 : c ≠ 79) (w2 : c ≠ 88) (w3 : c ≠ 89) (w4 : c ≠ 96) (w5 : c ≠ 97) (w6 : c ≠ 98) : ∀ n (x2 : Int32) (x3 : Int32) (I : WI) (L : WL), (lp_263_8 F x1 n x2 x3 I L).2.2 c k = L c k := by
  intro n
  induction n with
  | zero => intros; rfl
  | succ n ih =>
    intro x2 x3 I L
    simp only [le_263_8, st_263_8, bx]
    repeat' split
    all_goals simp (disch := omega) only [bx, up2_nk, upR_nk, frL_v_255, ih]
theorem frI_v_263 {I : WI} {F : WF} {L : WL} {x1 : Int32} {c k : Nat} (w0 : c = 74 → k ≠ 19 ∧ k ≠ 20 ∧ k ≠ 21 ∧ k ≠ 22 ∧ k ≠ 23 ∧ k ≠ 24 ∧ k ≠ 25 ∧ k ≠ 26 ∧ k ≠ 27 ∧ k ≠ 28 ∧ k ≠ 29 ∧ k ≠ 30 ∧ k ≠ 31 ∧ k ≠ 32 ∧ k ≠ 33) (w1 : c ≠ 79) (w2 : c ≠ 80) (w3 : c ≠ 81) (w4 : c ≠ 82) (w5 : c ≠ 83) (w6 : c ≠ 86) (w7 : c ≠ 88) (w8 : c ≠ 89) (w9 : c ≠ 90) (w10 : c ≠ 91) (w11 : c ≠ 92) (w12 : c ≠ 93) (w13 : c ≠ 94) (w14 : c ≠ 95) (w15 : c ≠ 96) (w16 : c ≠ 97) (w17 : c ≠ 98) : (v_263 I F L x1).2.1 c k = I c k := by
  unfold v_263
  try simp only [bx]
  repeat' split
  all_goals first | (with_reducible rfl) | simp (disch := omega) only [bx, up2_nk, upR_nk, frI_lp_263_8, frI_v_234, frI_v_235]
theorem frL_v_263 {I : WI} {F : WF} {L : WL} {x1 : Int32} {c k : Nat} (w0 : c = 74 → k ≠ 19 ∧ k ≠ 20 ∧ k ≠ 21 ∧ k ≠ 22 ∧ k ≠ 23 ∧ k ≠ 24 ∧ k ≠ 25 ∧ k ≠ 26 ∧ k ≠ 27 ∧ k ≠ 28 ∧ k ≠ 29 ∧ k ≠ 30 ∧ k ≠ 31 ∧ k ≠ 32 ∧ k ≠ 33) (w1 : c ≠ 79) (w2 : c ≠ 80) (w3 : c ≠ 81) (w4 : c ≠ 82) (w5 : c ≠ 83) (w6 : c ≠ 86) (w7 : c ≠ 88) (w8 : c ≠ 89) (w9 : c ≠ 90) (w10 : c ≠ 91) (w11 : c ≠ 92) (w12 : c ≠ 93) (w13 : c ≠ 94) (w14 : c ≠ 95) (w15 : c ≠ 96) (w16 : c ≠ 97) (w17 : c ≠ 98) : (v_263 I F L x1).2.2 c k = L c k := by
  unfold v_263
  try simp only [bx]
  repeat' split
  all_goals first | (with_reducible rfl) | simp (disch := omega) only [bx, up2_nk, upR_nk, frL_lp_263_8]
theorem frI_lp_266_36 {I : WI} {L : WL} {x1 : Int32} {c k : Nat} (w0 : c ≠ 114) (w1 : c = 74 → k ≠ 19 ∧ k ≠ 20 ∧ k ≠ 21 ∧ k ≠ 22 ∧ k ≠ 23 ∧ k ≠ 24 ∧ k ≠ 25 ∧ k ≠ 26 ∧ k ≠ 27 ∧ k ≠ 28 ∧ k ≠ 29 ∧ k ≠ 30 ∧ k ≠ 31 ∧ k ≠ 32 ∧ k ≠ 33) (w2 : c ≠ 79) (w3 : c ≠ 88) (w4 : c ≠ 89) (w5 : c ≠ 96) (w6 : c ≠ 97) (w7 : c ≠ 98) : ∀ n, (lp_266_36 I L x1 n).1 c k = I c k := by
  intro n
  induction n with
  | zero => rfl
  | succ n ih =>
    simp only [le_266_36, st_266_36, bx]
    repeat' split
    all_goals simp (disch := omega) only [bx, up2_nk, upR_nk, frI_v_255, frI_v_257, ih]
theorem frL_lp_266_36 {I : WI} {L : WL} {x1 : Int32} {c k : Nat} (w0 : c ≠ 114) (w1 : c = 74 → k ≠ 19 ∧ k ≠ 20 ∧ k ≠ 21 ∧ k ≠ 22 ∧ k ≠ 23 ∧ k ≠ 24 ∧ k ≠ 25 ∧ k ≠ 26 ∧ k ≠ 27 ∧ k ≠ 28 ∧ k ≠ 29 ∧ k ≠ 30 ∧ k ≠ 31 ∧ k ≠ 32 ∧ k ≠ 33) (w2 : c ≠ 79) (w3 : c ≠ 88) (w4 : c ≠ 89) (w5 : c ≠ 96) (w6 : c ≠ 97) (w7 : c ≠ 98) : ∀ n, (lp_266_36 I L x1 n).2 c k = L c k := by
  intro n
  induction n with
  | zero => rfl
  | succ n ih =>
    simp only [le_266_36, st_266_36, bx]
    repeat' split
    all_goals simp (disch := omega) only [bx, up2_nk, upR_nk, frL_v_255, ih]
theorem frI_v_266 {I : WI} {F : WF} {L : WL} {x1 : Int32} {x2 : Int32} {c k : Nat} (w0 : c ≠ 111) (w1 : c ≠ 112) (w2 : c ≠ 113) (w3 : c ≠ 114) (w4 : c ≠ 115) (w5 : c ≠ 116) (w6 : c = 74 → k ≠ 19 ∧ k ≠ 20 ∧ k ≠ 21 ∧ k ≠ 22 ∧ k ≠ 23 ∧ k ≠ 24 ∧ k ≠ 25 ∧ k ≠ 26 ∧ k ≠ 27 ∧ k ≠ 28 ∧ k ≠ 29 ∧ k ≠ 30 ∧ k ≠ 31 ∧ k ≠ 32 ∧ k ≠ 33) (w7 : c ≠ 79) (w8 : c ≠ 80) (w9 : c ≠ 81) (w10 : c ≠ 82) (w11 : c ≠ 83) (w12 : c ≠ 86) (w13 : c ≠ 88) (w14 : c ≠ 89) (w15 : c ≠ 90) (w16 : c ≠ 91) (w17 : c ≠ 92) (w18 : c ≠ 93) (w19 : c ≠ 94) (w20 : c ≠ 95) (w21 : c ≠ 96) (w22 : c ≠ 97) (w23 : c ≠ 98) : (v_266 I F L x1 x2).2.1 c k = I c k := by
  unfold v_266
  try simp only [bx]
  repeat' split
  all_goals first | (with_reducible rfl) | simp (disch := omega) only [bx, up2_nk, upR_nk, frI_lp_266_36, frI_v_234, frI_v_235, frI_v_267]
theorem frF_v_266 {I : WI} {F : WF} {L : WL} {x1 : Int32} {x2 : Int32} {c k : Nat} (w0 : c ≠ 111) (w1 : c ≠ 112) (w2 : c ≠ 113) (w3 : c ≠ 114) (w4 : c ≠ 115) (w5 : c ≠ 116) (w6 : c = 74 → k ≠ 19 ∧ k ≠ 20 ∧ k ≠ 21 ∧ k ≠ 22 ∧ k ≠ 23 ∧ k ≠ 24 ∧ k ≠ 25 ∧ k ≠ 26 ∧ k ≠ 27 ∧ k ≠ 28 ∧ k ≠ 29 ∧ k ≠ 30 ∧ k ≠ 31 ∧ k ≠ 32 ∧ k ≠ 33) (w7 : c ≠ 79) (w8 : c ≠ 80) (w9 : c ≠ 81) (w10 : c ≠ 82) (w11 : c ≠ 83) (w12 : c ≠ 86) (w13 : c ≠ 88) (w14 : c ≠ 89) (w15 : c ≠ 90) (w16 : c ≠ 91) (w17 : c ≠ 92) (w18 : c ≠ 93) (w19 : c ≠ 94) (w20 : c ≠ 95) (w21 : c ≠ 96) (w22 : c ≠ 97) (w23 : c ≠ 98) : (v_266 I F L x1 x2).2.2.1 c k = F c k := by
  unfold v_266
  try simp only [bx]
  repeat' split
  all_goals first | (with_reducible rfl) | simp (disch := omega) only [bx, up2_nk, upR_nk, frF_v_267]
theorem frL_v_266 {I : WI} {F : WF} {L : WL} {x1 : Int32} {x2 : Int32} {c k : Nat} (w0 : c ≠ 111) (w1 : c ≠ 112) (w2 : c ≠ 113) (w3 : c ≠ 114) (w4 : c ≠ 115) (w5 : c ≠ 116) (w6 : c = 74 → k ≠ 19 ∧ k ≠ 20 ∧ k ≠ 21 ∧ k ≠ 22 ∧ k ≠ 23 ∧ k ≠ 24 ∧ k ≠ 25 ∧ k ≠ 26 ∧ k ≠ 27 ∧ k ≠ 28 ∧ k ≠ 29 ∧ k ≠ 30 ∧ k ≠ 31 ∧ k ≠ 32 ∧ k ≠ 33) (w7 : c ≠ 79) (w8 : c ≠ 80) (w9 : c ≠ 81) (w10 : c ≠ 82) (w11 : c ≠ 83) (w12 : c ≠ 86) (w13 : c ≠ 88) (w14 : c ≠ 89) (w15 : c ≠ 90) (w16 : c ≠ 91) (w17 : c ≠ 92) (w18 : c ≠ 93) (w19 : c ≠ 94) (w20 : c ≠ 95) (w21 : c ≠ 96) (w22 : c ≠ 97) (w23 : c ≠ 98) : (v_266 I F L x1 x2).2.2.2 c k = L c k := by
  unfold v_266
  try simp only [bx]
  repeat' split
  all_goals first | (with_reducible rfl) | simp (disch := omega) only [bx, up2_nk, upR_nk, frL_lp_266_36]
theorem frI_v_270 {I : WI} {L : WL} {x1 : Int32} {c k : Nat} (w0 : c = 74 → k ≠ 19 ∧ k ≠ 20 ∧ k ≠ 21 ∧ k ≠ 22 ∧ k ≠ 23 ∧ k ≠ 24 ∧ k ≠ 25 ∧ k ≠ 26 ∧ k ≠ 27 ∧ k ≠ 28 ∧ k ≠ 29 ∧ k ≠ 30 ∧ k ≠ 31 ∧ k ≠ 32 ∧ k ≠ 33) (w1 : c ≠ 88) (w2 : c ≠ 89) : (v_270 I L x1).2.1 c k = I c k := by
  unfold v_270
  try simp only [bx]
  repeat' split
  all_goals first | (with_reducible rfl) | simp (disch := omega) only [bx, up2_nk, upR_nk, frI_v_228]
theorem frL_v_270 {I : WI} {L : WL} {x1 : Int32} {c k : Nat} (w0 : c = 74 → k ≠ 19 ∧ k ≠ 20 ∧ k ≠ 21 ∧ k ≠ 22 ∧ k ≠ 23 ∧ k ≠ 24 ∧ k ≠ 25 ∧ k ≠ 26 ∧ k ≠ 27 ∧ k ≠ 28 ∧ k ≠ 29 ∧ k ≠ 30 ∧ k ≠ 31 ∧ k ≠ 32 ∧ k ≠ 33) (w1 : c ≠ 88) (w2 : c ≠ 89) : (v_270 I L x1).2.2 c k = L c k := by
  unfold v_270
  try simp only [bx]
  repeat' split
  all_goals first | (with_reducible rfl) | simp (disch := omega) only [bx, up2_nk, upR_nk, frL_v_228]
theorem frI_lp_278_64 {I : WI} {F : WF} {x1 : Int32} {x2 : Int32} {c k : Nat} (w0 : c ≠ 79) : ∀ n, (lp_278_64 I F x1 x2 n) c k = I c k := by
  intro n
  induction n with
  | zero => rfl
  | succ n ih =>
    simp only [lp_278_64, bx]
    repeat' split
    all_goals simp (disch := omega) only [bx, up2_nk, upR_nk, ih]
theorem frI_v_278 {I : WI} {F : WF} {L : WL} {x1 : Int32} {x2 : Int32} {c k : Nat} (w0 : c = 74 → k ≠ 19 ∧ k ≠ 20 ∧ k ≠ 21 ∧ k ≠ 22 ∧ k ≠ 23 ∧ k ≠ 24 ∧ k ≠ 25 ∧ k ≠ 26 ∧ k ≠ 27 ∧ k ≠ 28 ∧ k ≠ 29 ∧ k ≠ 30 ∧ k ≠ 31 ∧ k ≠ 32 ∧ k ≠ 33) (w1 : c ≠ 79) (w2 : c ≠ 88) (w3 : c ≠ 89) : (v_278 I F L x1 x2).2.1 c k = I c k := by
  unfold v_278
  try simp only [bx]
  repeat' split
  all_goals first | (with_reducible rfl) | simp (disch := omega) only [bx, up2_nk, upR_nk, frI_lp_278_64, frI_v_228]
theorem frL_v_278 {I : WI} {F : WF} {L : WL} {x1 : Int32} {x2 : Int32} {c k : Nat} (w0 : c = 74 → k ≠ 19 ∧ k ≠ 20 ∧ k ≠ 21 ∧ k ≠ 22 ∧ k ≠ 23 ∧ k ≠ 24 ∧ k ≠ 25 ∧ k ≠ 26 ∧ k ≠ 27 ∧ k ≠ 28 ∧ k ≠ 29 ∧ k ≠ 30 ∧ k ≠ 31 ∧ k ≠ 32 ∧ k ≠ 33) (w1 : c ≠ 79) (w2 : c ≠ 88) (w3 : c ≠ 89) : (v_278 I F L x1 x2).2.2 c k = L c k := by
  unfold v_278
  try simp only [bx]
  repeat' split
  all_goals first | (with_reducible rfl) | simp (disch := omega) only [bx, up2_nk, upR_nk, frL_v_228]
theorem frI_v_210 {I : WI} {L : WL} {x1 : Int32} {x2 : Int32} {c k : Nat} (w0 : c = 74 → k ≠ 19 ∧ k ≠ 20 ∧ k ≠ 21 ∧ k ≠ 22 ∧ k ≠ 23 ∧ k ≠ 24 ∧ k ≠ 25 ∧ k ≠ 26 ∧ k ≠ 27 ∧ k ≠ 28 ∧ k ≠ 29 ∧ k ≠ 30 ∧ k ≠ 31 ∧ k ≠ 32 ∧ k ≠ 33) (w1 : c ≠ 88) (w2 : c ≠ 89) : (v_210 I L x1 x2).2.1 c k = I c k := by
  unfold v_210
  try simp only [bx]
  repeat' split
  all_goals first | (with_reducible rfl) | simp (disch := omega) only [bx, up2_nk, upR_nk, frI_v_213, frI_v_215, frI_v_217]
theorem frL_v_210 {I : WI} {L : WL} {x1 : Int32} {x2 : Int32} {c k : Nat} (w0 : c = 74 → k ≠ 19 ∧ k ≠ 20 ∧ k ≠ 21 ∧ k ≠ 22 ∧ k ≠ 23 ∧ k ≠ 24 ∧ k ≠ 25 ∧ k ≠ 26 ∧ k ≠ 27 ∧ k ≠ 28 ∧ k ≠ 29 ∧ k ≠ 30 ∧ k ≠ 31 ∧ k ≠ 32 ∧ k ≠ 33) (w1 : c ≠ 88) (w2 : c ≠ 89) : (v_210 I L x1 x2).2.2 c k = L c k := by
  unfold v_210
  try simp only [bx]
  repeat' split
  all_goals first | (with_reducible rfl) | simp (disch := omega) only [bx, up2_nk, upR_nk, frL_v_213, frL_v_215, frL_v_217]
theorem frI_v_227 {I : WI} {L : WL} {x1 : Int32} {x2 : Int32} {x3 : Int32} {c k : Nat} (w0 : c = 74 → k ≠ 19 ∧ k ≠ 20 ∧ k ≠ 21 ∧ k ≠ 22 ∧ k ≠ 23 ∧ k ≠ 24 ∧ k ≠ 25 ∧ k ≠ 26 ∧ k ≠ 27 ∧ k ≠ 28 ∧ k ≠ 29 ∧ k ≠ 30 ∧ k ≠ 31 ∧ k ≠ 32 ∧ k ≠ 33) (w1 : c = 79 → k ≠ 0 ∧ k ≠ 1 ∧ k ≠ 2) (w2 : c ≠ 88) (w3 : c ≠ 89) : (v_227 I L x1 x2 x3).2.1 c k = I c k := by
  unfold v_227
  try simp only [bx]
  repeat' split
  all_goals first | (with_reducible rfl) | simp (disch := omega) only [bx, up2_nk, upR_nk, frI_v_228]
theorem frL_v_227 {I : WI} {L : WL} {x1 : Int32} {x2 : Int32} {x3 : Int32} {c k : Nat} (w0 : c = 74 → k ≠ 19 ∧ k ≠ 20 ∧ k ≠ 21 ∧ k ≠ 22 ∧ k ≠ 23 ∧ k ≠ 24 ∧ k ≠ 25 ∧ k ≠ 26 ∧ k ≠ 27 ∧ k ≠ 28 ∧ k ≠ 29 ∧ k ≠ 30 ∧ k ≠ 31 ∧ k ≠ 32 ∧ k ≠ 33) (w1 : c = 79 → k ≠ 0 ∧ k ≠ 1 ∧ k ≠ 2) (w2 : c ≠ 88) (w3 : c ≠ 89) : (v_227 I L x1 x2 x3).2.2 c k = L c k := by
  unfold v_227
  try simp only [bx]
  repeat' split
  all_goals first | (with_reducible rfl) | simp (disch := omega) only [bx, up2_nk, upR_nk, frL_v_228]
theorem frI_lp_237_21 {I : WI} {c k : Nat} (w0 : c ≠ 99) : ∀ n, (lp_237_21 I n) c k = I c k := by
  intro n
  induction n with
  | zero => rfl
  | succ n ih =>
    simp only [lp_237_21, bx]
    repeat' split
    all_goals simp (disch := omega) only [bx, up2_nk, upR_nk, ih]
theorem frI_lp_237_81 {I : WI} {x1 : Int32} {x2 : Int32} {c k : Nat} (w0 : c = 74 → k ≠ 46 ∧ k ≠ 47) (w1 : c ≠ 98) : ∀ n, (lp_237_81 I x1 x2 n) c k = I c k := by
  intro n
  induction n with
  | zero => rfl
  | succ n ih =>
    simp only [lp_237_81, bx]
    repeat' split
    all_goals simp (disch := omega) only [bx, up2_nk, upR_nk, ih]
theorem frI_lp_237_44 {x1 : Int32} {c k : Nat} (w0 : c = 74 → k ≠ 46 ∧ k ≠ 47 ∧ k ≠ 48) (w1 : c ≠ 98) (w2 : c ≠ 99) : ∀ n (x2 : Int32) (I : WI), (lp_237_44 x1 n x2 I) c k = I c k := by
  intro n
  induction n with
  | zero => intros; rfl
  | succ n ih =>
    intro x2 I
    simp only [lp_237_44, bx]
    repeat' split
    all_goals simp (disch := omega) only [bx, up2_nk, upR_nk, frI_lp_237_81, ih]
theorem frI_v_237 {I : WI} {L : WL} {x1 : Int32} {c k : Nat} (w0 : c = 74 → k ≠ 19 ∧ k ≠ 20 ∧ k ≠ 21 ∧ k ≠ 22 ∧ k ≠ 23 ∧ k ≠ 24 ∧ k ≠ 25 ∧ k ≠ 26 ∧ k ≠ 27 ∧ k ≠ 28 ∧ k ≠ 29 ∧ k ≠ 30 ∧ k ≠ 31 ∧ k ≠ 32 ∧ k ≠ 33 ∧ k ≠ 46 ∧ k ≠ 47 ∧ k ≠ 48) (w1 : c ≠ 88) (w2 : c ≠ 89) (w3 : c ≠ 96) (w4 : c ≠ 97) (w5 : c ≠ 98) (w6 : c ≠ 99) : (v_237 I L x1).1 c k = I c k := by
  unfold v_237
  try simp only [bx]
  repeat' split
  all_goals first | (with_reducible rfl) | simp (disch := omega) only [bx, up2_nk, upR_nk, frI_lp_237_21, frI_lp_237_44, frI_v_238]
theorem frL_v_237 {I : WI} {L : WL} {x1 : Int32} {c k : Nat} (w0 : c = 74 → k ≠ 19 ∧ k ≠ 20 ∧ k ≠ 21 ∧ k ≠ 22 ∧ k ≠ 23 ∧ k ≠ 24 ∧ k ≠ 25 ∧ k ≠ 26 ∧ k ≠ 27 ∧ k ≠ 28 ∧ k ≠ 29 ∧ k ≠ 30 ∧ k ≠ 31 ∧ k ≠ 32 ∧ k ≠ 33 ∧ k ≠ 46 ∧ k ≠ 47 ∧ k ≠ 48) (w1 : c ≠ 88) (w2 : c ≠ 89) (w3 : c ≠ 96) (w4 : c ≠ 97) (w5 : c ≠ 98) (w6 : c ≠ 99) : (v_237 I L x1).2 c k = L c k := by
  unfold v_237
  try simp only [bx]
  repeat' split
  all_goals first | (with_reducible rfl) | simp (disch := omega) only [bx, up2_nk, upR_nk, frL_v_238]
theorem frI_lp_254_48 {x1 : Int32} {x2 : Int32} {x3 : Int32} {x4 : Int32} {c k : Nat} (w0 : c = 74 → k ≠ 19 ∧ k ≠ 20 ∧ k ≠ 21 ∧ k ≠ 22 ∧ k ≠ 23 ∧ k ≠ 24 ∧ k ≠ 25 ∧ k ≠ 26 ∧ k ≠ 27 ∧ k ≠ 28 ∧ k ≠ 29 ∧ k ≠ 30 ∧ k ≠ 31 ∧ k ≠ 32 ∧ k ≠ 33) (w1 : c ≠ 79) (w2 : c ≠ 88) (w3 : c ≠ 89) (w4 : c ≠ 96) (w5 : c ≠ 97) (w6 : c ≠ 98) : ∀ n (x5 : Int32) (x6 : Int32) (I : WI) (L : WL), (lp_254_48 x1 x2 x3 x4 n x5 x6 I L).2.1 c k = I c k := by
  intro n
  induction n with
  | zero => intros; rfl
  | succ n ih =>
    intro x5 x6 I L
    simp only [le_254_48, st_254_48, bx]
    repeat' split
    all_goals simp (disch := omega) only [bx, up2_nk, upR_nk, frI_v_255, ih]
theorem frL_lp_254_48 {x1 : Int32} {x2 : Int32} {x3 : Int32} {x4 : Int32} {c k : Nat} (w0 : c = 74 → k ≠ 19 ∧ k ≠ 20 ∧ k ≠ 21 ∧ k ≠ 22 ∧ k ≠ 23 ∧ k ≠ 24 ∧ k ≠ 25 ∧ k ≠ 26 ∧ k ≠ 27 ∧ k ≠ 28 ∧ k ≠ 29 ∧ k ≠ 30 ∧ k ≠ 31 ∧ k ≠ 32 ∧ k ≠ 33) (w1 : c ≠ 79) (w2 : c ≠ 88) (w3 : c ≠ 89) (w4 : c ≠ 96) (w5 : c ≠ 97) (w6 : c ≠ 98) : ∀ n (x5 : Int32) (x6 : Int32) (I : WI) (L : WL), (lp_254_48 x1 x2 x3 x4 n x5 x6 I L).2.2 c k = L c k := by
  intro n
  induction n with
  | zero => intros; rfl
  | succ n ih =>
    intro x5 x6 I L
    simp only [le_254_48, st_254_48, bx]
    repeat' split
    all_goals simp (disch := omega) only [bx, up2_nk, upR_nk, frL_v_255, ih]
theorem frI_v_254 {I : WI} {L : WL} {x1 : Int32} {x2 : Int32} {c k : Nat} (w0 : c = 74 → k ≠ 19 ∧ k ≠ 20 ∧ k ≠ 21 ∧ k ≠ 22 ∧ k ≠ 23 ∧ k ≠ 24 ∧ k ≠ 25 ∧ k ≠ 26 ∧ k ≠ 27 ∧ k ≠ 28 ∧ k ≠ 29 ∧ k ≠ 30 ∧ k ≠ 31 ∧ k ≠ 32 ∧ k ≠ 33) (w1 : c ≠ 79) (w2 : c ≠ 88) (w3 : c ≠ 89) (w4 : c ≠ 96) (w5 : c ≠ 97) (w6 : c ≠ 98) : (v_254 I L x1 x2).2.1 c k = I c k := by
  unfold v_254
  try simp only [bx]
  repeat' split
  all_goals first | (with_reducible rfl) | simp (disch := omega) only [bx, up2_nk, upR_nk, frI_lp_254_48, frI_v_255]
theorem frL_v_254 {I : WI} {L : WL} {x1 : Int32} {x2 : Int32} {c k : Nat} (w0 : c = 74 → k ≠ 19 ∧ k ≠ 20 ∧ k ≠ 21 ∧ k ≠ 22 ∧ k ≠ 23 ∧ k ≠ 24 ∧ k ≠ 25 ∧ k ≠ 26 ∧ k ≠ 27 ∧ k ≠ 28 ∧ k ≠ 29 ∧ k ≠ 30 ∧ k ≠ 31 ∧ k ≠ 32 ∧ k ≠ 33) (w1 : c ≠ 79) (w2 : c ≠ 88) (w3 : c ≠ 89) (w4 : c ≠ 96) (w5 : c ≠ 97) (w6 : c ≠ 98) : (v_254 I L x1 x2).2.2 c k = L c k := by
  unfold v_254
  try simp only [bx]
  repeat' split
  all_goals first | (with_reducible rfl) | simp (disch := omega) only [bx, up2_nk, upR_nk, frL_lp_254_48, frL_v_255]
theorem frI_lp_256_26 {I : WI} {L : WL} {a2 : Int64} {a4 : Int64} {c k : Nat} (w0 : c = 74 → k ≠ 19 ∧ k ≠ 20 ∧ k ≠ 21 ∧ k ≠ 22 ∧ k ≠ 23 ∧ k ≠ 24 ∧ k ≠ 25 ∧ k ≠ 26 ∧ k ≠ 27 ∧ k ≠ 28 ∧ k ≠ 29 ∧ k ≠ 30 ∧ k ≠ 31 ∧ k ≠ 32 ∧ k ≠ 33 ∧ k ≠ 46 ∧ k ≠ 47 ∧ k ≠ 48) (w1 : c ≠ 79) (w2 : c ≠ 88) (w3 : c ≠ 89) (w4 : c ≠ 96) (w5 : c ≠ 97) (w6 : c ≠ 98) (w7 : c ≠ 99) : ∀ n, (lp_256_26 I L a2 a4 n).2.2.1 c k = I c k := by
  intro n
  induction n with
  | zero => rfl
  | succ n ih =>
    simp only [le_256_26, st_256_26, bx]
    repeat' split
    all_goals simp (disch := omega) only [bx, up2_nk, upR_nk, frI_v_237, frI_v_257, ih]
theorem frL_lp_256_26 {I : WI} {L : WL} {a2 : Int64} {a4 : Int64} {c k : Nat} (w0 : c = 74 → k ≠ 19 ∧ k ≠ 20 ∧ k ≠ 21 ∧ k ≠ 22 ∧ k ≠ 23 ∧ k ≠ 24 ∧ k ≠ 25 ∧ k ≠ 26 ∧ k ≠ 27 ∧ k ≠ 28 ∧ k ≠ 29 ∧ k ≠ 30 ∧ k ≠ 31 ∧ k ≠ 32 ∧ k ≠ 33 ∧ k ≠ 46 ∧ k ≠ 47 ∧ k ≠ 48) (w1 : c ≠ 79) (w2 : c ≠ 88) (w3 : c ≠ 89) (w4 : c ≠ 96) (w5 : c ≠ 97) (w6 : c ≠ 98) (w7 : c ≠ 99) : ∀ n, (lp_256_26 I L a2 a4 n).2.2.2 c k = L c k := by
  intro n
  induction n with
  | zero => rfl
  | succ n ih =>
    simp only [le_256_26, st_256_26, bx]
    repeat' split
    all_goals simp (disch := omega) only [bx, up2_nk, upR_nk, frL_v_237, ih]
theorem frI_v_256 {I : WI} {L : WL} {x1 : Int32} {c k : Nat} (w0 : c = 74 → k ≠ 19 ∧ k ≠ 20 ∧ k ≠ 21 ∧ k ≠ 22 ∧ k ≠ 23 ∧ k ≠ 24 ∧ k ≠ 25 ∧ k ≠ 26 ∧ k ≠ 27 ∧ k ≠ 28 ∧ k ≠ 29 ∧ k ≠ 30 ∧ k ≠ 31 ∧ k ≠ 32 ∧ k ≠ 33 ∧ k ≠ 46 ∧ k ≠ 47 ∧ k ≠ 48) (w1 : c ≠ 79) (w2 : c ≠ 80) (w3 : c ≠ 81) (w4 : c ≠ 82) (w5 : c ≠ 83) (w6 : c ≠ 86) (w7 : c ≠ 88) (w8 : c ≠ 89) (w9 : c ≠ 90) (w10 : c ≠ 91) (w11 : c ≠ 92) (w12 : c ≠ 93) (w13 : c ≠ 94) (w14 : c ≠ 95) (w15 : c ≠ 96) (w16 : c ≠ 97) (w17 : c ≠ 98) (w18 : c ≠ 99) : (v_256 I L x1).2.1 c k = I c k := by
  unfold v_256
  try simp only [bx]
  repeat' split
  all_goals first | (with_reducible rfl) | simp (disch := omega) only [bx, up2_nk, upR_nk, frI_lp_256_26, frI_v_234, frI_v_235]
theorem frL_v_256 {I : WI} {L : WL} {x1 : Int32} {c k : Nat} (w0 : c = 74 → k ≠ 19 ∧ k ≠ 20 ∧ k ≠ 21 ∧ k ≠ 22 ∧ k ≠ 23 ∧ k ≠ 24 ∧ k ≠ 25 ∧ k ≠ 26 ∧ k ≠ 27 ∧ k ≠ 28 ∧ k ≠ 29 ∧ k ≠ 30 ∧ k ≠ 31 ∧ k ≠ 32 ∧ k ≠ 33 ∧ k ≠ 46 ∧ k ≠ 47 ∧ k ≠ 48) (w1 : c ≠ 79) (w2 : c ≠ 80) (w3 : c ≠ 81) (w4 : c ≠ 82) (w5 : c ≠ 83) (w6 : c ≠ 86) (w7 : c ≠ 88) (w8 : c ≠ 89) (w9 : c ≠ 90) (w10 : c ≠ 91) (w11 : c ≠ 92) (w12 : c ≠ 93) (w13 : c ≠ 94) (w14 : c ≠ 95) (w15 : c ≠ 96) (w16 : c ≠ 97) (w17 : c ≠ 98) (w18 : c ≠ 99) : (v_256 I L x1).2.2 c k = L c k := by
  unfold v_256
  try simp only [bx]
  repeat' split
  all_goals first | (with_reducible rfl) | simp (disch := omega) only [bx, up2_nk, upR_nk, frL_lp_256_26]
theorem frI_lp_260_58 {I : WI} {x1 : Int32} {x7 : Int32} {c k : Nat} (w0 : c ≠ 79) : ∀ n, (lp_260_58 I x1 x7 n) c k = I c k := by
  intro n
  induction n with
  | zero => rfl
  | succ n ih =>
    simp only [lp_260_58, bx]
    repeat' split
    all_goals simp (disch := omega) only [bx, up2_nk, upR_nk, ih]
theorem frI_lp_260_49 {I : WI} {L : WL} {x1 : Int32} {x3 : Int32} {a5 : Int64} {c k : Nat} (w0 : c = 74 → k ≠ 19 ∧ k ≠ 20 ∧ k ≠ 21 ∧ k ≠ 22 ∧ k ≠ 23 ∧ k ≠ 24 ∧ k ≠ 25 ∧ k ≠ 26 ∧ k ≠ 27 ∧ k ≠ 28 ∧ k ≠ 29 ∧ k ≠ 30 ∧ k ≠ 31 ∧ k ≠ 32 ∧ k ≠ 33 ∧ k ≠ 46 ∧ k ≠ 47 ∧ k ≠ 48) (w1 : c ≠ 79) (w2 : c ≠ 88) (w3 : c ≠ 89) (w4 : c ≠ 96) (w5 : c ≠ 97) (w6 : c ≠ 98) (w7 : c ≠ 99) : ∀ n, (lp_260_49 I L x1 x3 a5 n).2.1 c k = I c k := by
  intro n
  induction n with
  | zero => rfl
  | succ n ih =>
    simp only [le_260_49, st_260_49, bx]
    repeat' split
    all_goals simp (disch := omega) only [bx, up2_nk, upR_nk, frI_lp_260_58, frI_v_237, ih]
theorem frL_lp_260_49 {I : WI} {L : WL} {x1 : Int32} {x3 : Int32} {a5 : Int64} {c k : Nat} (w0 : c = 74 → k ≠ 19 ∧ k ≠ 20 ∧ k ≠ 21 ∧ k ≠ 22 ∧ k ≠ 23 ∧ k ≠ 24 ∧ k ≠ 25 ∧ k ≠ 26 ∧ k ≠ 27 ∧ k ≠ 28 ∧ k ≠ 29 ∧ k ≠ 30 ∧ k ≠ 31 ∧ k ≠ 32 ∧ k ≠ 33 ∧ k ≠ 46 ∧ k ≠ 47 ∧ k ≠ 48) (w1 : c ≠ 79) (w2 : c ≠ 88) (w3 : c ≠ 89) (w4 : c ≠ 96) (w5 : c ≠ 97) (w6 : c ≠ 98) (w7 : c ≠ 99) : ∀ n, (lp_260_49 I L x1 x3 a5 n).2.2 c k = L c k := by
  intro n
  induction n with
  | zero => rfl
  | succ n ih =>
    simp only [le_260_49, st_260_49, bx]
    repeat' split
    all_goals simp (disch := omega) only [bx, up2_nk, upR_nk, frL_v_237, ih]
end
