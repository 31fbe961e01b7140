section
theorem frI_v_260 {I : WI} {L : WL} {x1 : Int32} {x2 : Int32} {x3 : Int32} {x4 : Int32} {c k : Nat} (w0 : c = 74 → k ≠ 19 ∧ k ≠ 20 ∧ k ≠ 21 ∧ k ≠ 22 ∧ k ≠ 23 ∧ k ≠ 24 ∧ k ≠ 25 ∧ k ≠ 26 ∧ k ≠ 27 ∧ k ≠ 28 ∧ k ≠ 29 ∧ k ≠ 30 ∧ k ≠ 31 ∧ k ≠ 32 ∧ k ≠ 33 ∧ k ≠ 46 ∧ k ≠ 47 ∧ k ≠ 48) (w1 : c ≠ 79) (w2 : c ≠ 80) (w3 : c ≠ 81) (w4 : c ≠ 82) (w5 : c ≠ 83) (w6 : c ≠ 86) (w7 : c ≠ 88) (w8 : c ≠ 89) (w9 : c ≠ 90) (w10 : c ≠ 91) (w11 : c ≠ 92) (w12 : c ≠ 93) (w13 : c ≠ 94) (w14 : c ≠ 95) (w15 : c ≠ 96) (w16 : c ≠ 97) (w17 : c ≠ 98) (w18 : c ≠ 99) : (v_260 I L x1 x2 x3 x4).2.1 c k = I c k := by
  unfold v_260
  try simp only [bx]
  repeat' split
  all_goals first | (with_reducible rfl) | simp (disch := omega) only [bx, up2_nk, upR_nk, frI_lp_260_49, frI_v_234, frI_v_235]
theorem frL_v_260 {I : WI} {L : WL} {x1 : Int32} {x2 : Int32} {x3 : Int32} {x4 : Int32} {c k : Nat} (w0 : c = 74 → k ≠ 19 ∧ k ≠ 20 ∧ k ≠ 21 ∧ k ≠ 22 ∧ k ≠ 23 ∧ k ≠ 24 ∧ k ≠ 25 ∧ k ≠ 26 ∧ k ≠ 27 ∧ k ≠ 28 ∧ k ≠ 29 ∧ k ≠ 30 ∧ k ≠ 31 ∧ k ≠ 32 ∧ k ≠ 33 ∧ k ≠ 46 ∧ k ≠ 47 ∧ k ≠ 48) (w1 : c ≠ 79) (w2 : c ≠ 80) (w3 : c ≠ 81) (w4 : c ≠ 82) (w5 : c ≠ 83) (w6 : c ≠ 86) (w7 : c ≠ 88) (w8 : c ≠ 89) (w9 : c ≠ 90) (w10 : c ≠ 91) (w11 : c ≠ 92) (w12 : c ≠ 93) (w13 : c ≠ 94) (w14 : c ≠ 95) (w15 : c ≠ 96) (w16 : c ≠ 97) (w17 : c ≠ 98) (w18 : c ≠ 99) : (v_260 I L x1 x2 x3 x4).2.2 c k = L c k := by
  unfold v_260
  try simp only [bx]
  repeat' split
  all_goals first | (with_reducible rfl) | simp (disch := omega) only [bx, up2_nk, upR_nk, frL_lp_260_49]
theorem frI_lp_261_113s {I : WI} {F : WF} {L : WL} {x1 : Int32} {x2 : Int32} {a5 : Int32} {a3 : Int32} {c k : Nat} (w0 : c = 74 → k ≠ 4 ∧ k ≠ 19 ∧ k ≠ 20 ∧ k ≠ 21 ∧ k ≠ 22 ∧ k ≠ 23 ∧ k ≠ 24 ∧ k ≠ 25 ∧ k ≠ 26 ∧ k ≠ 27 ∧ k ≠ 28 ∧ k ≠ 29 ∧ k ≠ 30 ∧ k ≠ 31 ∧ k ≠ 32 ∧ k ≠ 33) (w1 : c = 78 → k ≠ 3 ∧ k ≠ 4) (w2 : c ≠ 79) (w3 : c ≠ 80) (w4 : c ≠ 81) (w5 : c ≠ 82) (w6 : c ≠ 83) (w7 : c ≠ 86) (w8 : c ≠ 87) (w9 : c ≠ 88) (w10 : c ≠ 89) (w11 : c ≠ 90) (w12 : c ≠ 91) (w13 : c ≠ 92) (w14 : c ≠ 93) (w15 : c ≠ 94) (w16 : c ≠ 95) (w17 : c ≠ 96) (w18 : c ≠ 97) (w19 : c ≠ 98) : ∀ n, (lp_261_113s I F L x1 x2 a5 a3 n).2.1 c k = I c k := by
  intro n
  induction n with
  | zero => rfl
  | succ n ih =>
    simp only [le_261_113s, st_261_113s, bx]
    repeat' split
    all_goals simp (disch := omega) only [bx, up2_nk, upR_nk, frI_v_263, frI_v_265, ih]
theorem frL_lp_261_113s {I : WI} {F : WF} {L : WL} {x1 : Int32} {x2 : Int32} {a5 : Int32} {a3 : Int32} {c k : Nat} (w0 : c = 74 → k ≠ 4 ∧ k ≠ 19 ∧ k ≠ 20 ∧ k ≠ 21 ∧ k ≠ 22 ∧ k ≠ 23 ∧ k ≠ 24 ∧ k ≠ 25 ∧ k ≠ 26 ∧ k ≠ 27 ∧ k ≠ 28 ∧ k ≠ 29 ∧ k ≠ 30 ∧ k ≠ 31 ∧ k ≠ 32 ∧ k ≠ 33) (w1 : c = 78 → k ≠ 3 ∧ k ≠ 4) (w2 : c ≠ 79) (w3 : c ≠ 80) (w4 : c ≠ 81) (w5 : c ≠ 82) (w6 : c ≠ 83) (w7 : c ≠ 86) (w8 : c ≠ 87) (w9 : c ≠ 88) (w10 : c ≠ 89) (w11 : c ≠ 90) (w12 : c ≠ 91) (w13 : c ≠ 92) (w14 : c ≠ 93) (w15 : c ≠ 94) (w16 : c ≠ 95) (w17 : c ≠ 96) (w18 : c ≠ 97) (w19 : c ≠ 98) : ∀ n, (lp_261_113s I F L x1 x2 a5 a3 n).2.2 c k = L c k := by
  intro n
  induction n with
  | zero => rfl
  | succ n ih =>
    simp only [le_261_113s, st_261_113s, bx]
    repeat' split
    all_goals simp (disch := omega) only [bx, up2_nk, upR_nk, frL_v_263, ih]
theorem frI_v_261 {I : WI} {F : WF} {L : WL} {x1 : Int32} {x2 : Int32} {c k : Nat} (w0 : c = 74 → k ≠ 4 ∧ k ≠ 19 ∧ k ≠ 20 ∧ k ≠ 21 ∧ k ≠ 22 ∧ k ≠ 23 ∧ k ≠ 24 ∧ k ≠ 25 ∧ k ≠ 26 ∧ k ≠ 27 ∧ k ≠ 28 ∧ k ≠ 29 ∧ k ≠ 30 ∧ k ≠ 31 ∧ k ≠ 32 ∧ k ≠ 33) (w1 : c = 78 → k ≠ 3 ∧ k ≠ 4) (w2 : c ≠ 79) (w3 : c ≠ 80) (w4 : c ≠ 81) (w5 : c ≠ 82) (w6 : c ≠ 83) (w7 : c ≠ 86) (w8 : c ≠ 87) (w9 : c ≠ 88) (w10 : c ≠ 89) (w11 : c ≠ 90) (w12 : c ≠ 91) (w13 : c ≠ 92) (w14 : c ≠ 93) (w15 : c ≠ 94) (w16 : c ≠ 95) (w17 : c ≠ 96) (w18 : c ≠ 97) (w19 : c ≠ 98) : (v_261 I F L x1 x2).2.1 c k = I c k := by
  unfold v_261
  try simp only [bx]
  repeat' split
  all_goals first | (with_reducible rfl) | simp (disch := omega) only [bx, up2_nk, upR_nk, frI_lp_261_113s, frI_v_263]
theorem frL_v_261 {I : WI} {F : WF} {L : WL} {x1 : Int32} {x2 : Int32} {c k : Nat} (w0 : c = 74 → k ≠ 4 ∧ k ≠ 19 ∧ k ≠ 20 ∧ k ≠ 21 ∧ k ≠ 22 ∧ k ≠ 23 ∧ k ≠ 24 ∧ k ≠ 25 ∧ k ≠ 26 ∧ k ≠ 27 ∧ k ≠ 28 ∧ k ≠ 29 ∧ k ≠ 30 ∧ k ≠ 31 ∧ k ≠ 32 ∧ k ≠ 33) (w1 : c = 78 → k ≠ 3 ∧ k ≠ 4) (w2 : c ≠ 79) (w3 : c ≠ 80) (w4 : c ≠ 81) (w5 : c ≠ 82) (w6 : c ≠ 83) (w7 : c ≠ 86) (w8 : c ≠ 87) (w9 : c ≠ 88) (w10 : c ≠ 89) (w11 : c ≠ 90) (w12 : c ≠ 91) (w13 : c ≠ 92) (w14 : c ≠ 93) (w15 : c ≠ 94) (w16 : c ≠ 95) (w17 : c ≠ 96) (w18 : c ≠ 97) (w19 : c ≠ 98) : (v_261 I F L x1 x2).2.2 c k = L c k := by
  unfold v_261
  try simp only [bx]
  repeat' split
  all_goals first | (with_reducible rfl) | simp (disch := omega) only [bx, up2_nk, upR_nk, frL_lp_261_113s, frL_v_263]
theorem frI_v_236 {I : WI} {L : WL} {x1 : Int32} {x2 : Int32} {c k : Nat} (w0 : c = 74 → k ≠ 19 ∧ k ≠ 20 ∧ k ≠ 21 ∧ k ≠ 22 ∧ k ≠ 23 ∧ k ≠ 24 ∧ k ≠ 25 ∧ k ≠ 26 ∧ k ≠ 27 ∧ k ≠ 28 ∧ k ≠ 29 ∧ k ≠ 30 ∧ k ≠ 31 ∧ k ≠ 32 ∧ k ≠ 33 ∧ k ≠ 46 ∧ k ≠ 47 ∧ k ≠ 48) (w1 : c ≠ 88) (w2 : c ≠ 89) (w3 : c ≠ 96) (w4 : c ≠ 97) (w5 : c ≠ 98) (w6 : c ≠ 99) : (v_236 I L x1 x2).2.1 c k = I c k := by
  unfold v_236
  try simp only [bx]
  repeat' split
  all_goals first | (with_reducible rfl) | simp (disch := omega) only [bx, up2_nk, upR_nk, frI_v_228, frI_v_237, frI_v_238]
theorem frL_v_236 {I : WI} {L : WL} {x1 : Int32} {x2 : Int32} {c k : Nat} (w0 : c = 74 → k ≠ 19 ∧ k ≠ 20 ∧ k ≠ 21 ∧ k ≠ 22 ∧ k ≠ 23 ∧ k ≠ 24 ∧ k ≠ 25 ∧ k ≠ 26 ∧ k ≠ 27 ∧ k ≠ 28 ∧ k ≠ 29 ∧ k ≠ 30 ∧ k ≠ 31 ∧ k ≠ 32 ∧ k ≠ 33 ∧ k ≠ 46 ∧ k ≠ 47 ∧ k ≠ 48) (w1 : c ≠ 88) (w2 : c ≠ 89) (w3 : c ≠ 96) (w4 : c ≠ 97) (w5 : c ≠ 98) (w6 : c ≠ 99) : (v_236 I L x1 x2).2.2 c k = L c k := by
  unfold v_236
  try simp only [bx]
  repeat' split
  all_goals first | (with_reducible rfl) | simp (disch := omega) only [bx, up2_nk, upR_nk, frL_v_228, frL_v_237, frL_v_238]
end
