section
theorem frI_lp_269_13 {I : WI} {c k : Nat} (w0 : c ≠ 84) : ∀ n, (lp_269_13 I n) c k = I c k := by
  intro n
  induction n with
  | zero => rfl
  | succ n ih =>
    simp only [lp_269_13, bx]
    repeat' split
    all_goals simp (disch := omega) only [bx, up2_nk, upR_nk, ih]
theorem frI_lp_269_39 {I : WI} {c k : Nat} (w0 : c ≠ 80) (w1 : c ≠ 81) (w2 : c ≠ 82) (w3 : c ≠ 85) (w4 : c ≠ 86) (w5 : c ≠ 87) : ∀ n, (lp_269_39 I n) c k = I c k := by
  intro n
  induction n with
  | zero => rfl
  | succ n ih =>
    simp only [lp_269_39, bx]
    repeat' split
    all_goals simp (disch := omega) only [bx, up2_nk, upR_nk, ih]
theorem frI_lp_269_125 {I : WI} {c k : Nat} (w0 : c ≠ 78) : ∀ n, (lp_269_125 I n) c k = I c k := by
  intro n
  induction n with
  | zero => rfl
  | succ n ih =>
    simp only [lp_269_125, bx]
    repeat' split
    all_goals simp (disch := omega) only [bx, up2_nk, upR_nk, ih]
theorem frI_lp_269_151 {I : WI} {c k : Nat} (w0 : c ≠ 83) : ∀ n, (lp_269_151 I n) c k = I c k := by
  intro n
  induction n with
  | zero => rfl
  | succ n ih =>
    simp only [lp_269_151, bx]
    repeat' split
    all_goals simp (disch := omega) only [bx, up2_nk, upR_nk, ih]
theorem frI_lp_269_176 {I : WI} {c k : Nat} (w0 : c ≠ 79) : ∀ n, (lp_269_176 I n) c k = I c k := by
  intro n
  induction n with
  | zero => rfl
  | succ n ih =>
    simp only [lp_269_176, bx]
    repeat' split
    all_goals simp (disch := omega) only [bx, up2_nk, upR_nk, ih]
theorem frI_v_269 {I : WI} {c k : Nat} (w0 : c = 74 → k ≠ 4 ∧ k ≠ 13 ∧ k ≠ 18) (w1 : c ≠ 78) (w2 : c ≠ 79) (w3 : c ≠ 80) (w4 : c ≠ 81) (w5 : c ≠ 82) (w6 : c ≠ 83) (w7 : c ≠ 84) (w8 : c ≠ 85) (w9 : c ≠ 86) (w10 : c ≠ 87) : (v_269 I).2 c k = I c k := by
  unfold v_269
  try simp only [bx]
  repeat' split
  all_goals first | (with_reducible rfl) | simp (disch := omega) only [bx, up2_nk, upR_nk, frI_lp_269_125, frI_lp_269_13, frI_lp_269_151, frI_lp_269_176, frI_lp_269_39]
theorem frI_v_273 {I : WI} {x1 : Int32} {x2 : Int32} {c k : Nat} (w0 : c ≠ 116) : (v_273 I x1 x2).2 c k = I c k := by
  unfold v_273
  try simp only [bx]
  repeat' split
  all_goals first | (with_reducible rfl) | simp (disch := omega) only [bx, up2_nk, upR_nk]
theorem frI_lp_275_121 {I : WI} {F : WF} {x1 : Int32} {x2 : Int32} {x3 : Int32} {x4 : Int32} {x5 : Int32} {x6 : Int32} {c k : Nat} (w0 : c ≠ 114) (w1 : c ≠ 115) (w2 : c ≠ 116) : ∀ n, (lp_275_121 I F x1 x2 x3 x4 x5 x6 n).1 c k = I c k := by
  intro n
  induction n with
  | zero => rfl
  | succ n ih =>
    simp only [lp_275_121, bx]
    repeat' split
    all_goals simp (disch := omega) only [bx, up2_nk, upR_nk, ih]
theorem frF_lp_275_121 {I : WI} {F : WF} {x1 : Int32} {x2 : Int32} {x3 : Int32} {x4 : Int32} {x5 : Int32} {x6 : Int32} {c k : Nat} (w0 : c ≠ 114) (w1 : c ≠ 115) (w2 : c ≠ 116) : ∀ n, (lp_275_121 I F x1 x2 x3 x4 x5 x6 n).2 c k = F c k := by
  intro n
  induction n with
  | zero => rfl
  | succ n ih =>
    simp only [lp_275_121, bx]
    repeat' split
    all_goals simp (disch := omega) only [bx, up2_nk, upR_nk, ih]
theorem frI_v_275 {I : WI} {F : WF} {x1 : Int32} {x2 : Int32} {x3 : Int32} {x4 : Int32} {x5 : Int32} {c k : Nat} (w0 : c ≠ 114) (w1 : c ≠ 115) (w2 : c ≠ 116) : (v_275 I F x1 x2 x3 x4 x5).2.1 c k = I c k := by
  unfold v_275
  try simp only [bx]
  repeat' split
  all_goals first | (with_reducible rfl) | simp (disch := omega) only [bx, up2_nk, upR_nk, frI_lp_275_121]
theorem frF_v_275 {I : WI} {F : WF} {x1 : Int32} {x2 : Int32} {x3 : Int32} {x4 : Int32} {x5 : Int32} {c k : Nat} (w0 : c ≠ 114) (w1 : c ≠ 115) (w2 : c ≠ 116) : (v_275 I F x1 x2 x3 x4 x5).2.2 c k = F c k := by
  unfold v_275
  try simp only [bx]
  repeat' split
  all_goals first | (with_reducible rfl) | simp (disch := omega) only [bx, up2_nk, upR_nk, frF_lp_275_121]
theorem frI_v_16 {I : WI} {x1 : Int32} {c k : Nat} (w0 : c ≠ 36) : (v_16 I x1) c k = I c k := by
  unfold v_16
  try simp only [bx]
  repeat' split
  all_goals first | (with_reducible rfl) | simp (disch := omega) only [bx, up2_nk, upR_nk]
theorem frI_v_18 {I : WI} {x1 : Int32} {c k : Nat} (w0 : c = 35 → k ≠ 1) (w1 : c ≠ 36) : (v_18 I x1) c k = I c k := by
  unfold v_18
  try simp only [bx]
  repeat' split
  all_goals first | (with_reducible rfl) | simp (disch := omega) only [bx, up2_nk, upR_nk]
theorem frI_lp_40_10 {x1 : Int32} {x2 : Int32} {c k : Nat} (w0 : c ≠ 40) (w1 : c ≠ 41) : ∀ n (x4 : Int32) (I : WI), (lp_40_10 x1 x2 n x4 I).2 c k = I c k := by
  intro n
  induction n with
  | zero => intros; rfl
  | succ n ih =>
    intro x4 I
    simp only [lp_40_10, bx]
    repeat' split
    all_goals simp (disch := omega) only [bx, up2_nk, upR_nk, ih]
theorem frI_v_40 {I : WI} {x1 : Int32} {x2 : Int32} {x3 : Int32} {c k : Nat} (w0 : c = 38 → k ≠ 3) (w1 : c ≠ 40) (w2 : c ≠ 41) : (v_40 I x1 x2 x3) c k = I c k := by
  unfold v_40
  try simp only [bx]
  repeat' split
  all_goals first | (with_reducible rfl) | simp (disch := omega) only [bx, up2_nk, upR_nk, frI_lp_40_10]
theorem frI_lp_46_30 {I : WI} {F : WF} {b : Nat} {c k : Nat} (w0 : c ≠ (b + 1)) (w1 : c ≠ (b + 2)) (w2 : c ≠ (b + 3)) : ∀ n, (lp_46_30 I F b n).1 c k = I c k := by
  intro n
  induction n with
  | zero => rfl
  | succ n ih =>
    simp only [lp_46_30, bx]
    repeat' split
    all_goals simp (disch := omega) only [bx, up2_nk, upR_nk, frI_v_47, ih]
theorem frF_lp_46_30 {I : WI} {F : WF} {b : Nat} {c k : Nat} (w0 : c ≠ (b + 1)) (w1 : c ≠ (b + 2)) (w2 : c ≠ (b + 3)) : ∀ n, (lp_46_30 I F b n).2 c k = F c k := by
  intro n
  induction n with
  | zero => rfl
  | succ n ih =>
    simp only [lp_46_30, bx]
    repeat' split
    all_goals simp (disch := omega) only [bx, up2_nk, upR_nk, frF_v_47, ih]
theorem frI_v_46 {I : WI} {F : WF} {b : Nat} {x1 : Int32} {x2 : Int32} {c k : Nat} (w0 : c ≠ (b + 1)) (w1 : c ≠ (b + 2)) (w2 : c ≠ (b + 3)) (w3 : c = b → k ≠ 0 ∧ k ≠ 1) : (v_46 I F b x1 x2).1 c k = I c k := by
  unfold v_46
  try simp only [bx]
  repeat' split
  all_goals first | (with_reducible rfl) | simp (disch := omega) only [bx, up2_nk, upR_nk, frI_lp_46_30]
theorem frF_v_46 {I : WI} {F : WF} {b : Nat} {x1 : Int32} {x2 : Int32} {c k : Nat} (w0 : c ≠ (b + 1)) (w1 : c ≠ (b + 2)) (w2 : c ≠ (b + 3)) (w3 : c = b → k ≠ 0 ∧ k ≠ 1) : (v_46 I F b x1 x2).2 c k = F c k := by
  unfold v_46
  try simp only [bx]
  repeat' split
  all_goals first | (with_reducible rfl) | simp (disch := omega) only [bx, up2_nk, upR_nk, frF_lp_46_30]
theorem frI_v_53 {I : WI} {b : Nat} {x1 : Int32} {x2 : Int32} {x3 : Int32} {c k : Nat} (w0 : c ≠ (b + 4)) (w1 : c ≠ (b + 5)) (w2 : c ≠ (b + 6)) (w3 : c = b → k ≠ 4) : (v_53 I b x1 x2 x3).2 c k = I c k := by
  unfold v_53
  try simp only [bx]
  repeat' split
  all_goals first | (with_reducible rfl) | simp (disch := omega) only [bx, up2_nk, upR_nk, frI_v_54]
theorem frI_lp_60_15 {I : WI} {b : Nat} {x1 : Int32} {x2 : Int32} {c k : Nat} (w0 : c ≠ (b + 5)) (w1 : c ≠ (b + 6)) : ∀ n, (lp_60_15 I b x1 x2 n) c k = I c k := by
  intro n
  induction n with
  | zero => rfl
  | succ n ih =>
    simp only [lp_60_15, bx]
    repeat' split
    all_goals simp (disch := omega) only [bx, up2_nk, upR_nk, ih]
theorem frI_v_60 {I : WI} {b : Nat} {x1 : Int32} {x2 : Int32} {c k : Nat} (w0 : c ≠ (b + 5)) (w1 : c ≠ (b + 6)) (w2 : c ≠ (b + 9)) : (v_60 I b x1 x2) c k = I c k := by
  unfold v_60
  try simp only [bx]
  repeat' split
  all_goals first | (with_reducible rfl) | simp (disch := omega) only [bx, up2_nk, upR_nk, frI_lp_60_15]
theorem frI_lp_73_4 {I : WI} {b : Nat} {x1 : Int32} {a2 : Int32} {c k : Nat} (w0 : c ≠ (b + 9)) : ∀ n, (lp_73_4 I b x1 a2 n).2 c k = I c k := by
  intro n
  induction n with
  | zero => rfl
  | succ n ih =>
    simp only [lp_73_4, bx]
    repeat' split
    all_goals simp (disch := omega) only [bx, up2_nk, upR_nk, ih]
theorem frI_v_73 {I : WI} {b : Nat} {x1 : Int32} {c k : Nat} (w0 : c ≠ (b + 9)) : (v_73 I b x1).2 c k = I c k := by
  unfold v_73
  try simp only [bx]
  repeat' split
  all_goals first | (with_reducible rfl) | simp (disch := omega) only [bx, up2_nk, upR_nk, frI_lp_73_4]
theorem frI_lp_75_23 {I : WI} {b : Nat} {x1 : Int32} {x2 : Int32} {x3 : Int32} {a4 : Int32} {c k : Nat} (w0 : c ≠ (b + 4)) : ∀ n, (lp_75_23 I b x1 x2 x3 a4 n).2 c k = I c k := by
  intro n
  induction n with
  | zero => rfl
  | succ n ih =>
    simp only [lp_75_23, bx]
    repeat' split
    all_goals simp (disch := omega) only [bx, up2_nk, upR_nk, ih]
theorem frI_v_75 {I : WI} {b : Nat} {x1 : Int32} {c k : Nat} (w0 : c ≠ (b + 4)) : (v_75 I b x1).2 c k = I c k := by
  unfold v_75
  try simp only [bx]
  repeat' split
  all_goals first | (with_reducible rfl) | simp (disch := omega) only [bx, up2_nk, upR_nk, frI_lp_75_23]
theorem frI_v_78 {I : WI} {b : Nat} {x1 : Int32} {c k : Nat} (w0 : c = (b + 3) → k ≠ 0 ∧ k ≠ 1 ∧ k ≠ 2) : (v_78 I b x1) c k = I c k := by
  unfold v_78
  try simp only [bx]
  repeat' split
  all_goals first | (with_reducible rfl) | simp (disch := omega) only [bx, up2_nk, upR_nk, frI_v_70]
theorem frI_lp_89_0 {c k : Nat} (w0 : c = 31 → k ≠ 3) : ∀ n (I : WI), (lp_89_0 n I) c k = I c k := by
  intro n
  induction n with
  | zero => intros; rfl
  | succ n ih =>
    intro I
    simp only [lp_89_0, bx]
    repeat' split
    all_goals simp (disch := omega) only [bx, up2_nk, upR_nk, ih]
theorem frI_v_89 {I : WI} {c k : Nat} (w0 : c = 31 → k ≠ 3 ∧ k ≠ 4 ∧ k ≠ 5) : (v_89 I) c k = I c k := by
  unfold v_89
  try simp only [bx]
  repeat' split
  all_goals first | (with_reducible rfl) | simp (disch := omega) only [bx, up2_nk, upR_nk, frI_lp_89_0]
theorem frI_v_112 {I : WI} {x1 : Int32} {x2 : Int32} {c k : Nat} (w0 : c = 1 → k ≠ 12) : (v_112 I x1 x2).2 c k = I c k := by
  unfold v_112
  try simp only [bx]
  repeat' split
  all_goals first | (with_reducible rfl) | simp (disch := omega) only [bx, up2_nk, upR_nk, frI_v_56]
theorem frI_v_117 {I : WI} {x1 : Int32} {x2 : Int32} {c k : Nat} (w0 : c = 1 → k ≠ 1) (w1 : c = 2 → k ≠ 0 ∧ k ≠ 1 ∧ k ≠ 2) (w2 : c ≠ 3) : (v_117 I x1 x2).2 c k = I c k := by
  unfold v_117
  try simp only [bx]
  repeat' split
  all_goals first | (with_reducible rfl) | simp (disch := omega) only [bx, up2_nk, upR_nk, frI_v_69]
theorem frI_v_156 {I : WI} {F : WF} {x1 : Int32} {x2 : Int32} {x3 : Int32} {c k : Nat} (w0 : c ≠ ((58 + 4 * x1.toNatClampNeg) + 1)) (w1 : c ≠ ((58 + 4 * x1.toNatClampNeg) + 2)) (w2 : c ≠ ((58 + 4 * x1.toNatClampNeg) + 3)) (w3 : c = (58 + 4 * x1.toNatClampNeg) → k ≠ 0 ∧ k ≠ 1) : (v_156 I F x1 x2 x3).2.1 c k = I c k := by
  unfold v_156
  try simp only [bx]
  repeat' split
  all_goals first | (with_reducible rfl) | simp (disch := omega) only [bx, up2_nk, upR_nk, frI_v_46]
theorem frF_v_156 {I : WI} {F : WF} {x1 : Int32} {x2 : Int32} {x3 : Int32} {c k : Nat} (w0 : c ≠ ((58 + 4 * x1.toNatClampNeg) + 1)) (w1 : c ≠ ((58 + 4 * x1.toNatClampNeg) + 2)) (w2 : c ≠ ((58 + 4 * x1.toNatClampNeg) + 3)) (w3 : c = (58 + 4 * x1.toNatClampNeg) → k ≠ 0 ∧ k ≠ 1) : (v_156 I F x1 x2 x3).2.2 c k = F c k := by
  unfold v_156
  try simp only [bx]
  repeat' split
  all_goals first | (with_reducible rfl) | simp (disch := omega) only [bx, up2_nk, upR_nk, frF_v_46]
theorem frI_v_157 {I : WI} {F : WF} {x1 : Int32} {x2 : Int32} {x3 : Int32} {c k : Nat} (w0 : c ≠ ((58 + 4 * x1.toNatClampNeg) + 1)) (w1 : c ≠ ((58 + 4 * x1.toNatClampNeg) + 2)) (w2 : c ≠ ((58 + 4 * x1.toNatClampNeg) + 3)) : (v_157 I F x1 x2 x3).2.1 c k = I c k := by
  unfold v_157
  try simp only [bx]
  repeat' split
  all_goals first | (with_reducible rfl) | simp (disch := omega) only [bx, up2_nk, upR_nk, frI_v_47]
theorem frF_v_157 {I : WI} {F : WF} {x1 : Int32} {x2 : Int32} {x3 : Int32} {c k : Nat} (w0 : c ≠ ((58 + 4 * x1.toNatClampNeg) + 1)) (w1 : c ≠ ((58 + 4 * x1.toNatClampNeg) + 2)) (w2 : c ≠ ((58 + 4 * x1.toNatClampNeg) + 3)) : (v_157 I F x1 x2 x3).2.2 c k = F c k := by
  unfold v_157
  try simp only [bx]
  repeat' split
  all_goals first | (with_reducible rfl) | simp (disch := omega) only [bx, up2_nk, upR_nk, frF_v_47]
theorem frI_lp_165_55 {I : WI} {F : WF} {x1 : Int32} {x2 : Int32} {x3 : Int32} {c k : Nat} (w0 : c ≠ ((58 + 4 * x2.toNatClampNeg) + 1)) (w1 : c ≠ ((58 + 4 * x2.toNatClampNeg) + 2)) (w2 : c ≠ ((58 + 4 * x2.toNatClampNeg) + 3)) : ∀ n, (lp_165_55 I F x1 x2 x3 n).1 c k = I c k := by
  intro n
  induction n with
  | zero => rfl
  | succ n ih =>
    simp only [lp_165_55, bx]
    repeat' split
    all_goals simp (disch := omega) only [bx, up2_nk, upR_nk, frI_v_47, ih]
theorem frF_lp_165_55 {I : WI} {F : WF} {x1 : Int32} {x2 : Int32} {x3 : Int32} {c k : Nat} (w0 : c ≠ ((58 + 4 * x2.toNatClampNeg) + 1)) (w1 : c ≠ ((58 + 4 * x2.toNatClampNeg) + 2)) (w2 : c ≠ ((58 + 4 * x2.toNatClampNeg) + 3)) : ∀ n, (lp_165_55 I F x1 x2 x3 n).2 c k = F c k := by
  intro n
  induction n with
  | zero => rfl
  | succ n ih =>
    simp only [lp_165_55, bx]
    repeat' split
    all_goals simp (disch := omega) only [bx, up2_nk, upR_nk, frF_v_47, ih]
theorem frI_v_165 {I : WI} {F : WF} {x1 : Int32} {x2 : Int32} {x3 : Int32} {c k : Nat} (w0 : c ≠ ((58 + 4 * x2.toNatClampNeg) + 1)) (w1 : c ≠ ((58 + 4 * x2.toNatClampNeg) + 2)) (w2 : c ≠ ((58 + 4 * x2.toNatClampNeg) + 3)) : (v_165 I F x1 x2 x3).2.1 c k = I c k := by
  unfold v_165
  try simp only [bx]
  repeat' split
  all_goals first | (with_reducible rfl) | simp (disch := omega) only [bx, up2_nk, upR_nk, frI_lp_165_55]
theorem frF_v_165 {I : WI} {F : WF} {x1 : Int32} {x2 : Int32} {x3 : Int32} {c k : Nat} (w0 : c ≠ ((58 + 4 * x2.toNatClampNeg) + 1)) (w1 : c ≠ ((58 + 4 * x2.toNatClampNeg) + 2)) (w2 : c ≠ ((58 + 4 * x2.toNatClampNeg) + 3)) : (v_165 I F x1 x2 x3).2.2 c k = F c k := by
  unfold v_165
  try simp only [bx]
  repeat' split
  all_goals first | (with_reducible rfl) | simp (disch := omega) only [bx, up2_nk, upR_nk, frF_lp_165_55]
theorem frI_v_169 {I : WI} {x1 : Int32} {x2 : Int32} {c k : Nat} (w0 : c ≠ 78) : (v_169 I x1 x2).2 c k = I c k := by
  unfold v_169
  try simp only [bx]
  repeat' split
  all_goals first | (with_reducible rfl) | simp (disch := omega) only [bx, up2_nk, upR_nk]
theorem frI_v_172 {I : WI} {x1 : Int32} {x2 : Int32} {x3 : Int32} {c k : Nat} (w0 : c = 74 → k ≠ 13) (w1 : c ≠ 80) (w2 : c ≠ 83) : (v_172 I x1 x2 x3).2 c k = I c k := by
  unfold v_172
  try simp only [bx]
  repeat' split
  all_goals first | (with_reducible rfl) | simp (disch := omega) only [bx, up2_nk, upR_nk]
theorem frI_v_175 {I : WI} {x1 : Int32} {x2 : Int32} {x3 : Int32} {x4 : Int32} {c k : Nat} (w0 : c ≠ 81) (w1 : c ≠ 82) (w2 : c ≠ 83) (w3 : c ≠ 84) (w4 : c ≠ 86) : (v_175 I x1 x2 x3 x4) c k = I c k := by
  unfold v_175
  try simp only [bx]
  repeat' split
  all_goals first | (with_reducible rfl) | simp (disch := omega) only [bx, up2_nk, upR_nk, frI_v_177]
theorem frI_v_178 {I : WI} {x1 : Int32} {x2 : Int32} {x3 : Int32} {x4 : Int32} {c k : Nat} (w0 : c ≠ 81) (w1 : c ≠ 82) (w2 : c ≠ 83) (w3 : c ≠ 84) (w4 : c ≠ 86) : (v_178 I x1 x2 x3 x4).2 c k = I c k := by
  unfold v_178
  try simp only [bx]
  repeat' split
  all_goals first | (with_reducible rfl) | simp (disch := omega) only [bx, up2_nk, upR_nk, frI_v_175]
theorem frI_lp_194_0 {c k : Nat} (w0 : c = 74 → k ≠ 27) : ∀ n (I : WI), (lp_194_0 n I) c k = I c k := by
  intro n
  induction n with
  | zero => intros; rfl
  | succ n ih =>
    intro I
    simp only [lp_194_0, bx]
    repeat' split
    all_goals simp (disch := omega) only [bx, up2_nk, upR_nk, ih]
theorem frI_lp_194_160 {c k : Nat} (w0 : c = 74 → k ≠ 27 ∧ k ≠ 30) : ∀ n (x2 : Int32) (I : WI) (L : WL), (lp_194_160 n x2 I L).2.1 c k = I c k := by
  intro n
  induction n with
  | zero => intros; rfl
  | succ n ih =>
    intro x2 I L
    simp only [lp_194_160, bx]
    repeat' split
    all_goals simp (disch := omega) only [bx, up2_nk, upR_nk, ih]
theorem frL_lp_194_160 {c k : Nat} (w0 : c = 74 → k ≠ 27 ∧ k ≠ 30) : ∀ n (x2 : Int32) (I : WI) (L : WL), (lp_194_160 n x2 I L).2.2 c k = L c k := by
  intro n
  induction n with
  | zero => intros; rfl
  | succ n ih =>
    intro x2 I L
    simp only [lp_194_160, bx]
    repeat' split
    all_goals simp (disch := omega) only [bx, up2_nk, upR_nk, ih]
theorem frI_lp_194_100 {c k : Nat} (w0 : c = 74 → k ≠ 27) : ∀ n (I : WI), (lp_194_100 n I) c k = I c k := by
  intro n
  induction n with
  | zero => intros; rfl
  | succ n ih =>
    intro I
    simp only [lp_194_100, bx]
    repeat' split
    all_goals simp (disch := omega) only [bx, up2_nk, upR_nk, ih]
theorem frI_v_194 {I : WI} {L : WL} {c k : Nat} (w0 : c = 74 → k ≠ 27 ∧ k ≠ 28 ∧ k ≠ 29 ∧ k ≠ 30) : (v_194 I L).1 c k = I c k := by
  unfold v_194
  refine bx_gen (P := fun z : WI × WL => z.1 c k = I c k) ?_
  intro p1 hp1
  have fp1 : p1 c k = I c k := by rw [hp1]; simp (disch := omega) only [bx, up2_nk, upR_nk, frI_lp_194_0, frI_lp_194_100, frI_lp_194_160]
  clear hp1
  refine ite_gen (P := fun z : WI × WL => z.1 c k = I c k) (fun _ => ?_) (fun _ => ?_)
  · skip
    refine ite_gen (P := fun z : WI × WL => z.1 c k = I c k) (fun _ => ?_) (fun _ => ?_)
    · skip
      refine ite_gen (P := fun z : WI × WL => z.1 c k = I c k) (fun _ => ?_) (fun _ => ?_)
      · skip
        refine ite_gen (P := fun z : WI × WL => z.1 c k = I c k) (fun _ => ?_) (fun _ => ?_)
        · skip
          first | assumption | simp (disch := omega) only [bx, up2_nk, upR_nk, frI_lp_194_0, frI_lp_194_100, frI_lp_194_160, fp1]
        · skip
          refine ite_gen (P := fun z : WI × WL => z.1 c k = I c k) (fun _ => ?_) (fun _ => ?_)
          · skip
            first | assumption | simp (disch := omega) only [bx, up2_nk, upR_nk, frI_lp_194_0, frI_lp_194_100, frI_lp_194_160, fp1]
          · skip
            refine ite_gen (P := fun z : WI × WL => z.1 c k = I c k) (fun _ => ?_) (fun _ => ?_)
            · skip
              first | assumption | simp (disch := omega) only [bx, up2_nk, upR_nk, frI_lp_194_0, frI_lp_194_100, frI_lp_194_160, fp1]
            · skip
              refine ite_gen (P := fun z : WI × WL => z.1 c k = I c k) (fun _ => ?_) (fun _ => ?_)
              · skip
                first | assumption | simp (disch := omega) only [bx, up2_nk, upR_nk, frI_lp_194_0, frI_lp_194_100, frI_lp_194_160, fp1]
              · skip
                refine ite_gen (P := fun z : WI × WL => z.1 c k = I c k) (fun _ => ?_) (fun _ => ?_)
                · skip
                  first | assumption | simp (disch := omega) only [bx, up2_nk, upR_nk, frI_lp_194_0, frI_lp_194_100, frI_lp_194_160, fp1]
                · skip
                  refine ite_gen (P := fun z : WI × WL => z.1 c k = I c k) (fun _ => ?_) (fun _ => ?_)
                  · skip
                    first | assumption | simp (disch := omega) only [bx, up2_nk, upR_nk, frI_lp_194_0, frI_lp_194_100, frI_lp_194_160, fp1]
                  · skip
                    refine ite_gen (P := fun z : WI × WL => z.1 c k = I c k) (fun _ => ?_) (fun _ => ?_)
                    · skip
                      first | assumption | simp (disch := omega) only [bx, up2_nk, upR_nk, frI_lp_194_0, frI_lp_194_100, frI_lp_194_160, fp1]
                    · skip
                      refine ite_gen (P := fun z : WI × WL => z.1 c k = I c k) (fun _ => ?_) (fun _ => ?_)
                      · skip
                        first | assumption | simp (disch := omega) only [bx, up2_nk, upR_nk, frI_lp_194_0, frI_lp_194_100, frI_lp_194_160, fp1]
                      · skip
                        first | assumption | simp (disch := omega) only [bx, up2_nk, upR_nk, frI_lp_194_0, frI_lp_194_100, frI_lp_194_160, fp1]
      · skip
        refine bx_gen (P := fun z : WI × WL => z.1 c k = I c k) ?_
        intro p3 hp3
        have fp3 : p3.2.1 c k = I c k := by rw [hp3]; simp (disch := omega) only [bx, up2_nk, upR_nk, frI_lp_194_0, frI_lp_194_100, frI_lp_194_160, fp1]
        clear hp3
        refine bx_gen (P := fun z : WI × WL => z.1 c k = I c k) ?_
        intro p4 hp4
        clear hp4
        first | assumption | simp (disch := omega) only [bx, up2_nk, upR_nk, frI_lp_194_0, frI_lp_194_100, frI_lp_194_160, fp1, fp3]
    · skip
      refine bx_gen (P := fun z : WI × WL => z.1 c k = I c k) ?_
      intro p5 hp5
      have fp5 : p5 c k = I c k := by rw [hp5]; simp (disch := omega) only [bx, up2_nk, upR_nk, frI_lp_194_0, frI_lp_194_100, frI_lp_194_160, fp1]
      clear hp5
      first | assumption | simp (disch := omega) only [bx, up2_nk, upR_nk, frI_lp_194_0, frI_lp_194_100, frI_lp_194_160, fp1, fp5]
  · skip
    first | assumption | simp (disch := omega) only [bx, up2_nk, upR_nk, frI_lp_194_0, frI_lp_194_100, frI_lp_194_160, fp1]
theorem frL_v_194 {I : WI} {L : WL} {c k : Nat} (w0 : c = 74 → k ≠ 27 ∧ k ≠ 28 ∧ k ≠ 29 ∧ k ≠ 30) : (v_194 I L).2 c k = L c k := by
  unfold v_194
  refine bx_gen (P := fun z : WI × WL => z.2 c k = L c k) ?_
  intro p1 hp1
  clear hp1
  refine ite_gen (P := fun z : WI × WL => z.2 c k = L c k) (fun _ => ?_) (fun _ => ?_)
  · skip
    refine ite_gen (P := fun z : WI × WL => z.2 c k = L c k) (fun _ => ?_) (fun _ => ?_)
    · skip
      refine ite_gen (P := fun z : WI × WL => z.2 c k = L c k) (fun _ => ?_) (fun _ => ?_)
      · skip
        refine ite_gen (P := fun z : WI × WL => z.2 c k = L c k) (fun _ => ?_) (fun _ => ?_)
        · skip
          first | assumption | simp (disch := omega) only [bx, up2_nk, upR_nk, frL_lp_194_160]
        · skip
          refine ite_gen (P := fun z : WI × WL => z.2 c k = L c k) (fun _ => ?_) (fun _ => ?_)
          · skip
            first | assumption | simp (disch := omega) only [bx, up2_nk, upR_nk, frL_lp_194_160]
          · skip
            refine ite_gen (P := fun z : WI × WL => z.2 c k = L c k) (fun _ => ?_) (fun _ => ?_)
            · skip
              first | assumption | simp (disch := omega) only [bx, up2_nk, upR_nk, frL_lp_194_160]
            · skip
              refine ite_gen (P := fun z : WI × WL => z.2 c k = L c k) (fun _ => ?_) (fun _ => ?_)
              · skip
                first | assumption | simp (disch := omega) only [bx, up2_nk, upR_nk, frL_lp_194_160]
              · skip
                refine ite_gen (P := fun z : WI × WL => z.2 c k = L c k) (fun _ => ?_) (fun _ => ?_)
                · skip
                  first | assumption | simp (disch := omega) only [bx, up2_nk, upR_nk, frL_lp_194_160]
                · skip
                  refine ite_gen (P := fun z : WI × WL => z.2 c k = L c k) (fun _ => ?_) (fun _ => ?_)
                  · skip
                    first | assumption | simp (disch := omega) only [bx, up2_nk, upR_nk, frL_lp_194_160]
                  · skip
                    refine ite_gen (P := fun z : WI × WL => z.2 c k = L c k) (fun _ => ?_) (fun _ => ?_)
                    · skip
                      first | assumption | simp (disch := omega) only [bx, up2_nk, upR_nk, frL_lp_194_160]
                    · skip
                      refine ite_gen (P := fun z : WI × WL => z.2 c k = L c k) (fun _ => ?_) (fun _ => ?_)
                      · skip
                        first | assumption | simp (disch := omega) only [bx, up2_nk, upR_nk, frL_lp_194_160]
                      · skip
                        first | assumption | simp (disch := omega) only [bx, up2_nk, upR_nk, frL_lp_194_160]
      · skip
        refine bx_gen (P := fun z : WI × WL => z.2 c k = L c k) ?_
        intro p3 hp3
        have fp3 : p3.2.2 c k = L c k := by rw [hp3]; simp (disch := omega) only [bx, up2_nk, upR_nk, frL_lp_194_160]
        clear hp3
        refine bx_gen (P := fun z : WI × WL => z.2 c k = L c k) ?_
        intro p4 hp4
        clear hp4
        first | assumption | simp (disch := omega) only [bx, up2_nk, upR_nk, frL_lp_194_160, fp3]
    · skip
      refine bx_gen (P := fun z : WI × WL => z.2 c k = L c k) ?_
      intro p5 hp5
      clear hp5
      first | assumption | simp (disch := omega) only [bx, up2_nk, upR_nk, frL_lp_194_160]
  · skip
    first | assumption | simp (disch := omega) only [bx, up2_nk, upR_nk, frL_lp_194_160]
theorem frI_v_203 {I : WI} {L : WL} {c k : Nat} (w0 : c = 74 → k ≠ 27 ∧ k ≠ 28 ∧ k ≠ 29 ∧ k ≠ 30 ∧ k ≠ 31 ∧ k ≠ 32 ∧ k ≠ 33) : (v_203 I L).2.1 c k = I c k := by
  unfold v_203
  try simp only [bx]
  repeat' split
  all_goals first | (with_reducible rfl) | simp (disch := omega) only [bx, up2_nk, upR_nk, frI_v_194, frI_v_199]
theorem frL_v_203 {I : WI} {L : WL} {c k : Nat} (w0 : c = 74 → k ≠ 27 ∧ k ≠ 28 ∧ k ≠ 29 ∧ k ≠ 30 ∧ k ≠ 31 ∧ k ≠ 32 ∧ k ≠ 33) : (v_203 I L).2.2 c k = L c k := by
  unfold v_203
  try simp only [bx]
  repeat' split
  all_goals first | (with_reducible rfl) | simp (disch := omega) only [bx, up2_nk, upR_nk, frL_v_194]
theorem frI_v_208 {I : WI} {c k : Nat} (w0 : c = 74 → k ≠ 32 ∧ k ≠ 33) : (v_208 I).2 c k = I c k := by
  unfold v_208
  try simp only [bx]
  repeat' split
  all_goals first | (with_reducible rfl) | simp (disch := omega) only [bx, up2_nk, upR_nk, frI_v_199]
theorem frI_lp_229_26 {I : WI} {x1 : Int32} {c k : Nat} (w0 : c ≠ 81) (w1 : c ≠ 82) (w2 : c ≠ 83) (w3 : c ≠ 86) : ∀ n, (lp_229_26 I x1 n) c k = I c k := by
  intro n
  induction n with
  | zero => rfl
  | succ n ih =>
    simp only [lp_229_26, bx]
    repeat' split
    all_goals simp (disch := omega) only [bx, up2_nk, upR_nk, frI_v_177, ih]
theorem frI_v_229 {I : WI} {x1 : Int32} {c k : Nat} (w0 : c ≠ 81) (w1 : c ≠ 82) (w2 : c ≠ 83) (w3 : c ≠ 86) : (v_229 I x1).2 c k = I c k := by
  unfold v_229
  try simp only [bx]
  repeat' split
  all_goals first | (with_reducible rfl) | simp (disch := omega) only [bx, up2_nk, upR_nk, frI_lp_229_26, frI_v_230]
theorem frI_v_231 {I : WI} {c k : Nat} (w0 : c ≠ 80) (w1 : c ≠ 81) (w2 : c ≠ 82) (w3 : c ≠ 83) (w4 : c ≠ 86) : (v_231 I).2 c k = I c k := by
  unfold v_231
  try simp only [bx]
  repeat' split
  all_goals first | (with_reducible rfl) | simp (disch := omega) only [bx, up2_nk, upR_nk, frI_v_232]
theorem frI_lp_233_31 {c k : Nat} (w0 : c ≠ 80) (w1 : c ≠ 81) (w2 : c ≠ 82) (w3 : c ≠ 83) (w4 : c ≠ 86) : ∀ n (x2 : Int32) (x3 : Int32) (I : WI), (lp_233_31 n x2 x3 I).2 c k = I c k := by
  intro n
  induction n with
  | zero => intros; rfl
  | succ n ih =>
    intro x2 x3 I
    simp only [lp_233_31, bx]
    repeat' split
    all_goals simp (disch := omega) only [bx, up2_nk, upR_nk, frI_v_232, ih]
theorem frI_v_233 {I : WI} {x1 : Int32} {c k : Nat} (w0 : c ≠ 79) (w1 : c ≠ 80) (w2 : c ≠ 81) (w3 : c ≠ 82) (w4 : c ≠ 83) (w5 : c ≠ 86) (w6 : c ≠ 90) (w7 : c ≠ 91) (w8 : c ≠ 92) (w9 : c ≠ 93) (w10 : c ≠ 94) (w11 : c ≠ 95) : (v_233 I x1).2 c k = I c k := by
  unfold v_233
  try simp only [bx]
  repeat' split
  all_goals first | (with_reducible rfl) | simp (disch := omega) only [bx, up2_nk, upR_nk, frI_lp_233_31, frI_v_234, frI_v_235]
theorem frI_v_271 {I : WI} {F : WF} {x1 : Int32} {x2 : Int32} {x3 : Int32} {c k : Nat} (w0 : c ≠ 114) (w1 : c ≠ 115) (w2 : c ≠ 116) : (v_271 I F x1 x2 x3).2.1 c k = I c k := by
  unfold v_271
  try simp only [bx]
  repeat' split
  all_goals first | (with_reducible rfl) | simp (disch := omega) only [bx, up2_nk, upR_nk]
theorem frF_v_271 {I : WI} {F : WF} {x1 : Int32} {x2 : Int32} {x3 : Int32} {c k : Nat} (w0 : c ≠ 114) (w1 : c ≠ 115) (w2 : c ≠ 116) : (v_271 I F x1 x2 x3).2.2 c k = F c k := by
  unfold v_271
  try simp only [bx]
  repeat' split
  all_goals first | (with_reducible rfl) | simp (disch := omega) only [bx, up2_nk, upR_nk]
theorem frI_lp_279_78 {I : WI} {x1 : Int32} {x2 : Int32} {x3 : Int32} {c k : Nat} (w0 : c ≠ 114) : ∀ n, (lp_279_78 I x1 x2 x3 n) c k = I c k := by
  intro n
  induction n with
  | zero => rfl
  | succ n ih =>
    simp only [lp_279_78, bx]
    repeat' split
    all_goals simp (disch := omega) only [bx, up2_nk, upR_nk, ih]
end
