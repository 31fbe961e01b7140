section
variable {b nv nc : Nat} {I J : WI}
theorem l60 {v c : Nat} (hv : v < 12) (hc : c < 4) : ∀ k, k ≤ 3 → ∀ q j, lp_60_15 I b (nI v) (nI c) k q j =
    if q = b + 5 ∧ 3 * c ≤ j ∧ j < 3 * c + k then v_282 (I (b + 5) j) (I (b + 7) (3 * v + (j - 3 * c))) else
    if q = b + 6 ∧ 3 * c ≤ j ∧ j < 3 * c + k then v_283 (I (b + 6) j) (I (b + 7) (3 * v + (j - 3 * c))) else I q j := by
  intro k
  induction k with
  | zero => intro _ q j; rw [if_neg (by omega), if_neg (by omega)]; rfl
  | succ k ih =>
    intro hk q j
    have ih := ih (by omega)
    simp only [lp_60_15, bx, n3, cl (show 3 * c + k < 2 ^ 31 by omega), cl (show 3 * v + k < 2 ^ 31 by omega)]
    generalize lp_60_15 I b (nI v) (nI c) k = P at ih
    have e1 : P (b + 5) (3 * c + k) = I (b + 5) (3 * c + k) := by rw [ih, if_neg (by omega), if_neg (by omega)]
    have e2 : P (b + 6) (3 * c + k) = I (b + 6) (3 * c + k) := by rw [ih, if_neg (by omega), if_neg (by omega)]
    have e3 : P (b + 7) (3 * v + k) = I (b + 7) (3 * v + k) := by rw [ih, if_neg (by omega), if_neg (by omega)]
    rw [up2_nk (c' := b + 6) (k' := 3 * c + k) (by omega), up2_nk (c' := b + 7) (by omega), e1, e2, e3]
    by_cases h6 : q = b + 6 ∧ j = 3 * c + k
    · obtain ⟨rfl, rfl⟩ := h6
      rw [if_neg (by omega), if_pos (by omega), show 3 * c + k - 3 * c = k by omega]
      simp [up2]
    · rw [up2_nk h6]
      by_cases h5 : q = b + 5 ∧ j = 3 * c + k
      · obtain ⟨rfl, rfl⟩ := h5
        rw [if_pos (by omega), show 3 * c + k - 3 * c = k by omega]
        simp [up2]
      · rw [up2_nk h5, ih]
        simp only [show (q = b + 5 ∧ 3 * c ≤ j ∧ j < 3 * c + (k + 1)) ↔ (q = b + 5 ∧ 3 * c ≤ j ∧ j < 3 * c + k) from by omega, show (q = b + 6 ∧ 3 * c ≤ j ∧ j < 3 * c + (k + 1)) ↔ (q = b + 6 ∧ 3 * c ≤ j ∧ j < 3 * c + k) from by omega]
theorem l177 {v c : Nat} (hv : v < 12) (hc : c < 4) : ∀ k, k ≤ 3 → ∀ q j, lp_177_9 J (nI v) (nI c) k q j =
    if q = 81 ∧ 3 * c ≤ j ∧ j < 3 * c + k then (if J 83 c = 0 then J 84 (3 * v + (j - 3 * c)) else if J 84 (3 * v + (j - 3 * c)) ≤ J 81 j then J 84 (3 * v + (j - 3 * c)) else J 81 j) else
    if q = 82 ∧ 3 * c ≤ j ∧ j < 3 * c + k then (if J 83 c = 0 then J 84 (3 * v + (j - 3 * c)) else if J 82 j ≤ J 84 (3 * v + (j - 3 * c)) then J 84 (3 * v + (j - 3 * c)) else J 82 j) else J q j := by
  intro k
  induction k with
  | zero => intro _ q j; rw [if_neg (by omega), if_neg (by omega)]; rfl
  | succ k ih =>
    intro hk q j
    have ih := ih (by omega)
    simp only [lp_177_9, bx, n3, cl (show 3 * c + k < 2 ^ 31 by omega), cl (show 3 * v + k < 2 ^ 31 by omega), cl (show c < 2 ^ 31 by omega)]
    generalize lp_177_9 J (nI v) (nI c) k = P at ih
    have e1 : P 81 (3 * c + k) = J 81 (3 * c + k) := by rw [ih, if_neg (by omega), if_neg (by omega)]
    have e2 : P 82 (3 * c + k) = J 82 (3 * c + k) := by rw [ih, if_neg (by omega), if_neg (by omega)]
    have e3 : P 84 (3 * v + k) = J 84 (3 * v + k) := by rw [ih, if_neg (by omega), if_neg (by omega)]
    have e4 : P 83 c = J 83 c := by rw [ih, if_neg (by omega), if_neg (by omega)]
    rw [up2_nk (c' := 82) (k' := 3 * c + k) (by omega)]
    rw [e1, e2, e3, e4]
    by_cases h6 : q = 82 ∧ j = 3 * c + k
    · obtain ⟨rfl, rfl⟩ := h6
      rw [if_neg (show ¬ (82 = 81 ∧ 3 * c ≤ 3 * c + k ∧ 3 * c + k < 3 * c + (k + 1)) by omega), if_pos (show 82 = 82 ∧ 3 * c ≤ 3 * c + k ∧ 3 * c + k < 3 * c + (k + 1) by omega), show 3 * c + k - 3 * c = k by omega]
      simp [up2]
    · rw [up2_nk h6]
      by_cases h5 : q = 81 ∧ j = 3 * c + k
      · obtain ⟨rfl, rfl⟩ := h5
        rw [if_pos (show 81 = 81 ∧ 3 * c ≤ 3 * c + k ∧ 3 * c + k < 3 * c + (k + 1) by omega), show 3 * c + k - 3 * c = k by omega]
        simp [up2]
      · rw [up2_nk h5, ih]
        simp only [show (q = 81 ∧ 3 * c ≤ j ∧ j < 3 * c + (k + 1)) ↔ (q = 81 ∧ 3 * c ≤ j ∧ j < 3 * c + k) from by omega, show (q = 82 ∧ 3 * c ≤ j ∧ j < 3 * c + (k + 1)) ↔ (q = 82 ∧ 3 * c ≤ j ∧ j < 3 * c + k) from by omega]
theorem nIm1 {c : Nat} (h : c < 2 ^ 31) : ¬ nI c = -1 := by
  intro e
  have := congrArg Int32.toInt e
  rw [nI_toInt h] at this
  have e1 : (-1 : Int32).toInt = -1 := by decide
  omega
theorem v60_pt {v c : Nat} (hv : v < 12) (hc : c < 4) (q j : Nat) : v_60 I b (nI v) (nI c) q j =
    if q = b + 9 ∧ j = v then nI c else
    if q = b + 5 ∧ 3 * c ≤ j ∧ j < 3 * c + 3 then v_282 (I (b + 5) j) (I (b + 7) (3 * v + (j - 3 * c))) else
    if q = b + 6 ∧ 3 * c ≤ j ∧ j < 3 * c + 3 then v_283 (I (b + 6) j) (I (b + 7) (3 * v + (j - 3 * c))) else I q j := by
  unfold v_60
  rw [if_pos (nIm1 (by omega))]
  simp only [bx, c3, cl (show v < 2 ^ 31 by omega)]
  rw [l60 hv hc 3 (Nat.le_refl _), up2_nk (c' := b + 5) (by omega), up2_nk (c' := b + 6) (by omega), up2_nk (c' := b + 7) (by omega)]
  by_cases h9 : q = b + 9 ∧ j = v
  · obtain ⟨rfl, rfl⟩ := h9
    rw [if_neg (by omega), if_neg (by omega), if_pos ⟨rfl, rfl⟩]
    simp [up2]
  · rw [up2_nk h9, if_neg h9]
theorem v177_pt {v c : Nat} (hv : v < 12) (hc : c < 4) (q j : Nat) : v_177 J (nI v) (nI c) q j =
    if q = 83 ∧ j = c then 1 else if q = 86 ∧ j = v then nI c else
    if q = 81 ∧ 3 * c ≤ j ∧ j < 3 * c + 3 then (if J 83 c = 0 then J 84 (3 * v + (j - 3 * c)) else if J 84 (3 * v + (j - 3 * c)) ≤ J 81 j then J 84 (3 * v + (j - 3 * c)) else J 81 j) else
    if q = 82 ∧ 3 * c ≤ j ∧ j < 3 * c + 3 then (if J 83 c = 0 then J 84 (3 * v + (j - 3 * c)) else if J 82 j ≤ J 84 (3 * v + (j - 3 * c)) then J 84 (3 * v + (j - 3 * c)) else J 82 j) else J q j := by
  unfold v_177
  simp only [bx, c3, cl (show v < 2 ^ 31 by omega), cl (show c < 2 ^ 31 by omega)]
  by_cases h3 : q = 83 ∧ j = c
  · obtain ⟨rfl, rfl⟩ := h3
    rw [if_pos ⟨rfl, rfl⟩]
    simp [up2]
    decide
  · rw [up2_nk h3, if_neg h3, l177 hv hc 3 (Nat.le_refl _), up2_nk (c' := 81) (by omega), up2_nk (c' := 82) (by omega), up2_nk (c' := 83) (by omega), up2_nk (c' := 84) (by omega)]
    by_cases h9 : q = 86 ∧ j = v
    · obtain ⟨rfl, rfl⟩ := h9
      rw [if_neg (by omega), if_neg (by omega), if_pos ⟨rfl, rfl⟩]
      simp [up2]
    · rw [up2_nk h9, if_neg h9]
theorem t1000 : (1000 : Int32).toInt = 1000 ∧ (-1000 : Int32).toInt = -1000 ∧ (0 : Int32).toInt = 0 ∧ (1 : Int32).toInt = 1 ∧ (-1 : Int32).toInt = -1 := by decide
theorem come_kB {v c : Nat} (hv : v < 12) (hc : c < nc) (h4 : nc ≤ 4) (hB : kB b nc I J) (hP : kP b I J) : kB b nc (v_60 I b (nI v) (nI c)) (v_177 J (nI v) (nI c)) := by
  intro c' hc'
  by_cases h : c' = c
  · subst h
    right
    refine ⟨by rw [v177_pt hv (by omega), if_pos ⟨rfl, rfl⟩], fun i hi => ?_⟩
    have hp := hP (3 * v + i) (by omega)
    have e5 : v_60 I b (nI v) (nI c') (b + 5) (3 * c' + i) = v_282 (I (b + 5) (3 * c' + i)) (I (b + 7) (3 * v + i)) := by
      rw [v60_pt hv (by omega), if_neg (by omega), if_pos (by omega), show 3 * c' + i - 3 * c' = i by omega]
    have e6 : v_60 I b (nI v) (nI c') (b + 6) (3 * c' + i) = v_283 (I (b + 6) (3 * c' + i)) (I (b + 7) (3 * v + i)) := by
      rw [v60_pt hv (by omega), if_neg (by omega), if_neg (by omega), if_pos (by omega), show 3 * c' + i - 3 * c' = i by omega]
    have f1 : v_177 J (nI v) (nI c') 81 (3 * c' + i) = (if J 83 c' = 0 then J 84 (3 * v + i) else if J 84 (3 * v + i) ≤ J 81 (3 * c' + i) then J 84 (3 * v + i) else J 81 (3 * c' + i)) := by
      rw [v177_pt hv (by omega), if_neg (show ¬ (81 = 83 ∧ 3 * c' + i = c') by omega), if_neg (show ¬ (81 = 86 ∧ 3 * c' + i = v) by omega), if_pos (show 81 = 81 ∧ 3 * c' ≤ 3 * c' + i ∧ 3 * c' + i < 3 * c' + 3 by omega), show 3 * c' + i - 3 * c' = i by omega]
    have f2 : v_177 J (nI v) (nI c') 82 (3 * c' + i) = (if J 83 c' = 0 then J 84 (3 * v + i) else if J 82 (3 * c' + i) ≤ J 84 (3 * v + i) then J 84 (3 * v + i) else J 82 (3 * c' + i)) := by
      rw [v177_pt hv (by omega), if_neg (show ¬ (82 = 83 ∧ 3 * c' + i = c') by omega), if_neg (show ¬ (82 = 86 ∧ 3 * c' + i = v) by omega), if_neg (show ¬ (82 = 81 ∧ 3 * c' ≤ 3 * c' + i ∧ 3 * c' + i < 3 * c' + 3) by omega), if_pos (show 82 = 82 ∧ 3 * c' ≤ 3 * c' + i ∧ 3 * c' + i < 3 * c' + 3 by omega), show 3 * c' + i - 3 * c' = i by omega]
    rw [e5, e6, f1, f2, hp.1]
    obtain ⟨hp1, hp2, hp3⟩ := hp
    have tt := t1000
    rcases hB c' hc' with ⟨h0, hb⟩ | ⟨h1, hb⟩
    · rw [if_pos h0, if_pos h0, (hb i hi).1, (hb i hi).2]
      unfold v_282 v_283
      rw [if_pos (by rw [Int32.lt_iff_toInt_lt]; omega), if_pos (by rw [Int32.lt_iff_toInt_lt]; omega)]
      exact ⟨rfl, rfl, hp2, Int.le_refl _, hp3⟩
    · have hne : ¬ J 83 c' = 0 := by rw [h1]; decide
      obtain ⟨b1, b2, b3, b4, b5⟩ := hb i hi
      rw [if_neg hne, if_neg hne, b1, b2]
      unfold v_282 v_283
      simp only [Int32.lt_iff_toInt_lt, Int32.le_iff_toInt_le]
      refine ⟨?_, ?_, ?_, ?_, ?_⟩
      · by_cases z : (J 84 (3 * v + i)).toInt < (J 81 (3 * c' + i)).toInt
        · rw [if_pos z, if_pos (by omega)]
        · rw [if_neg z]
          split
          · exact Int32.toInt_inj.mp (by omega)
          · rfl
      · by_cases z : (J 82 (3 * c' + i)).toInt < (J 84 (3 * v + i)).toInt
        · rw [if_pos z, if_pos (by omega)]
        · rw [if_neg z]
          split
          · exact Int32.toInt_inj.mp (by omega)
          · rfl
      · split <;> omega
      · split <;> split <;> omega
      · split <;> omega
  · have e1 : v_177 J (nI v) (nI c) 83 c' = J 83 c' := by
      rw [v177_pt hv (by omega), if_neg (by omega), if_neg (by omega), if_neg (by omega), if_neg (by omega)]
    rw [e1]
    rcases hB c' hc' with ⟨h0, hb⟩ | ⟨h1, hb⟩
    · left
      refine ⟨h0, fun i hi => ?_⟩
      rw [v60_pt hv (by omega), v60_pt hv (by omega), if_neg (by omega), if_neg (by omega), if_neg (by omega), if_neg (by omega), if_neg (by omega), if_neg (by omega)]
      exact hb i hi
    · right
      refine ⟨h1, fun i hi => ?_⟩
      rw [v60_pt hv (by omega), v60_pt hv (by omega), v177_pt hv (by omega), v177_pt hv (by omega), if_neg (by omega), if_neg (by omega), if_neg (by omega), if_neg (by omega), if_neg (by omega), if_neg (by omega), if_neg (by omega), if_neg (by omega), if_neg (by omega), if_neg (by omega), if_neg (by omega), if_neg (by omega), if_neg (by omega), if_neg (by omega)]
      exact hb i hi
theorem come_kN {v c : Nat} (hv : v < nv) (h12 : nv ≤ 12) (hc : c < nc) (h4 : nc ≤ 4) (hN : ∀ w, w < nv → w ≠ v → ∀ c', c' < nc → J 86 w = nI c' → J 83 c' = 1 ∧ ∀ i, i < 3 → (J 81 (3 * c' + i)).toInt ≤ (J 84 (3 * w + i)).toInt ∧ (J 84 (3 * w + i)).toInt ≤ (J 82 (3 * c' + i)).toInt) : kN nv nc (v_177 J (nI v) (nI c)) := by
  intro w hw c' hc' hwc
  have e84 : ∀ i, i < 3 → v_177 J (nI v) (nI c) 84 (3 * w + i) = J 84 (3 * w + i) := fun i hi => by
    rw [v177_pt (by omega) (by omega), if_neg (by omega), if_neg (by omega), if_neg (by omega), if_neg (by omega)]
  by_cases hwv : w = v
  · subst hwv
    rw [v177_pt (by omega) (by omega), if_neg (by omega), if_pos ⟨rfl, rfl⟩] at hwc
    obtain rfl : c = c' := (nI_eq (by omega) (by omega)).mp hwc
    refine ⟨by rw [v177_pt (by omega) (by omega), if_pos ⟨rfl, rfl⟩], fun i hi => ?_⟩
    rw [e84 i hi, v177_pt (by omega) (by omega), v177_pt (by omega) (by omega)]
    rw [if_neg (show ¬ (81 = 83 ∧ 3 * c + i = c) by omega), if_neg (show ¬ (81 = 86 ∧ 3 * c + i = w) by omega), if_pos (show 81 = 81 ∧ 3 * c ≤ 3 * c + i ∧ 3 * c + i < 3 * c + 3 by omega)]
    rw [if_neg (show ¬ (82 = 83 ∧ 3 * c + i = c) by omega), if_neg (show ¬ (82 = 86 ∧ 3 * c + i = w) by omega), if_neg (show ¬ (82 = 81 ∧ 3 * c ≤ 3 * c + i ∧ 3 * c + i < 3 * c + 3) by omega), if_pos (show 82 = 82 ∧ 3 * c ≤ 3 * c + i ∧ 3 * c + i < 3 * c + 3 by omega)]
    rw [show 3 * c + i - 3 * c = i by omega]
    simp only [Int32.le_iff_toInt_le]
    constructor <;> split <;> first | omega | (split <;> omega)
  · rw [v177_pt (by omega) (by omega), if_neg (by omega), if_neg (by omega), if_neg (by omega), if_neg (by omega)] at hwc
    obtain ⟨h1, hb⟩ := hN w hw hwv c' hc' hwc
    refine ⟨?_, fun i hi => ?_⟩
    · rw [v177_pt (by omega) (by omega)]
      by_cases z : c' = c
      · rw [if_pos ⟨rfl, z⟩]
      · rw [if_neg (by omega), if_neg (by omega), if_neg (by omega), if_neg (by omega)]
        exact h1
    · obtain ⟨b1, b2⟩ := hb i hi
      rw [e84 i hi]
      by_cases z : c' = c
      · subst z
        have hne : ¬ J 83 c' = 0 := by rw [h1]; decide
        rw [v177_pt (by omega) (by omega), v177_pt (by omega) (by omega)]
        rw [if_neg (show ¬ (81 = 83 ∧ 3 * c' + i = c') by omega), if_neg (show ¬ (81 = 86 ∧ 3 * c' + i = v) by omega), if_pos (show 81 = 81 ∧ 3 * c' ≤ 3 * c' + i ∧ 3 * c' + i < 3 * c' + 3 by omega)]
        rw [if_neg (show ¬ (82 = 83 ∧ 3 * c' + i = c') by omega), if_neg (show ¬ (82 = 86 ∧ 3 * c' + i = v) by omega), if_neg (show ¬ (82 = 81 ∧ 3 * c' ≤ 3 * c' + i ∧ 3 * c' + i < 3 * c' + 3) by omega), if_pos (show 82 = 82 ∧ 3 * c' ≤ 3 * c' + i ∧ 3 * c' + i < 3 * c' + 3 by omega)]
        rw [if_neg hne, if_neg hne]
        simp only [Int32.le_iff_toInt_le]
        constructor <;> split <;> omega
      · rw [v177_pt (by omega) (by omega), v177_pt (by omega) (by omega), if_neg (by omega), if_neg (by omega), if_neg (by omega), if_neg (by omega), if_neg (by omega), if_neg (by omega), if_neg (by omega), if_neg (by omega)]
        exact ⟨b1, b2⟩
theorem g_come {v c : Nat} (hv : v < 12) (hc : c < 4) : g_60 I b (nI v) (nI c) ∧ g_177 J (nI v) (nI c) := by
  have h12 : vp_in (nI v) 12 := vin hv (by omega)
  have h4 : vp_in (nI c) 4 := vin hc (by omega)
  constructor
  · refine ⟨h12, fun _ => ?_⟩
    intro k hk
    rw [c3] at hk
    have h36 : vp_in (3 * nI v + nI k) 36 := by rw [n3]; exact vin (by omega) (by omega)
    have h12 : vp_in (3 * nI c + nI k) 12 := by rw [n3]; exact vin (by omega) (by omega)
    exact ⟨h12, h36, h12, h12, h36, h12⟩
  · refine ⟨h12, ?_, h4⟩
    intro k hk
    rw [c3] at hk
    have h36 : vp_in (3 * nI v + nI k) 36 := by rw [n3]; exact vin (by omega) (by omega)
    have h12 : vp_in (3 * nI c + nI k) 12 := by rw [n3]; exact vin (by omega) (by omega)
    exact ⟨h36, h4, fun _ => ⟨h12, fun _ => h12⟩, h12, h4, fun _ => ⟨h12, fun _ => h12⟩, h12⟩
end
