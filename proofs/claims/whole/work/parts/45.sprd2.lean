section
variable {b nv nc tc : Nat} {I J : WI}
/-! counting bits -/
theorem pc_le {t m : Nat} : ∀ k, (∀ j, j < k → t.testBit j = true → m.testBit j = true) → pc t k ≤ pc m k := by
  intro k
  induction k with
  | zero => intro _; exact Nat.le_refl _
  | succ k ih =>
    intro h
    have h1 := ih (fun j hj => h j (by omega))
    have h2 := h k (by omega)
    show pc t k + (if t.testBit k then 1 else 0) ≤ pc m k + (if m.testBit k then 1 else 0)
    by_cases z : t.testBit k = true
    · rw [if_pos z, if_pos (h2 z)]; omega
    · rw [if_neg z]; omega
theorem pc_lt {t m : Nat} : ∀ k, (∀ j, j < k → t.testBit j = true → m.testBit j = true) → (∃ j, j < k ∧ m.testBit j = true ∧ t.testBit j = false) → pc t k < pc m k := by
  intro k
  induction k with
  | zero => intro _ ⟨j, hj, _⟩; omega
  | succ k ih =>
    intro h ⟨j, hj, h3, h4⟩
    have h1 := pc_le k (fun j hj => h j (by omega))
    have h2 := h k (by omega)
    show pc t k + (if t.testBit k then 1 else 0) < pc m k + (if m.testBit k then 1 else 0)
    by_cases y : j = k
    · subst y
      rw [if_neg (by rw [h4]; decide), if_pos h3]; omega
    · have h5 := ih (fun j hj => h j (by omega)) ⟨j, by omega, h3, h4⟩
      by_cases z : t.testBit k = true
      · rw [if_pos z, if_pos (h2 z)]; omega
      · rw [if_neg z]; omega
theorem pc_same {t m : Nat} : ∀ k, (∀ j, j < k → t.testBit j = m.testBit j) → pc t k = pc m k := by
  intro k
  induction k with
  | zero => intro _; rfl
  | succ k ih =>
    intro h
    show pc t k + (if t.testBit k then 1 else 0) = pc m k + (if m.testBit k then 1 else 0)
    rw [ih (fun j hj => h j (by omega)), h k (by omega)]
theorem pc_or {t f : Nat} (hf : t.testBit f = false) : ∀ k, pc (t ||| 2 ^ f) k = pc t k + if f < k then 1 else 0 := by
  intro k
  induction k with
  | zero => rfl
  | succ k ih =>
    show pc (t ||| 2 ^ f) k + (if (t ||| 2 ^ f).testBit k then 1 else 0) = pc t k + (if t.testBit k then 1 else 0) + if f < k + 1 then 1 else 0
    rw [ih, Nat.testBit_or, Nat.testBit_two_pow]
    by_cases y : f = k
    · subst y
      rw [hf, if_neg (show ¬ f < f by omega), if_pos (show f < f + 1 by omega)]
      simp
    · by_cases z : f < k
      · rw [if_pos z, if_pos (show f < k + 1 by omega)]
        simp [y]; omega
      · rw [if_neg z, if_neg (show ¬ f < k + 1 by omega)]
        simp [y]
/-! how far from the nearest of a set -/
theorem amid_lp (hA : kA b I J) (hP : kP b I J) (h12 : nv ≤ 12) {p t : Nat} (hp : p < 12) (ht : t < 4096) : ∀ k, k ≤ nv →
    (lp_249_5 J (nI p) (nI t) (-1) k = -1 ∧ lp_7_7 I b (nI p) (nI t) 999999999 k = 999999999 ∧ ∀ j, j < k → t.testBit j = false) ∨
    (lp_249_5 J (nI p) (nI t) (-1) k = lp_7_7 I b (nI p) (nI t) 999999999 k ∧ bt 0 107784108 (lp_249_5 J (nI p) (nI t) (-1) k) ∧ ∃ j, j < k ∧ t.testBit j = true) := by
  intro k
  induction k with
  | zero => intro _; exact Or.inl ⟨rfl, rfl, fun j hj => by omega⟩
  | succ k ih =>
    intro hk
    have ih := ih (by omega)
    have hd := betw_bt hA hP hp (show k < 12 by omega)
    have hne : ¬ v_183 J (nI p) (nI k) = -1 := fun e => by
      have := hd.1
      rw [e] at this
      exact absurd this (by decide)
    rw [lp_249_5, lp_7_7, betw_eq hA hP hp (show k < 12 by omega)]
    revert ih
    generalize lp_249_5 J (nI p) (nI t) (-1) k = R
    generalize lp_7_7 I b (nI p) (nI t) 999999999 k = C
    intro ih
    simp only [bx]
    by_cases z : t.testBit k = true
    · have y1 := (shb_1 ht (show k < 12 by omega)).mpr z
      have y2 : ¬ v_111 (nI t) (nI k) = 0 := fun q => by
        rw [(v111_0 ht (show k < 12 by omega)).mp q] at z
        exact absurd z (by decide)
      simp only [if_neg (show ¬ ¬ ((nI t >>> (nI k &&& 31)) &&& 1 = 1) from fun q => q y1), if_neg y2, if_neg hne]
      rcases ih with ⟨i1, i2, i3⟩ | ⟨i1, i2, i3⟩
      · right
        have e : v_282 C (v_183 J (nI p) (nI k)) = v_183 J (nI p) (nI k) := by
          rw [v282_eq, i2, if_neg]
          intro q
          rw [Int32.le_iff_toInt_le] at q
          have h1 := hd.2
          have h2 : (999999999 : Int32).toInt = 999999999 := by decide
          omega
        simp only [if_pos i1, e]
        exact ⟨trivial, hd, k, by omega, z⟩
      · right
        have n2 : ¬ R = -1 := fun e => by
          have := i2.1
          rw [e] at this
          exact absurd this (by decide)
        simp only [if_neg n2, v282_eq, ← i1]
        refine ⟨trivial, ?_, k, by omega, z⟩
        split
        · exact i2
        · exact hd
    · have z0 : t.testBit k = false := by simpa using z
      have y1 : ¬ (nI t >>> (nI k &&& 31)) &&& 1 = 1 := fun q => z ((shb_1 ht (show k < 12 by omega)).mp q)
      have y2 := (v111_0 ht (show k < 12 by omega)).mpr z0
      simp only [if_pos y1, if_pos y2, if_true]
      rcases ih with ⟨i1, i2, i3⟩ | ⟨i1, i2, j, i3, i4⟩
      · left
        refine ⟨i1, i2, fun j hj => ?_⟩
        by_cases y : j = k
        · subst y; exact z0
        · exact i3 j (by omega)
      · right
        exact ⟨i1, i2, j, by omega, i4⟩
theorem amid (hA : kA b I J) (hP : kP b I J) (h12 : nv ≤ 12) (h8 : I b 8 = nI nv) (h18 : J 74 18 = nI nv) {p t : Nat} (hp : p < 12) (ht : t < 2 ^ nv) :
    (t = 0 ∧ v_249 J (nI p) (nI t) = -1 ∧ v_7 I b (nI p) (nI t) = 999999999) ∨ (t ≠ 0 ∧ v_249 J (nI p) (nI t) = v_7 I b (nI p) (nI t) ∧ bt 0 107784108 (v_249 J (nI p) (nI t))) := by
  have e1 : v_249 J (nI p) (nI t) = lp_249_5 J (nI p) (nI t) (-1) nv := by
    unfold v_249
    rw [h18, cl (show nv < 2 ^ 31 by omega)]
    rfl
  have e2 : v_7 I b (nI p) (nI t) = lp_7_7 I b (nI p) (nI t) 999999999 nv := by
    unfold v_7
    rw [h8, cl (show nv < 2 ^ 31 by omega)]
    rfl
  rw [e1, e2]
  rcases amid_lp hA hP h12 hp (p12 ht h12) nv (Nat.le_refl _) with ⟨i1, i2, i3⟩ | ⟨i1, i2, j, i3, i4⟩
  · left
    refine ⟨Nat.eq_of_testBit_eq fun j => ?_, i1, i2⟩
    rw [Nat.zero_testBit]
    by_cases hj : j < nv
    · exact i3 j hj
    · exact Nat.testBit_lt_two_pow (Nat.lt_of_lt_of_le ht (Nat.pow_le_pow_right (by omega) (by omega)))
  · right
    refine ⟨fun e => ?_, i1, i2⟩
    rw [e, Nat.zero_testBit] at i4
    exact absurd i4 (by decide)
/-- who is farthest from a set -/
theorem faro (hA : kA b I J) (hP : kP b I J) (hV : kV b nv nc I J) (h4 : nc ≤ 4) {t : Nat} (ht : t < 2 ^ nv) : ∀ k, k ≤ nv →
    ((lp_248_36 J (nI t) (-1) 0 k).1 = -1 ∧ (lp_6_8 I b (nI t) 0 (-1) k).2 = -1 ∧ ∀ j, j < k → v_180 J (nI j) = 0 ∨ t.testBit j = true) ∨
    (∃ f, f < k ∧ (lp_248_36 J (nI t) (-1) 0 k).1 = nI f ∧ (lp_6_8 I b (nI t) 0 (-1) k).1 = nI f ∧ ¬ v_180 J (nI f) = 0 ∧ t.testBit f = false ∧
      ((t = 0 ∧ (lp_6_8 I b (nI t) 0 (-1) k).2 = 999999999 ∧ (lp_248_36 J (nI t) (-1) 0 k).2 = -1) ∨ (t ≠ 0 ∧ (lp_6_8 I b (nI t) 0 (-1) k).2 = (lp_248_36 J (nI t) (-1) 0 k).2))) := by
  have h12 := hV.1
  intro k
  induction k with
  | zero => intro _; exact Or.inl ⟨rfl, rfl, fun j hj => by omega⟩
  | succ k ih =>
    intro hk
    have ih := ih (by omega)
    rw [lp_248_36, lp_6_8, (there_eq hV h4 (v := k) (by omega)).1]
    revert ih
    generalize lp_248_36 J (nI t) (-1) 0 k = R
    generalize lp_6_8 I b (nI t) 0 (-1) k = C
    intro ih
    simp only [bx]
    have keep : (v_180 J (nI k) = 0 ∨ t.testBit k = true) → (R.1 = -1 ∧ C.2 = -1 ∧ ∀ j, j < k + 1 → v_180 J (nI j) = 0 ∨ t.testBit j = true) ∨
        (∃ f, f < k + 1 ∧ R.1 = nI f ∧ C.1 = nI f ∧ ¬ v_180 J (nI f) = 0 ∧ t.testBit f = false ∧ ((t = 0 ∧ C.2 = 999999999 ∧ R.2 = -1) ∨ (t ≠ 0 ∧ C.2 = R.2))) := by
      intro hh
      rcases ih with ⟨i1, i2, i3⟩ | ⟨f, hf, i⟩
      · left
        refine ⟨i1, i2, fun j hj => ?_⟩
        by_cases y : j = k
        · subst y; exact hh
        · exact i3 j (by omega)
      · exact Or.inr ⟨f, by omega, i⟩
    by_cases y : v_180 J (nI k) = 0
    · simp only [if_pos y]; exact keep (Or.inl y)
    · simp only [if_neg y]
      by_cases z : t.testBit k = true
      · have y1 : ¬ (nI t >>> (nI k &&& 31)) &&& 1 = 0 := fun q => by
          rw [(shb_0 (p12 ht h12) (show k < 12 by omega)).mp q] at z
          exact absurd z (by decide)
        have y2 : ¬ v_111 (nI t) (nI k) = 0 := fun q => by
          rw [(v111_0 (p12 ht h12) (show k < 12 by omega)).mp q] at z
          exact absurd z (by decide)
        simp only [if_pos y1, if_pos y2]
        exact keep (Or.inr z)
      · have z0 : t.testBit k = false := by simpa using z
        have y1 := (shb_0 (p12 ht h12) (show k < 12 by omega)).mpr z0
        have y2 := (v111_0 (p12 ht h12) (show k < 12 by omega)).mpr z0
        simp only [if_neg (show ¬ ¬ ((nI t >>> (nI k &&& 31)) &&& 1 = 0) from fun q => q y1), if_neg (show ¬ ¬ (v_111 (nI t) (nI k) = 0) from fun q => q y2)]
        rcases amid hA hP h12 hV.2.1 hV.2.2.1 (show k < 12 by omega) ht with ⟨a1, a2, a3⟩ | ⟨a1, a2, a3⟩
        · right
          rcases ih with ⟨i1, i2, i3⟩ | ⟨f, hf, i1, i2, i3, i4, ⟨i5, i6, i7⟩ | ⟨i5, i6⟩⟩
          · simp only [if_pos i1, if_neg (show ¬ v_7 I b (nI k) (nI t) ≤ C.2 by rw [a3, i2]; decide)]
            exact ⟨k, by omega, rfl, rfl, y, z0, Or.inl ⟨a1, a3, a2⟩⟩
          · simp only [if_neg (show ¬ R.1 = -1 by rw [i1]; exact nIm1 (by omega)), if_pos (show v_7 I b (nI k) (nI t) ≤ C.2 by rw [a3, i6]; decide), if_pos (show v_249 J (nI k) (nI t) ≤ R.2 by rw [a2, i7]; decide)]
            exact ⟨f, by omega, i1, i2, i3, i4, Or.inl ⟨i5, i6, i7⟩⟩
          · exact absurd a1 i5
        · right
          have fresh : ∃ f, f < k + 1 ∧ (nI k, v_249 J (nI k) (nI t)).1 = nI f ∧ (nI k, v_7 I b (nI k) (nI t)).1 = nI f ∧ ¬ v_180 J (nI f) = 0 ∧ t.testBit f = false ∧ ((t = 0 ∧ (nI k, v_7 I b (nI k) (nI t)).2 = 999999999 ∧ (nI k, v_249 J (nI k) (nI t)).2 = -1) ∨ (t ≠ 0 ∧ (nI k, v_7 I b (nI k) (nI t)).2 = (nI k, v_249 J (nI k) (nI t)).2)) :=
            ⟨k, by omega, rfl, rfl, y, z0, Or.inr ⟨a1, a2.symm⟩⟩
          rcases ih with ⟨i1, i2, i3⟩ | ⟨f, hf, i1, i2, i3, i4, ⟨i5, i6, i7⟩ | ⟨i5, i6⟩⟩
          · have q : ¬ v_7 I b (nI k) (nI t) ≤ C.2 := by
              rw [← a2, i2, Int32.le_iff_toInt_le]
              have := a3.1
              have e : (-1 : Int32).toInt = -1 := by decide
              omega
            simp only [if_pos i1, if_neg q]
            exact fresh
          · exact absurd i5 a1
          · have n1 : ¬ R.1 = -1 := by rw [i1]; exact nIm1 (by omega)
            simp only [if_neg n1]
            by_cases q : v_249 J (nI k) (nI t) ≤ R.2
            · simp only [if_pos q, if_pos (show v_7 I b (nI k) (nI t) ≤ C.2 by rw [← a2, i6]; exact q)]
              exact ⟨f, by omega, i1, i2, i3, i4, Or.inr ⟨i5, i6⟩⟩
            · simp only [if_neg q, if_neg (show ¬ v_7 I b (nI k) (nI t) ≤ C.2 by rw [← a2, i6]; exact q)]
              exact fresh
theorem g_v6 (h12 : nv ≤ 12) (h8 : I b 8 = nI nv) (x : Int32) : g_6 I b x := by
  unfold g_6 gl_6_8
  rw [h8, cl (show nv < 2 ^ 31 by omega)]
  intro k hk _ _
  unfold g_7 gl_7_7
  rw [h8, cl (show nv < 2 ^ 31 by omega)]
  intro i hi _
  exact (g_betw (J := I) (by omega) (by omega)).1
theorem gn36 (h12 : nv ≤ 12) (h18 : J 74 18 = nI nv) (x y z : Int32) : gl_248_36 J x y z nv := by
  unfold gl_248_36
  intro k hk
  refine ⟨g180 (by omega), fun _ _ => ?_⟩
  unfold g_249 gl_249_5
  rw [h18, cl (show nv < 2 ^ 31 by omega)]
  intro i hi _
  exact (g_betw (I := J) (b := 0) (by omega) (by omega)).2
theorem lp5_front (a3 a4 : Int32) : ∀ k, lp_5_26 I b a3 a4 (k + 1) = lp_5_26 I b (v_6 I b (a4 ||| (1 <<< (a3 &&& 31)))) (a4 ||| (1 <<< (a3 &&& 31))) k := by
  intro k
  induction k with
  | zero => rfl
  | succ k ih =>
    rw [lp_5_26, ih]
    rfl
theorem spread_go (hA : kA b I J) (hP : kP b I J) (hV : kV b nv nc I J) (h4 : nc ≤ 4) {m i : Nat} (hm : ∀ v, v < nv → (m.testBit v = true ↔ ¬ v_180 J (nI v) = 0)) (hi : i < 12) : ∀ d n t f (last : Int32), n + d = i → d + 2 ≤ f → t < 2 ^ nv → (∀ j, j < nv → t.testBit j = true → m.testBit j = true) → pc t nv = n →
    (i < pc m nv → lp_248_22 J (nI i) f (nI t) last (nI n) = (lp_5_26 I b (v_6 I b (nI t)) (nI t) d).1) ∧ (pc m nv ≤ i → lp_248_22 J (nI i) f (nI t) last (nI n) = -1) ∧ gl_248_22 J (nI i) f (nI t) last (nI n) := by
  have h12 := hV.1
  intro d
  induction d with
  | zero =>
    intro n t f last hn hf ht hs hp
    obtain ⟨f, rfl⟩ : ∃ g, f = g + 2 := ⟨f - 2, by omega⟩
    have hn : n = i := by omega
    subst hn
    have c1 : ¬ nI n < nI n := by rw [nI_ltI (by omega) (by omega)]; omega
    have c2 : nI n < nI (n + 1) := nI_lt (by omega) (by omega)
    rw [lp_248_22, gl_248_22, if_neg c1, hV.2.2.1, cl (show nv < 2 ^ 31 by omega)]
    simp only [bx]
    rcases faro hA hP hV h4 ht nv (Nat.le_refl _) with ⟨i1, i2, i3⟩ | ⟨g, hg, i1, i2, i3, i4, -⟩
    · have hpe : pc t nv = pc m nv := by
        refine pc_same nv (fun j hj => ?_)
        by_cases q : m.testBit j = true
        · rw [q]
          rcases i3 j hj with r | r
          · exact absurd r ((hm j hj).mp q)
          · exact r
        · by_cases r : t.testBit j = true
          · exact absurd (hs j hj r) q
          · simp only [Bool.not_eq_true] at q r
            rw [q, r]
      refine ⟨fun h => by omega, fun _ => by simp only [if_neg (show ¬ ¬ (lp_248_36 J (nI t) (-1) 0 nv).1 = -1 from fun q => q i1)], fun _ => ⟨gn36 h12 hV.2.2.1 _ _ _, fun q => absurd i1 q⟩⟩
    · have n1 : ¬ (lp_248_36 J (nI t) (-1) 0 nv).1 = -1 := by rw [i1]; exact nIm1 (by omega)
      have hlt : pc t nv < pc m nv := pc_lt nv hs ⟨g, hg, (hm g hg).mpr i3, i4⟩
      refine ⟨fun _ => ?_, fun h => by omega, fun _ => ⟨gn36 h12 hV.2.2.1 _ _ _, fun _ => ?_⟩⟩
      · simp only [if_pos n1]
        rw [lp_248_22, nI_1, if_pos c2, i1, lp_5_26]
        have e6 : v_6 I b (nI t) = nI g := by
          unfold v_6
          rw [hV.2.1, cl (show nv < 2 ^ 31 by omega)]
          exact i2
        exact e6.symm
      · rw [gl_248_22, nI_1]
        exact fun q => absurd c2 q
  | succ d ih =>
    intro n t f last hn hf ht hs hp
    obtain ⟨f, rfl⟩ : ∃ g, f = g + 1 := ⟨f - 1, by omega⟩
    have c1 : ¬ nI i < nI n := by rw [nI_ltI (by omega) (by omega)]; omega
    rw [lp_248_22, gl_248_22, if_neg c1, hV.2.2.1, cl (show nv < 2 ^ 31 by omega)]
    simp only [bx]
    rcases faro hA hP hV h4 ht nv (Nat.le_refl _) with ⟨i1, i2, i3⟩ | ⟨g, hg, i1, i2, i3, i4, -⟩
    · have hpe : pc t nv = pc m nv := by
        refine pc_same nv (fun j hj => ?_)
        by_cases q : m.testBit j = true
        · rw [q]
          rcases i3 j hj with r | r
          · exact absurd r ((hm j hj).mp q)
          · exact r
        · by_cases r : t.testBit j = true
          · exact absurd (hs j hj r) q
          · simp only [Bool.not_eq_true] at q r
            rw [q, r]
      refine ⟨fun h => by omega, fun _ => by simp only [if_neg (show ¬ ¬ (lp_248_36 J (nI t) (-1) 0 nv).1 = -1 from fun q => q i1)], fun _ => ⟨gn36 h12 hV.2.2.1 _ _ _, fun q => absurd i1 q⟩⟩
    · have n1 : ¬ (lp_248_36 J (nI t) (-1) 0 nv).1 = -1 := by rw [i1]; exact nIm1 (by omega)
      have e6 : v_6 I b (nI t) = nI g := by
        unfold v_6
        rw [hV.2.1, cl (show nv < 2 ^ 31 by omega)]
        exact i2
      have eo : nI t ||| ((1 : Int32) <<< (nI g &&& 31)) = nI (t ||| 2 ^ g) := bit_or (p12 ht h12) (by omega)
      have ih := ih (n + 1) (t ||| 2 ^ g) f (nI g) (by omega) (by omega) (Nat.or_lt_two_pow ht (Nat.pow_lt_pow_right (by omega) hg)) (fun j hj h => by
        rw [Nat.testBit_or, Nat.testBit_two_pow] at h
        by_cases y : g = j
        · subst y; exact (hm g hj).mpr i3
        · simp [y] at h
          exact hs j hj h) (by rw [pc_or i4, if_pos hg, hp])
      simp only [if_pos n1]
      rw [i1, eo, nI_1, lp5_front, e6, eo]
      exact ⟨ih.1, ih.2.1, fun _ => ⟨gn36 h12 hV.2.2.1 _ _ _, fun _ => ih.2.2⟩⟩
theorem op_spread (h : kR 1 nv nc tc I J) (x : Int32) : g_136 I x ∧ g_248 J x ∧ v_136 I x = v_248 J x := by
  obtain ⟨hA, hQ, hC, hB, hP, hV, hN, -⟩ := h
  have h12 := hV.1
  have h4 := hC.1
  unfold v_136 v_248 g_136 g_248
  rw [show (0 : Int64) = Int32.toInt64 0 by decide, show (11 : Int64) = Int32.toInt64 11 by decide, v170_107]
  rcases v107_cases x 0 11 with ⟨e, hx1, hx2⟩ | ⟨e, -⟩
  · have t : (0 : Int32).toInt = 0 ∧ (11 : Int32).toInt = 11 := by decide
    obtain ⟨i, hi, rfl⟩ : ∃ i, i < 12 ∧ x = nI i := ⟨x.toInt.toNat, by omega, ti_eq (by omega)⟩
    have hV2 := hV
    obtain ⟨-, -, -, -, -, -, m, hm1, hm2, hm3⟩ := hV2
    have hm : ∀ v, v < nv → (m.testBit v = true ↔ ¬ v_180 J (nI v) = 0) := fun v hv => by
      have tt := there_eq hV h4 hv
      rw [hm3 v hv]
      rcases tt.2 with ⟨t1, t2, -⟩ | ⟨t1, t2⟩
      · rw [← tt.1, t1, t2]; decide
      · rw [← tt.1, t1, t2]; decide
    have key := spread_go hA hP hV h4 hm hi i 0 0 400 (-1) (by omega) (by omega) (Nat.two_pow_pos nv) (fun j _ h => by rw [Nat.zero_testBit] at h; exact absurd h (by decide)) (by
      have : ∀ k, pc 0 k = 0 := fun k => by
        induction k with
        | zero => rfl
        | succ k ih => show pc 0 k + (if Nat.testBit 0 k then 1 else 0) = 0; rw [ih, Nat.zero_testBit]; rfl
      exact this nv)
    have e286 : v_286 (I 1 12) = nI (pc m nv) := by rw [hm2, pop hm1 h12]
    have hpm : pc m nv ≤ nv := by
      have : ∀ k, pc m k ≤ k := fun k => by
        induction k with
        | zero => exact Nat.le_refl _
        | succ k ih => show pc m k + (if m.testBit k then 1 else 0) ≤ k + 1; split <;> omega
      exact this nv
    rw [e, if_neg d10, if_pos d10]
    unfold v_5 g_5
    rw [e286, cl (show i < 2 ^ 31 by omega)]
    have hlt : nI i < nI (pc m nv) ↔ i < pc m nv := nI_ltI (by omega) (by omega)
    refine ⟨fun _ _ => ⟨g_v6 h12 hV.2.1 _, fun k _ => g_v6 h12 hV.2.1 _⟩, fun _ => key.2.2, ?_⟩
    by_cases q : i < pc m nv
    · rw [if_pos (hlt.mpr q)]; exact (key.1 q).symm
    · rw [if_neg (fun z => q (hlt.mp z))]; exact (key.2.1 (by omega)).symm
  · rw [e, if_pos rfl, if_neg d00]
    exact ⟨fun g => absurd rfl g, fun g => absurd rfl g, rfl⟩
end
