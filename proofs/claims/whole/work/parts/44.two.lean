section
variable {b nv nc tc : Nat} {I J : WI}
theorem n12 {v w : Nat} (hv : v < 12) (hw : w < 12) : nI (v * 12 + w) / 12 = nI v ∧ nI (v * 12 + w) - nI (v * 12 + w) / 12 * 12 = nI w := by
  have key : ∀ v, v < 12 → ∀ w, w < 12 → nI (v * 12 + w) / 12 = nI v ∧ nI (v * 12 + w) - nI (v * 12 + w) / 12 * 12 = nI w := by decide +kernel
  exact key v hv w hw
theorem n12e (v w : Nat) : nI v * 12 + nI w = nI (v * 12 + w) := by rw [show (12 : Int32) = nI 12 from rfl, pk_mul, nI_add]
theorem cnt {nv k : Nat} (h : nv ≤ 12) (hk : k < nv) : ((nI nv).toInt - (nI k + 1).toInt).toNat = nv - (k + 1) := by
  rw [nI_1, nI_toInt (by omega), nI_toInt (by omega)]
  omega
/-- the best two so far: the class's code and price against the reference's two -/
def bst (nv : Nat) (pr : Nat → Nat → Int32) (c : Int32 × Int32) (a q : Int32) : Prop := (c.1 = -1 ∧ a = -1 ∧ q = -1) ∨ ∃ v w, v < w ∧ w < nv ∧ c.1 = nI (v * 12 + w) ∧ a = nI v ∧ q = nI w ∧ c.2 = pr v w
theorem v4_0 (hA : kA b I J) (hP : kP b I J) {v w : Nat} (hv : v < 12) (hw : w < 12) : v_4 I b (nI v) (nI w) 0 = v_183 J (nI v) (nI w) := by
  unfold v_4
  rw [if_neg d00, betw_eq hA hP hv hw]
theorem pair_in (hA : kA b I J) (hP : kP b I J) (hV : kV b nv nc I J) (h4 : nc ≤ 4) {v : Nat} (hv : v < nv) (c : Int32 × Int32) (r : Int32 × Int32) (hs : bst nv (fun v w => v_183 J (nI v) (nI w)) c r.1 r.2) :
    ∀ k, k ≤ nv - (v + 1) → bst nv (fun v w => v_183 J (nI v) (nI w)) (lp_3_23s I b 0 (nI v) (nI v + 1) c.1 c.2 k) (lp_247_37s J (nI v) (nI v + 1) r.1 r.2 k).1 (lp_247_37s J (nI v) (nI v + 1) r.1 r.2 k).2 := by
  have h12 := hV.1
  intro k
  induction k with
  | zero => intro _; exact hs
  | succ k ih =>
    intro hk
    have ih := ih (by omega)
    rw [lp_3_23s, lp_247_37s]
    revert ih
    generalize lp_3_23s I b 0 (nI v) (nI v + 1) c.1 c.2 k = C
    generalize lp_247_37s J (nI v) (nI v + 1) r.1 r.2 k = R
    intro ih
    rw [nI_1, nI_add, (there_eq hV h4 (v := v) (by omega)).1, (there_eq hV h4 (v := v + 1 + k) (by omega)).1, v4_0 hA hP (v := v) (w := v + 1 + k) (by omega) (by omega), n12e]
    simp only [bx]
    by_cases y : v_180 J (nI v) = 0
    · simp only [if_pos y]; exact ih
    · simp only [if_neg y]
      by_cases z : v_180 J (nI (v + 1 + k)) = 0
      · simp only [if_pos z]; exact ih
      · simp only [if_neg z]
        have new : bst nv (fun v w => v_183 J (nI v) (nI w)) (nI (v * 12 + (v + 1 + k)), v_183 J (nI v) (nI (v + 1 + k))) (nI v) (nI (v + 1 + k)) := Or.inr ⟨v, v + 1 + k, by omega, by omega, rfl, rfl, rfl, rfl⟩
        rcases ih with ⟨i1, i2, i3⟩ | ⟨v', w', j1, j2, j3, j4, j5, j6⟩
        · simp only [if_pos i1, if_pos i2]; exact new
        · have n1 : ¬ C.1 = -1 := by rw [j3]; exact nIm1 (by omega)
          have n2 : ¬ R.1 = -1 := by rw [j4]; exact nIm1 (by omega)
          simp only [if_neg n1, if_neg n2]
          by_cases x : v_183 J (nI v') (nI w') ≤ v_183 J (nI v) (nI (v + 1 + k))
          · simp only [if_pos (show C.2 ≤ v_183 J (nI v) (nI (v + 1 + k)) by rw [j6]; exact x), if_pos (show v_183 J R.1 R.2 ≤ v_183 J (nI v) (nI (v + 1 + k)) by rw [j4, j5]; exact x)]
            exact Or.inr ⟨v', w', j1, j2, j3, j4, j5, j6⟩
          · simp only [if_neg (show ¬ C.2 ≤ v_183 J (nI v) (nI (v + 1 + k)) by rw [j6]; exact x), if_neg (show ¬ v_183 J R.1 R.2 ≤ v_183 J (nI v) (nI (v + 1 + k)) by rw [j4, j5]; exact x)]
            exact new
theorem pair_out (hA : kA b I J) (hP : kP b I J) (hV : kV b nv nc I J) (h4 : nc ≤ 4) : ∀ k, k ≤ nv → bst nv (fun v w => v_183 J (nI v) (nI w)) (lp_3_8 I b 0 (-1) 0 k) (lp_247_22 J (-1) (-1) k).1 (lp_247_22 J (-1) (-1) k).2 := by
  have h12 := hV.1
  intro k
  induction k with
  | zero => intro _; exact Or.inl ⟨rfl, rfl, rfl⟩
  | succ k ih =>
    intro hk
    have ih := pair_in hA hP hV h4 (v := k) (by omega) _ _ (ih (by omega)) (nv - (k + 1)) (Nat.le_refl _)
    rw [lp_3_8, lp_247_22, hV.2.1, hV.2.2.1, cnt h12 (by omega)]
    exact ih
theorem g_v4 (s : Int32) (h8 : I b 8 = nI nv) (h12 : nv ≤ 12) {v w : Nat} (hv : v < 12) (hw : w < 12) : g_4 I b (nI v) (nI w) s := by
  unfold g_4 gl_4_18
  rw [h8, cl (show nv < 2 ^ 31 by omega)]
  refine ⟨fun _ k hk _ => ⟨(g_betw (J := I) (by omega) hv).1, (g_betw (J := I) (by omega) hw).1⟩, fun _ => (g_betw (J := I) hv hw).1⟩
theorem g_v3 (s : Int32) (h8 : I b 8 = nI nv) (h12 : nv ≤ 12) : g_3 I b s := by
  unfold g_3 gl_3_8
  rw [h8, cl (show nv < 2 ^ 31 by omega)]
  intro k hk
  unfold gl_3_23s
  rw [cnt h12 (by omega)]
  intro i hi _ _
  rw [nI_1, nI_add]
  exact g_v4 s h8 h12 (by omega) (by omega)
theorem two_end {s : Int32} {x : Int32} {pr : Nat → Nat → Int32} (h8 : I 1 8 = nI nv) (h12 : nv ≤ 12) {a q : Int32} (hs : bst nv pr (lp_3_8 I 1 s (-1) 0 nv) a q) (hp : ∀ v w, v < nv → w < nv → v_4 I 1 (nI v) (nI w) s = pr v w) :
    g_134 I x s ∧ ((a = -1 ∧ q = -1 ∧ v_134 I x s = -1) ∨ ∃ v w, v < w ∧ w < nv ∧ a = nI v ∧ q = nI w ∧ v_134 I x s = if ¬ x = 2 then (if ¬ x = 0 then nI w else nI v) else pr v w) := by
  have e3 : v_3 I 1 s = (lp_3_8 I 1 s (-1) 0 nv).1 := by
    unfold v_3
    rw [h8, cl (show nv < 2 ^ 31 by omega)]
    rfl
  have g3 : g_3 I 1 s := g_v3 s h8 h12
  unfold g_134 v_134
  rw [e3]
  rcases hs with ⟨i1, i2, i3⟩ | ⟨v, w, j1, j2, j3, j4, j5, j6⟩
  · rw [i1]
    exact ⟨⟨g3, fun q => absurd rfl q⟩, Or.inl ⟨i2, i3, by rw [if_neg (by decide)]⟩⟩
  · have n := n12 (v := v) (w := w) (by omega) (by omega)
    rw [j3, n.2, n.1]
    have g4 : g_4 I 1 (nI v) (nI w) s := g_v4 s h8 h12 (by omega) (by omega)
    refine ⟨⟨g3, fun _ _ => g4⟩, Or.inr ⟨v, w, j1, j2, j4, j5, ?_⟩⟩
    rw [if_pos (nIm1 (by omega)), hp v w (by omega) (by omega)]
theorem n02 {x : Int32} (h : (0 : Int32).toInt ≤ x.toInt ∧ x.toInt ≤ (2 : Int32).toInt) : x = 0 ∨ x = 1 ∨ x = 2 := by
  have t : (0 : Int32).toInt = 0 ∧ (1 : Int32).toInt = 1 ∧ (2 : Int32).toInt = 2 := by decide
  rcases (show x.toInt = 0 ∨ x.toInt = 1 ∨ x.toInt = 2 by omega) with z | z | z
  · exact Or.inl (Int32.toInt_inj.mp (by omega))
  · exact Or.inr (Or.inl (Int32.toInt_inj.mp (by omega)))
  · exact Or.inr (Or.inr (Int32.toInt_inj.mp (by omega)))
theorem op_pair (h : kR 1 nv nc tc I J) (x : Int32) : g_133 I x ∧ g_247 J x ∧ v_133 I x = v_247 J x := by
  obtain ⟨hA, hQ, hC, hB, hP, hV, hN, -⟩ := h
  have h12 := hV.1
  have h4 := hC.1
  unfold v_133 v_247 g_133 g_247
  rw [show (0 : Int64) = Int32.toInt64 0 by decide, show (2 : Int64) = Int32.toInt64 2 by decide, v170_107, hV.2.2.1, cl (show nv < 2 ^ 31 by omega)]
  rcases v107_cases x 0 2 with ⟨e, hx1, hx2⟩ | ⟨e, -⟩
  · have ho := pair_out hA hP hV h4 nv (Nat.le_refl _)
    have he := two_end (x := x) hV.2.1 h12 ho (fun v w hv hw => v4_0 hA hP (by omega) (by omega))
    rw [e, if_neg d10, if_pos d10]
    simp only [bx]
    refine ⟨fun _ => he.1, fun _ => ⟨?_, fun _ _ hn => ?_⟩, ?_⟩
    · unfold gl_247_22
      intro k hk
      have ho := pair_out hA hP hV h4 k (by omega)
      unfold gl_247_37s
      rw [hV.2.2.1, cnt h12 (by omega)]
      intro i hi
      have hi2 := pair_in hA hP hV h4 (v := k) (by omega) _ _ ho i (by omega)
      rw [nI_1, nI_add]
      refine ⟨g180 (by omega), fun _ => ⟨g180 (by omega), fun _ hn => ⟨(g_betw (I := I) (b := 1) (by omega) (by omega)).2, ?_⟩⟩⟩
      rw [← nI_1] at hn ⊢
      rcases hi2 with ⟨-, i2, -⟩ | ⟨v', w', j1, j2, -, j4, j5, -⟩
      · exact absurd i2 hn
      · rw [j4, j5]
        exact (g_betw (I := I) (b := 1) (by omega) (by omega)).2
    · rcases ho with ⟨-, i2, -⟩ | ⟨v', w', j1, j2, -, j4, j5, -⟩
      · exact absurd i2 hn
      · rw [j4, j5]
        exact (g_betw (I := I) (b := 1) (by omega) (by omega)).2
    · rcases he.2 with ⟨i1, i2, i3⟩ | ⟨v, w, j1, j2, j3, j4, j5⟩
      · rw [i1, i2, i3]
        rcases n02 ⟨hx1, hx2⟩ with rfl | rfl | rfl <;> rfl
      · rw [j3, j4, j5]
        have n1 : ¬ nI v = -1 := nIm1 (by omega)
        rcases n02 ⟨hx1, hx2⟩ with rfl | rfl | rfl
        · rfl
        · rfl
        · simp only [if_pos n1]; rfl
  · rw [e, if_pos rfl, if_neg d00]
    exact ⟨fun g => absurd rfl g, fun g => absurd rfl g, rfl⟩
/-! two that serve all -/
theorem ms {v w : Nat} (hv : v < 12) (hw : w < 12) : 2 ^ v ||| 2 ^ w < 4096 := Nat.or_lt_two_pow (n := 12) (Nat.pow_lt_pow_right (by omega) hv) (Nat.pow_lt_pow_right (by omega) hw)
theorem nin2 (hA : kA b I J) (hP : kP b I J) {p v w : Nat} (h12 : nv ≤ 12) (hp : p < 12) (hvw : v < w) (hw : w < nv) : ∀ k, k ≤ nv → lp_249_5 J (nI p) (nI (2 ^ v ||| 2 ^ w)) (-1) k = if k ≤ v then -1 else if k ≤ w then v_183 J (nI p) (nI v) else v_282 (v_183 J (nI p) (nI v)) (v_183 J (nI p) (nI w)) := by
  intro k
  induction k with
  | zero => intro _; rw [if_pos (by omega)]; rfl
  | succ k ih =>
    intro hk
    have tb : (2 ^ v ||| 2 ^ w).testBit k = (decide (v = k) || decide (w = k)) := by rw [Nat.testBit_or, Nat.testBit_two_pow, Nat.testBit_two_pow]
    have m1 := shb_1 (m := 2 ^ v ||| 2 ^ w) (v := k) (ms (by omega) (by omega)) (by omega)
    rw [tb] at m1
    have ne1 : ∀ {x}, x < 12 → ¬ v_183 J (nI p) (nI x) = -1 := fun {x} hx e => by
      have := (betw_bt hA hP hp hx).1
      rw [e] at this
      exact absurd this (by decide)
    rw [lp_249_5, ih (by omega)]
    simp only [bx]
    by_cases z : v = k
    · subst z
      have y := m1.mpr (by simp)
      simp only [if_neg (show ¬ ¬ ((nI (2 ^ v ||| 2 ^ w) >>> (nI v &&& 31)) &&& 1 = 1) from fun q => q y), if_neg (ne1 (show v < 12 by omega)), if_pos (Nat.le_refl v), if_neg (show ¬ v + 1 ≤ v by omega), if_pos (show v + 1 ≤ w by omega), if_true]
    · by_cases z2 : w = k
      · subst z2
        have y := m1.mpr (by simp)
        simp only [if_neg (show ¬ ¬ ((nI (2 ^ v ||| 2 ^ w) >>> (nI w &&& 31)) &&& 1 = 1) from fun q => q y), if_neg (ne1 (show w < 12 by omega)), if_neg (ne1 (show v < 12 by omega)), if_neg (show ¬ w ≤ v by omega), if_pos (Nat.le_refl w), if_neg (show ¬ w + 1 ≤ v by omega), if_neg (show ¬ w + 1 ≤ w by omega)]
        exact (v282_eq _ _).symm
      · have y : ¬ (nI (2 ^ v ||| 2 ^ w) >>> (nI k &&& 31)) &&& 1 = 1 := fun q => by
          have := m1.mp q
          simp [z, z2] at this
        simp only [if_pos y, if_true]
        by_cases c1 : k ≤ v
        · rw [if_pos c1, if_pos (show k + 1 ≤ v by omega)]
        · rw [if_neg c1, if_neg (show ¬ k + 1 ≤ v by omega)]
          by_cases c2 : k ≤ w
          · rw [if_pos c2, if_pos (show k + 1 ≤ w by omega)]
          · rw [if_neg c2, if_neg (show ¬ k + 1 ≤ w by omega)]
theorem price_eq (hA : kA b I J) (hP : kP b I J) (hV : kV b nv nc I J) (h4 : nc ≤ 4) {v w : Nat} (hvw : v < w) (hw : w < nv) : ∀ k, k ≤ nv → lp_4_18 I b (nI v) (nI w) 0 k = lp_253_55 J (nI v) (nI w) 0 k := by
  have h12 := hV.1
  intro k
  induction k with
  | zero => intro _; rfl
  | succ k ih =>
    intro hk
    have e : v_249 J (nI k) (nI (2 ^ v ||| 2 ^ w)) = v_282 (v_183 J (nI k) (nI v)) (v_183 J (nI k) (nI w)) := by
      unfold v_249
      rw [hV.2.2.1, cl (show nv < 2 ^ 31 by omega), nin2 hA hP h12 (show k < 12 by omega) hvw hw nv (Nat.le_refl _), if_neg (by omega), if_neg (by omega)]
      rfl
    rw [lp_4_18, lp_253_55, ih (by omega), (there_eq hV h4 (v := k) (by omega)).1, betw_eq hA hP (v := k) (w := v) (by omega) (by omega), betw_eq hA hP (v := k) (w := w) (by omega) (by omega), sh1 (v := v) (by omega), sh1 (v := w) (by omega), ← nI_or, e]
    simp only [bx]
    by_cases y : v_180 J (nI k) = 0
    · simp only [if_pos y]
      rw [Int32.add_zero]
    · simp only [if_neg y]
theorem v4_1 (hA : kA b I J) (hP : kP b I J) (hV : kV b nv nc I J) (h4 : nc ≤ 4) {v w : Nat} (hvw : v < w) (hw : w < nv) : v_4 I b (nI v) (nI w) 1 = lp_253_55 J (nI v) (nI w) 0 nv := by
  have h12 := hV.1
  unfold v_4
  rw [if_pos d10, hV.2.1, cl (show nv < 2 ^ 31 by omega), price_eq hA hP hV h4 hvw hw nv (Nat.le_refl _)]
  rfl
def bst3 (nv : Nat) (pr : Nat → Nat → Int32) (c : Int32 × Int32) (a q l : Int32) : Prop := (c.1 = -1 ∧ a = -1 ∧ q = -1 ∧ l = -1) ∨ ∃ v w, v < w ∧ w < nv ∧ c.1 = nI (v * 12 + w) ∧ a = nI v ∧ q = nI w ∧ c.2 = pr v w ∧ l = pr v w
theorem two_in (hA : kA b I J) (hP : kP b I J) (hV : kV b nv nc I J) (h4 : nc ≤ 4) {v : Nat} (hv : v < nv) (c : Int32 × Int32) (r : Int32 × Int32 × Int32) (hs : bst3 nv (fun v w => lp_253_55 J (nI v) (nI w) 0 nv) c r.1 r.2.1 r.2.2) :
    ∀ k, k ≤ nv - (v + 1) → bst3 nv (fun v w => lp_253_55 J (nI v) (nI w) 0 nv) (lp_3_23s I b 1 (nI v) (nI v + 1) c.1 c.2 k) (lp_253_40s J (nI v) (nI v + 1) r.1 r.2.1 r.2.2 k).1 (lp_253_40s J (nI v) (nI v + 1) r.1 r.2.1 r.2.2 k).2.1 (lp_253_40s J (nI v) (nI v + 1) r.1 r.2.1 r.2.2 k).2.2 := by
  have h12 := hV.1
  intro k
  induction k with
  | zero => intro _; exact hs
  | succ k ih =>
    intro hk
    have ih := ih (by omega)
    rw [lp_3_23s, lp_253_40s]
    revert ih
    generalize lp_3_23s I b 1 (nI v) (nI v + 1) c.1 c.2 k = C
    generalize lp_253_40s J (nI v) (nI v + 1) r.1 r.2.1 r.2.2 k = R
    intro ih
    rw [nI_1, nI_add, (there_eq hV h4 (v := v) (by omega)).1, (there_eq hV h4 (v := v + 1 + k) (by omega)).1, v4_1 hA hP hV h4 (v := v) (w := v + 1 + k) (by omega) (by omega), n12e, hV.2.2.1, cl (show nv < 2 ^ 31 by omega)]
    simp only [bx]
    by_cases y : v_180 J (nI v) = 0
    · simp only [if_pos y]; exact ih
    · simp only [if_neg y]
      by_cases z : v_180 J (nI (v + 1 + k)) = 0
      · simp only [if_pos z]; exact ih
      · simp only [if_neg z]
        have new : bst3 nv (fun v w => lp_253_55 J (nI v) (nI w) 0 nv) (nI (v * 12 + (v + 1 + k)), lp_253_55 J (nI v) (nI (v + 1 + k)) 0 nv) (nI v) (nI (v + 1 + k)) (lp_253_55 J (nI v) (nI (v + 1 + k)) 0 nv) := Or.inr ⟨v, v + 1 + k, by omega, by omega, rfl, rfl, rfl, rfl, rfl⟩
        rcases ih with ⟨i1, i2, i3, i4⟩ | ⟨v', w', j1, j2, j3, j4, j5, j6, j7⟩
        · simp only [if_pos i1, if_pos i2]; exact new
        · have n1 : ¬ C.1 = -1 := by rw [j3]; exact nIm1 (by omega)
          have n2 : ¬ R.1 = -1 := by rw [j4]; exact nIm1 (by omega)
          simp only [if_neg n1, if_neg n2]
          by_cases x : C.2 ≤ lp_253_55 J (nI v) (nI (v + 1 + k)) 0 nv
          · simp only [if_pos x, if_pos (show R.2.2 ≤ lp_253_55 J (nI v) (nI (v + 1 + k)) 0 nv by rw [j7, ← j6]; exact x)]
            exact Or.inr ⟨v', w', j1, j2, j3, j4, j5, j6, j7⟩
          · simp only [if_neg x, if_neg (show ¬ R.2.2 ≤ lp_253_55 J (nI v) (nI (v + 1 + k)) 0 nv by rw [j7, ← j6]; exact x)]
            exact new
theorem two_out (hA : kA b I J) (hP : kP b I J) (hV : kV b nv nc I J) (h4 : nc ≤ 4) : ∀ k, k ≤ nv → bst3 nv (fun v w => lp_253_55 J (nI v) (nI w) 0 nv) (lp_3_8 I b 1 (-1) 0 k) (lp_253_25 J (-1) (-1) (-1) k).1 (lp_253_25 J (-1) (-1) (-1) k).2.1 (lp_253_25 J (-1) (-1) (-1) k).2.2 := by
  have h12 := hV.1
  intro k
  induction k with
  | zero => intro _; exact Or.inl ⟨rfl, rfl, rfl, rfl⟩
  | succ k ih =>
    intro hk
    have ih := two_in hA hP hV h4 (v := k) (by omega) _ _ (ih (by omega)) (nv - (k + 1)) (Nat.le_refl _)
    rw [lp_3_8, lp_253_25, hV.2.1, hV.2.2.1, cnt h12 (by omega)]
    exact ih
theorem op_two (h : kR 1 nv nc tc I J) (x : Int32) : g_135 I x ∧ g_253 J x ∧ v_135 I x = v_253 J x := by
  obtain ⟨hA, hQ, hC, hB, hP, hV, hN, -⟩ := h
  have h12 := hV.1
  have h4 := hC.1
  unfold v_135 v_253 g_135 g_253
  rw [show (0 : Int64) = Int32.toInt64 0 by decide, show (2 : Int64) = Int32.toInt64 2 by decide, v170_107, hV.2.2.1, cl (show nv < 2 ^ 31 by omega)]
  rcases v107_cases x 0 2 with ⟨e, hx1, hx2⟩ | ⟨e, -⟩
  · have ho := two_out hA hP hV h4 nv (Nat.le_refl _)
    rw [e, if_neg d10, if_pos d10]
    simp only [bx]
    have gg : g_134 I x 1 := by
      unfold g_134
      refine ⟨g_v3 1 hV.2.1 h12, fun hn _ => ?_⟩
      have e3 : v_3 I 1 1 = (lp_3_8 I 1 1 (-1) 0 nv).1 := by
        unfold v_3
        rw [hV.2.1, cl (show nv < 2 ^ 31 by omega)]
        rfl
      rw [e3] at hn ⊢
      rcases ho with ⟨i1, -, -, -⟩ | ⟨v, w, j1, j2, j3, -, -, -, -⟩
      · exact absurd i1 hn
      · have n := n12 (v := v) (w := w) (by omega) (by omega)
        rw [j3, n.2, n.1]
        exact g_v4 1 hV.2.1 h12 (by omega) (by omega)
    refine ⟨fun _ => gg, fun _ => ?_, ?_⟩
    · unfold gl_253_25
      intro k hk
      unfold gl_253_40s
      rw [hV.2.2.1, cnt h12 (by omega), cl (show nv < 2 ^ 31 by omega)]
      intro i hi
      rw [nI_1, nI_add]
      refine ⟨?_, g180 (by omega), fun _ => g180 (by omega)⟩
      unfold gl_253_55
      intro j hj
      refine ⟨g180 (by omega), fun _ => ?_⟩
      unfold g_249 gl_249_5
      rw [hV.2.2.1, cl (show nv < 2 ^ 31 by omega)]
      intro q hq _
      exact (g_betw (I := I) (b := 1) (by omega) (by omega)).2
    · have e3 : v_3 I 1 1 = (lp_3_8 I 1 1 (-1) 0 nv).1 := by
        unfold v_3
        rw [hV.2.1, cl (show nv < 2 ^ 31 by omega)]
        rfl
      unfold v_134
      rw [e3]
      rcases ho with ⟨i1, i2, i3, i4⟩ | ⟨v, w, j1, j2, j3, j4, j5, j6, j7⟩
      · rw [i1, i2, i3, i4]
        rcases n02 ⟨hx1, hx2⟩ with rfl | rfl | rfl <;> rfl
      · have n := n12 (v := v) (w := w) (by omega) (by omega)
        rw [j3, n.2, n.1, j4, j5, j7, if_pos (nIm1 (by omega)), v4_1 hA hP hV h4 j1 j2]
        rcases n02 ⟨hx1, hx2⟩ with rfl | rfl | rfl <;> rfl
  · rw [e, if_pos rfl, if_neg d00]
    exact ⟨fun g => absurd rfl g, fun g => absurd rfl g, rfl⟩
end
