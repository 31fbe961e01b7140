section
variable {b nv nc tc : Nat} {I J : WI}
/-! what a cell sheds -/
theorem ifc {p q : Prop} [Decidable p] [Decidable q] {x y : Int32} (h : p ↔ q) : (if p then x else y) = (if q then x else y) := by
  by_cases z : p
  · rw [if_pos z, if_pos (h.mp z)]
  · rw [if_neg z, if_neg (fun w => z (h.mpr w))]
theorem l73 {c : Nat} {a : Int32} : ∀ k, k ≤ 12 → ∀ q j, (lp_73_4 I b (nI c) a k).2 q j = if q = b + 9 ∧ j < k ∧ I (b + 9) j = nI c ∧ v_61 I b (nI j) = 0 then -1 else I q j := by
  intro k
  induction k with
  | zero => intro _ q j; rw [if_neg (by omega)]; rfl
  | succ k ih =>
    intro hk q j
    have ih := ih (by omega)
    simp only [lp_73_4, bx, cl (show k < 2 ^ 31 by omega)]
    generalize lp_73_4 I b (nI c) a k = P at ih
    have e9 : P.2 (b + 9) k = I (b + 9) k := by rw [ih, if_neg (by omega)]
    have e61 : v_61 P.2 b (nI k) = v_61 I b (nI k) := by unfold v_61; rw [ih, if_neg (by omega)]
    have oth : ¬ (I (b + 9) k = nI c ∧ v_61 I b (nI k) = 0) → P.2 q j = if q = b + 9 ∧ j < k + 1 ∧ I (b + 9) j = nI c ∧ v_61 I b (nI j) = 0 then -1 else I q j := by
      intro hn
      rw [ih]
      refine ifc ⟨fun z => ⟨z.1, by omega, z.2.2⟩, fun z => ⟨z.1, ?_, z.2.2⟩⟩
      rcases Nat.lt_or_ge j k with y | y
      · exact y
      · obtain rfl : j = k := by omega
        exact absurd z.2.2 hn
    rw [e9, e61]
    by_cases h1 : I (b + 9) k = nI c
    · rw [if_neg (fun a => a h1)]
      by_cases h2 : v_61 I b (nI k) = 0
      · rw [if_neg (fun a => a h2)]
        show up2 P.2 (b + 9) k (-1) q j = _
        by_cases h : q = b + 9 ∧ j = k
        · obtain ⟨rfl, rfl⟩ := h
          rw [if_pos ⟨rfl, by omega, h1, h2⟩]
          simp [up2]
        · rw [up2_nk h, ih]
          exact ifc ⟨fun z => ⟨z.1, by omega, z.2.2⟩, fun z => ⟨z.1, by omega, z.2.2⟩⟩
      · rw [if_pos h2]
        exact oth (fun z => h2 z.2)
    · rw [if_pos h1]
      exact oth (fun z => h1 z.1)
theorem l230 {c : Nat} {a : Int32} (hc : c < 4) : ∀ k, k ≤ 12 → ∀ q j, (lp_230_4 J (nI c) a k).2 q j = if q = 86 ∧ j < k ∧ J 86 j = nI c ∧ J 87 j = 1 then -1 else J q j := by
  intro k
  induction k with
  | zero => intro _ q j; rw [if_neg (by omega)]; rfl
  | succ k ih =>
    intro hk q j
    have ih := ih (by omega)
    simp only [lp_230_4, bx, cl (show k < 2 ^ 31 by omega)]
    generalize lp_230_4 J (nI c) a k = P at ih
    have e6 : P.2 86 k = J 86 k := by rw [ih, if_neg (by omega)]
    have e7 : P.2 87 k = J 87 k := by rw [ih, if_neg (by omega)]
    have oth : ¬ (J 86 k = nI c ∧ J 87 k = 1) → P.2 q j = if q = 86 ∧ j < k + 1 ∧ J 86 j = nI c ∧ J 87 j = 1 then -1 else J q j := by
      intro hn
      rw [ih]
      refine ifc ⟨fun z => ⟨z.1, by omega, z.2.2⟩, fun z => ⟨z.1, ?_, z.2.2⟩⟩
      rcases Nat.lt_or_ge j k with y | y
      · exact y
      · obtain rfl : j = k := by omega
        exact absurd z.2.2 hn
    rw [e6, e7, if_neg (nIm1 (c := c) (by omega))]
    by_cases h2 : J 87 k = 1
    · rw [if_neg (fun a => a h2)]
      by_cases h1 : J 86 k = nI c
      · rw [if_neg (show ¬ J 86 k = -1 by rw [h1]; exact nIm1 (by omega)), if_neg (fun a => a h1)]
        show up2 P.2 86 k (-1) q j = _
        by_cases h : q = 86 ∧ j = k
        · obtain ⟨rfl, rfl⟩ := h
          rw [if_pos ⟨rfl, by omega, h1, h2⟩]
          simp [up2]
        · rw [up2_nk h, ih]
          exact ifc ⟨fun z => ⟨z.1, by omega, z.2.2⟩, fun z => ⟨z.1, by omega, z.2.2⟩⟩
      · by_cases h3 : J 86 k = -1
        · rw [if_pos h3]
          exact oth (fun z => h1 z.1)
        · rw [if_neg h3, if_pos h1]
          exact oth (fun z => h1 z.1)
    · rw [if_pos h2]
      exact oth (fun z => h2 z.2)
theorem l73n {c : Nat} (hc : c < 4) {a : Int32} : ∀ k, k ≤ 12 → (∀ w, w < k → ((I (b + 9) w = nI c ∧ v_61 I b (nI w) = 0) ↔ (J 86 w = nI c ∧ J 87 w = 1))) → (lp_73_4 I b (nI c) a k).1 = (lp_230_4 J (nI c) a k).1 := by
  intro k
  induction k with
  | zero => intro _ _; rfl
  | succ k ih =>
    intro hk hw
    have ih := ih (by omega) (fun w h => hw w (by omega))
    have hP := l73 (I := I) (b := b) (c := c) (a := a) k (by omega)
    have hQ := l230 (J := J) (c := c) (a := a) hc k (by omega)
    simp only [lp_73_4, lp_230_4, bx, cl (show k < 2 ^ 31 by omega)]
    generalize lp_73_4 I b (nI c) a k = P at ih hP
    generalize lp_230_4 J (nI c) a k = Q at ih hQ
    have e9 : P.2 (b + 9) k = I (b + 9) k := by rw [hP, if_neg (by omega)]
    have e61 : v_61 P.2 b (nI k) = v_61 I b (nI k) := by unfold v_61; rw [hP, if_neg (by omega)]
    have e6 : Q.2 86 k = J 86 k := by rw [hQ, if_neg (by omega)]
    have e7 : Q.2 87 k = J 87 k := by rw [hQ, if_neg (by omega)]
    rw [e6, e7, e9, e61, if_neg (nIm1 (c := c) (by omega))]
    by_cases hh : I (b + 9) k = nI c ∧ v_61 I b (nI k) = 0
    · have hj := (hw k (by omega)).mp hh
      rw [if_neg (fun a => a hh.1), if_neg (fun a => a hh.2), if_neg (fun a => a hj.2), if_neg (show ¬ J 86 k = -1 by rw [hj.1]; exact nIm1 (by omega)), if_neg (fun a => a hj.1)]
      show P.1 + 1 = Q.1 + 1
      rw [ih]
    · have hj : ¬ (J 86 k = nI c ∧ J 87 k = 1) := fun z => hh ((hw k (by omega)).mpr z)
      have a1 : (if ¬ I (b + 9) k = nI c then (P.1, P.2) else if ¬ v_61 I b (nI k) = 0 then (P.1, P.2) else (P.1 + 1, up2 P.2 (b + 9) k (-1))) = P := by
        by_cases h1 : I (b + 9) k = nI c
        · rw [if_neg (fun a => a h1), if_pos (fun z => hh ⟨h1, z⟩)]
        · rw [if_pos h1]
      have a2 : (if ¬ J 87 k = 1 then (Q.1, Q.2) else if J 86 k = -1 then (Q.1, Q.2) else if ¬ J 86 k = nI c then (Q.1, Q.2) else (Q.1 + 1, up2 Q.2 86 k (-1))) = Q := by
        by_cases h1 : J 87 k = 1
        · rw [if_neg (fun a => a h1)]
          by_cases h2 : J 86 k = -1
          · rw [if_pos h2]
          · rw [if_neg h2, if_pos (fun z => hj ⟨z, h1⟩)]
        · rw [if_pos h1]
      rw [a1, a2]
      exact ih
/-! a cell's box made anew, vector by vector -/
def kNk (nv nc c k : Nat) (J : WI) : Prop := ∀ w, w < nv → ∀ c', c' < nc → (c' ≠ c ∨ w < k) → J 86 w = nI c' → J 83 c' = 1 ∧ ∀ i, i < 3 → (J 81 (3 * c' + i)).toInt ≤ (J 84 (3 * w + i)).toInt ∧ (J 84 (3 * w + i)).toInt ≤ (J 82 (3 * c' + i)).toInt
theorem come_kNk {c k : Nat} (h12 : nv ≤ 12) (h4 : nc ≤ 4) (hc : c < nc) (hk : k < nv) (h : kNk nv nc c k J) : kNk nv nc c (k + 1) (v_177 J (nI k) (nI c)) := by
  have hJ' : ∃ J' : WI, J' = fun q j => if q = 86 ∧ k ≤ j ∧ J 86 j = nI c then -1 else J q j := ⟨_, rfl⟩
  obtain ⟨J', eJ'⟩ := hJ'
  have e1 : ∀ q j, q ≠ 86 → J' q j = J q j := fun q j hq => by
    rw [eJ']
    exact if_neg (fun z => hq z.1)
  have n1 := come_kN (J := J') (nv := nv) (nc := nc) hk h12 hc h4 (fun w hw hwk c' hc' e => by
    have e2 : (c' ≠ c ∨ w < k) ∧ J 86 w = nI c' := by
      rw [eJ'] at e
      have e5 : (if 86 = 86 ∧ k ≤ w ∧ J 86 w = nI c then -1 else J 86 w) = nI c' := e
      clear e
      by_cases z : k ≤ w ∧ J 86 w = nI c
      · rw [if_pos ⟨rfl, z⟩] at e5
        exact absurd e5.symm (nIm1 (by omega))
      · rw [if_neg (fun y => z y.2)] at e5
        refine ⟨?_, e5⟩
        by_cases y : c' = c
        · subst y
          right
          rcases Nat.lt_or_ge w k with u | u
          · exact u
          · exact absurd ⟨u, e5⟩ z
        · exact Or.inl y
    rw [e1 83 _ (by omega)]
    refine ⟨(h w hw c' hc' e2.1 e2.2).1, fun i hi => ?_⟩
    rw [e1 81 _ (by omega), e1 82 _ (by omega), e1 84 _ (by omega)]
    exact (h w hw c' hc' e2.1 e2.2).2 i hi)
  have e3 : ∀ q j, q ≠ 86 → v_177 J' (nI k) (nI c) q j = v_177 J (nI k) (nI c) q j := fun q j hq => by
    rw [v177_pt (by omega) (by omega), v177_pt (by omega) (by omega), e1 83 _ (by omega), e1 84 _ (by omega), e1 81 _ (by omega), e1 82 _ (by omega), e1 q j hq]
  intro w hw c' hc' ho hwc
  have e4 : v_177 J' (nI k) (nI c) 86 w = nI c' := by
    rw [v177_pt (by omega) (by omega), if_neg (by omega)] at hwc
    rw [v177_pt (by omega) (by omega), if_neg (by omega)]
    by_cases z : w = k
    · rw [if_pos ⟨rfl, z⟩] at hwc
      rw [if_pos ⟨rfl, z⟩]
      exact hwc
    · rw [if_neg (by omega), if_neg (by omega), if_neg (by omega)] at hwc
      rw [if_neg (by omega), if_neg (by omega), if_neg (by omega)]
      rw [eJ']
      show (if 86 = 86 ∧ k ≤ w ∧ J 86 w = nI c then -1 else J 86 w) = nI c'
      rw [if_neg]
      · exact hwc
      · intro y
        rw [y.2.2, nI_eq (by omega) (by omega)] at hwc
        omega
  have r := n1 w hw c' hc' e4
  rw [e3 83 _ (by omega)] at r
  refine ⟨r.1, fun i hi => ?_⟩
  have r2 := r.2 i hi
  rw [e3 81 _ (by omega), e3 82 _ (by omega), e3 84 _ (by omega)] at r2
  exact r2
theorem kNk_skip {c k : Nat} (hc : c < 4) (h : kNk nv nc c k J) (hn : ¬ J 86 k = nI c) : kNk nv nc c (k + 1) J := by
  intro w hw c' hc' ho e
  refine h w hw c' hc' ?_ e
  rcases ho with ho | ho
  · exact Or.inl ho
  · by_cases z : c' = c
    · subst z
      right
      rcases Nat.lt_or_ge w k with u | u
      · exact u
      · obtain rfl : w = k := by omega
        exact absurd e hn
    · exact Or.inl z
theorem come_all {c : Nat} (h12 : nv ≤ 12) (h4 : nc ≤ 4) (hc : c < nc) (hB : kB b nc I J) (hP : kP b I J) (hw : ∀ w, w < 12 → I (b + 9) w = J 86 w) (hN : kNk nv nc c 0 J) : ∀ k, k ≤ nv →
    kB b nc (lp_72_13 I b (nI c) k) (lp_229_26 J (nI c) k) ∧ kNk nv nc c k (lp_229_26 J (nI c) k) ∧
      (∀ q j, q ≠ b + 5 → q ≠ b + 6 → lp_72_13 I b (nI c) k q j = I q j) ∧ (∀ q j, q ≠ 81 → q ≠ 82 → q ≠ 83 → lp_229_26 J (nI c) k q j = J q j) := by
  intro k
  induction k with
  | zero => intro _; exact ⟨hB, hN, fun _ _ _ _ => rfl, fun _ _ _ _ _ => rfl⟩
  | succ k ih =>
    intro hk
    obtain ⟨i1, i2, i3, i4⟩ := ih (by omega)
    simp only [lp_72_13, lp_229_26, bx, cl (show k < 2 ^ 31 by omega)]
    generalize lp_72_13 I b (nI c) k = P at i1 i3
    generalize lp_229_26 J (nI c) k = Q at i1 i2 i4
    rw [i3 (b + 9) k (by omega) (by omega), i4 86 k (by omega) (by omega) (by omega), hw k (by omega)]
    by_cases h : J 86 k = nI c
    · rw [if_neg (fun a => a h), if_neg (fun a => a h)]
      have hP' : kP b P Q := kP_cg hP (fun k _ => i3 _ _ (by omega) (by omega)) (fun k _ => i4 _ _ (by omega) (by omega) (by omega))
      refine ⟨come_kB (by omega) hc h4 i1 hP', come_kNk h12 h4 hc (by omega) i2, fun q j h1 h2 => ?_, fun q j h1 h2 h3 => ?_⟩
      · rw [v60_pt (by omega) (by omega)]
        by_cases z : q = b + 9 ∧ j = k
        · rw [if_pos z, z.1, z.2, hw k (by omega), h]
        · rw [if_neg z, if_neg (by omega), if_neg (by omega), i3 q j h1 h2]
      · rw [v177_pt (by omega) (by omega), if_neg (by omega)]
        by_cases z : q = 86 ∧ j = k
        · rw [if_pos z, z.1, z.2, h]
        · rw [if_neg z, if_neg (by omega), if_neg (by omega), i4 q j h1 h2 h3]
    · rw [if_pos h, if_pos h]
      refine ⟨i1, kNk_skip (by omega) i2 ?_, i3, i4⟩
      rw [i4 86 k (by omega) (by omega) (by omega)]
      exact h
/-- the answer of tidy, and what it leaves -/
theorem op_tidy (h : kR 1 nv nc tc I J) (x : Int32) : g_123 I x ∧ g_229 J x ∧ (v_123 I x).1 = (v_229 J x).1 ∧ kR 1 nv nc tc (v_123 I x).2 (v_229 J x).2 := by
  obtain ⟨hA, hQ, hC, hB, hP, hV, hN, hr, r, hr1, hr2⟩ := h
  have hR : kR 1 nv nc tc I J := ⟨hA, hQ, hC, hB, hP, hV, hN, hr, r, hr1, hr2⟩
  have h4 := hC.1
  have h12 := hV.1
  have e224 : v_224 J x = v_107 x 0 (nI nc - 1) := by
    unfold v_224
    rw [hC.2.2.1, l64.2.2.1, v170_107]
  unfold v_123 v_229 g_123 g_229
  rw [e224, hC.2.1]
  rcases vnum (nv := nc) (by omega) x with ⟨e, c, hc, rfl⟩ | e
  rotate_left
  · rw [e, if_pos rfl, if_neg d00]
    exact ⟨fun g => absurd rfl g, fun g => absurd rfl g, rfl, hR⟩
  rw [e, if_neg d10, if_pos d10]
  unfold v_72 g_72 v_73 g_73 v_230 g_230
  simp only [bx, cl (show c < 2 ^ 31 by omega), hV.2.1, hV.2.2.1, cl (show nv < 2 ^ 31 by omega)]
  have eq : ∀ w, w < nv → ((I (1 + 9) w = nI c ∧ v_61 I 1 (nI w) = 0) ↔ (J 86 w = nI c ∧ J 87 w = 1)) := by
    intro w hw
    rw [(hV.2.2.2.1 w (by omega)).2.2]
    rcases (there_eq hV h4 hw).2 with ⟨a, a2, -⟩ | ⟨a, a2⟩
    · rw [a, a2]
      exact ⟨fun z => absurd z.2 d10, fun z => absurd z.2.symm d10⟩
    · rw [a, a2]
      exact ⟨fun z => ⟨z.1, rfl⟩, fun z => ⟨z.1, rfl⟩⟩
  have hn := l73n (b := 1) (c := c) (by omega) (a := 0) nv h12 eq
  have hI := l73 (I := I) (b := 1) (c := c) (a := 0)
  have hJ := l230 (J := J) (c := c) (a := 0) (by omega)
  have g1 : gl_73_4 I 1 (nI c) 0 nv := by
    refine ⟨fun k hk => ⟨?_, vin (by omega) (by omega), fun _ _ => vin (by omega) (by omega)⟩, ?_⟩
    · show (lp_73_4 I 1 (nI c) 0 k).2 1 8 = I 1 8
      rw [hI k (by omega), if_neg (by omega)]
    · show (lp_73_4 I 1 (nI c) 0 nv).2 1 8 = I 1 8
      rw [hI nv h12, if_neg (by omega)]
  have g2 : gl_230_4 J (nI c) 0 nv := by
    refine ⟨fun k hk => ⟨?_, vin (by omega) (by omega), fun _ => ⟨vin (by omega) (by omega), fun _ => ⟨fun _ => vin (by omega) (by omega), fun _ => ⟨vin (by omega) (by omega), fun _ => vin (by omega) (by omega)⟩⟩⟩⟩, ?_⟩
    · show (lp_230_4 J (nI c) 0 k).2 74 18 = J 74 18
      rw [hJ k (by omega), if_neg (by omega)]
    · show (lp_230_4 J (nI c) 0 nv).2 74 18 = J 74 18
      rw [hJ nv h12, if_neg (by omega)]
  have hI := hI nv h12
  have hJ := hJ nv h12
  generalize lp_73_4 I 1 (nI c) 0 nv = P at hn hI
  generalize lp_230_4 J (nI c) 0 nv = Q at hn hJ
  have h0 : vp_nar (bT 0) 0 = 0 := by decide
  rw [h0]
  have pI : ∀ q j, v_54 P.2 1 (nI c) q j = if q = 1 + 5 ∧ 3 * c ≤ j ∧ j < 3 * c + 3 then 1000 else if q = 1 + 6 ∧ 3 * c ≤ j ∧ j < 3 * c + 3 then -1000 else P.2 q j := fun q j => v54_pt (by omega) q j
  have pJ : ∀ q j, up2 Q.2 83 c 0 q j = if q = 83 ∧ j = c then 0 else Q.2 q j := fun q j => by simp only [up2]
  have g3 : g_54 P.2 1 (nI c) := g54 (by omega)
  generalize v_54 P.2 1 (nI c) = P2 at pI
  generalize up2 Q.2 83 c 0 = Q2 at pJ
  have fI : ∀ q j, q ≠ 1 + 5 → q ≠ 1 + 6 → q ≠ 1 + 9 → P2 q j = I q j := fun q j a1 a2 a3 => by
    rw [pI, if_neg (by omega), if_neg (by omega), hI, if_neg (by omega)]
  have fJ : ∀ q j, q ≠ 83 → q ≠ 86 → Q2 q j = J q j := fun q j a1 a2 => by
    rw [pJ, if_neg (by omega), hJ, if_neg (by omega)]
  have w86 : ∀ j, Q2 86 j = if j < nv ∧ J 86 j = nI c ∧ J 87 j = 1 then -1 else J 86 j := fun j => by
    rw [pJ, if_neg (by omega), hJ]
    exact ifc ⟨fun z => z.2, fun z => ⟨rfl, z⟩⟩
  have w9 : ∀ j, j < 12 → P2 (1 + 9) j = Q2 86 j := fun j hj => by
    rw [w86, pI, if_neg (by omega), if_neg (by omega), hI, (hV.2.2.2.1 j hj).2.2]
    refine ifc ⟨fun z => ?_, fun z => ?_⟩
    · have y := (eq j z.2.1).mp (by rw [(hV.2.2.2.1 j hj).2.2]; exact z.2.2)
      exact ⟨z.2.1, y⟩
    · have y := (eq j z.1).mpr z.2
      rw [(hV.2.2.2.1 j hj).2.2] at y
      exact ⟨rfl, z.1, y⟩
  have e8 : P2 1 8 = nI nv := by rw [fI 1 8 (by omega) (by omega) (by omega)]; exact hV.2.1
  have e18 : Q2 74 18 = nI nv := by rw [fJ 74 18 (by omega) (by omega)]; exact hV.2.2.1
  rw [e8, e18, cl (show nv < 2 ^ 31 by omega)]
  have B2 : kB 1 nc P2 Q2 := by
    intro c' hc'
    by_cases z : c' = c
    · subst z
      left
      refine ⟨by rw [pJ, if_pos ⟨rfl, rfl⟩], fun i hi => ?_⟩
      rw [pI, pI, if_pos (by omega), if_neg (by omega), if_pos (by omega)]
      exact ⟨rfl, rfl⟩
    · have eP5 : ∀ i, i < 3 → P2 (1 + 5) (3 * c' + i) = I (1 + 5) (3 * c' + i) := fun i hi => by
        rw [pI, if_neg (by omega), if_neg (by omega), hI, if_neg (by omega)]
      have eP6 : ∀ i, i < 3 → P2 (1 + 6) (3 * c' + i) = I (1 + 6) (3 * c' + i) := fun i hi => by
        rw [pI, if_neg (by omega), if_neg (by omega), hI, if_neg (by omega)]
      have eQ : Q2 83 c' = J 83 c' := by rw [pJ, if_neg (by omega), hJ, if_neg (by omega)]
      rw [eQ]
      rcases hB c' hc' with ⟨b0, bb⟩ | ⟨b1, bb⟩
      · left
        refine ⟨b0, fun i hi => ?_⟩
        rw [eP5 i hi, eP6 i hi]
        exact bb i hi
      · right
        refine ⟨b1, fun i hi => ?_⟩
        rw [eP5 i hi, eP6 i hi, fJ 81 (3 * c' + i) (by omega) (by omega), fJ 82 (3 * c' + i) (by omega) (by omega)]
        exact bb i hi
  have N2 : kNk nv nc c 0 Q2 := by
    intro w hw c' hc' ho e1
    have z : c' ≠ c := by omega
    rw [w86] at e1
    have e2 : J 86 w = nI c' := by
      by_cases y : w < nv ∧ J 86 w = nI c ∧ J 87 w = 1
      · rw [if_pos y] at e1
        exact absurd e1.symm (nIm1 (by omega))
      · rw [if_neg y] at e1
        exact e1
    have y := hN w hw c' hc' e2
    have eQ : Q2 83 c' = J 83 c' := by rw [pJ, if_neg (by omega), hJ, if_neg (by omega)]
    rw [eQ]
    refine ⟨y.1, fun i hi => ?_⟩
    rw [fJ 81 (3 * c' + i) (by omega) (by omega), fJ 82 (3 * c' + i) (by omega) (by omega), fJ 84 (3 * w + i) (by omega) (by omega)]
    exact y.2 i hi
  have P2' : kP 1 P2 Q2 := kP_cg hP (fun k _ => fI (1 + 7) k (by omega) (by omega) (by omega)) (fun k _ => fJ 84 k (by omega) (by omega))
  have key := come_all h12 h4 hc B2 P2' w9 N2
  have g4 : gl_72_13 P2 1 (nI c) nv := by
    refine ⟨fun k hk => ⟨?_, vin (by omega) (by omega), fun _ => (g_come (J := J) (by omega) (by omega)).1⟩, ?_⟩
    · exact (key k (by omega)).2.2.1 1 8 (by omega) (by omega)
    · exact (key nv (by omega)).2.2.1 1 8 (by omega) (by omega)
  have g5 : gl_229_26 Q2 (nI c) nv := by
    refine ⟨fun k hk => ⟨?_, vin (by omega) (by omega), fun _ => (g_come (I := I) (b := 1) (by omega) (by omega)).2⟩, ?_⟩
    · exact (key k (by omega)).2.2.2 74 18 (by omega) (by omega) (by omega)
    · exact (key nv (by omega)).2.2.2 74 18 (by omega) (by omega) (by omega)
  have kk := key nv (by omega)
  generalize lp_72_13 P2 1 (nI c) nv = P3 at kk
  generalize lp_229_26 Q2 (nI c) nv = Q3 at kk
  obtain ⟨k1, k2, k3, k4⟩ := kk
  have FI : ∀ q j, q ≠ 1 + 5 → q ≠ 1 + 6 → q ≠ 1 + 9 → P3 q j = I q j := fun q j a1 a2 a3 => by
    rw [k3 q j a1 a2, fI q j a1 a2 a3]
  have FJ : ∀ q j, q ≠ 81 → q ≠ 82 → q ≠ 83 → q ≠ 86 → Q3 q j = J q j := fun q j a1 a2 a3 a4 => by
    rw [k4 q j a1 a2 a3, fJ q j a3 a4]
  refine ⟨fun _ => ⟨g1, g3, g4⟩, fun _ => ⟨g2, vin (by omega) (by omega), g5⟩, hn, ?_⟩
  refine ⟨kA_cg hA (fun c' k' _ => FI c' k' (by omega) (by omega) (by omega)) (fun k' _ => FJ 78 k' (by omega) (by omega) (by omega) (by omega)), kQ_cg hQ (fun k' _ => FI (1 + 3) k' (by omega) (by omega) (by omega)) (fun k' _ => FJ 79 k' (by omega) (by omega) (by omega) (by omega)), kC_cg hC (fun c' k' _ => FI c' k' (by omega) (by omega) (by omega)) (fun c' k' _ => FJ c' k' (by omega) (by omega) (by omega) (by omega)), k1, kP_cg hP (fun k' _ => FI (1 + 7) k' (by omega) (by omega) (by omega)) (fun k' _ => FJ 84 k' (by omega) (by omega) (by omega) (by omega)), ?_, ?_, ?_, r, hr1, ?_⟩
  · obtain ⟨v1, v2, v3, v4, v5, v6, m, v7, v8, v9⟩ := hV
    have W : ∀ j, Q3 86 j = if j < nv ∧ J 86 j = nI c ∧ J 87 j = 1 then -1 else J 86 j := fun j => by
      rw [k4 86 j (by omega) (by omega) (by omega), w86]
    have E7 : ∀ j, Q3 87 j = J 87 j := fun j => FJ 87 j (by omega) (by omega) (by omega) (by omega)
    refine ⟨v1, ?_, ?_, fun v hv => ?_, fun v hv => ?_, fun v hv => ?_, m, v7, ?_, fun v hv => ?_⟩
    · rw [FI 1 8 (by omega) (by omega) (by omega)]; exact v2
    · rw [FJ 74 18 (by omega) (by omega) (by omega) (by omega)]; exact v3
    · rw [FI (1 + 8) v (by omega) (by omega) (by omega), FJ 85 v (by omega) (by omega) (by omega) (by omega), k3 (1 + 9) v (by omega) (by omega), k4 86 v (by omega) (by omega) (by omega), w9 v hv]
      exact ⟨(v4 v hv).1, (v4 v hv).2.1, rfl⟩
    · rw [W, E7]
      by_cases y : v < nv ∧ J 86 v = nI c ∧ J 87 v = 1
      · rw [if_pos y]
        exact Or.inl ⟨rfl, y.2.2⟩
      · rw [if_neg y]
        exact v5 v hv
    · rw [E7]; exact v6 v hv
    · rw [FI 1 12 (by omega) (by omega) (by omega)]; exact v8
    · rw [E7]; exact v9 v hv
  · intro w hw c' hc' e1
    exact k2 w hw c' hc' (Or.inr hw) e1
  · rw [FI 1 2 (by omega) (by omega) (by omega), FJ 74 4 (by omega) (by omega) (by omega) (by omega)]; exact hr
  · rw [FJ 74 4 (by omega) (by omega) (by omega) (by omega)]; exact hr2
end
