section
variable {b nv nc tc : Nat} {I J P : WI}
/-! fewest that cover -/
/-- the class's rows -/
theorem rowC (hA : kA b I J) (hP : kP b I J) (h12 : nv ≤ 12) {v : Nat} (hv : v < 12) (x : Int32) : ∀ k, k ≤ nv → ∃ c, c < 2 ^ k ∧ lp_9_6 I b (nI v) x 0 k = nI c ∧ ∀ j, j < k → (c.testBit j = true ↔ ¬ x < v_183 J (nI v) (nI j)) := by
  intro k
  induction k with
  | zero => intro _; exact ⟨0, by decide, rfl, fun j hj => by omega⟩
  | succ k ih =>
    intro hk
    obtain ⟨c, h1, h2, h3⟩ := ih (by omega)
    rw [lp_9_6, h2, betw_eq hA hP hv (show k < 12 by omega)]
    simp only [bx]
    rw [orc _ (show k < 12 by omega)]
    obtain ⟨t, t1, t2, t3, t4⟩ := orb (P := x < v_183 J (nI v) (nI k)) h1 (show k < 12 by omega)
    refine ⟨t, t1, t2, fun j hj => ?_⟩
    by_cases y : j = k
    · subst y; exact t4
    · rw [t3 j (by omega)]; exact h3 j (by omega)
theorem rowsC (hA : kA b I J) (hP : kP b I J) (h12 : nv ≤ 12) (hb : b + 10 ≤ 43) (h8 : I b 8 = nI nv) (x : Int32) : ∀ k, k ≤ nv → (∀ q j, q ≠ 43 → lp_8_2 I b x k q j = I q j) ∧
    (∀ v, v < k → ∃ c, c < 2 ^ nv ∧ lp_8_2 I b x k 43 v = nI c ∧ ∀ j, j < nv → (c.testBit j = true ↔ ¬ x < v_183 J (nI v) (nI j))) := by
  intro k
  induction k with
  | zero => intro _; exact ⟨fun _ _ _ => rfl, fun v hv => by omega⟩
  | succ k ih =>
    intro hk
    obtain ⟨h1, h2⟩ := ih (by omega)
    rw [lp_8_2]
    revert h1 h2
    generalize lp_8_2 I b x k = P
    intro h1 h2
    simp only [bx]
    have hA' : kA b P J := kA_cg hA (fun c k hh => h1 c k (by omega)) (fun _ _ => rfl)
    have hP' : kP b P J := kP_cg hP (fun k _ => h1 _ k (by omega)) (fun _ _ => rfl)
    have e9 : v_9 P b (nI k) x = lp_9_6 P b (nI k) x 0 nv := by
      unfold v_9
      rw [h1 b 8 (by omega), h8, cl (show nv < 2 ^ 31 by omega)]
      rfl
    refine ⟨fun q j hq => ?_, fun v hv => ?_⟩
    · rw [up2_nk (fun z => hq z.1)]; exact h1 q j hq
    · by_cases y : v = k
      · subst y
        obtain ⟨c, c1, c2, c3⟩ := rowC hA' hP' h12 (show v < 12 by omega) x nv (Nat.le_refl _)
        refine ⟨c, c1, ?_, c3⟩
        rw [cl (show v < 2 ^ 31 by omega), e9, c2]
        simp [up2]
      · rw [up2_nk (fun z => y (by have := z.2; rw [cl (show k < 2 ^ 31 by omega)] at this; exact this))]
        exact h2 v (by omega)
/-- the union of a set's rows -/
theorem unionC {s : Nat} {R : Nat → Nat} (hs : s < 4096) (hR : ∀ v, v < 12 → s.testBit v = true → P 43 v = nI (R v) ∧ R v < 4096) : ∀ k, k ≤ 12 → ∃ u, u < 4096 ∧ lp_10_5 P (nI s) 0 k = nI u ∧ ∀ j, (u.testBit j = true ↔ ∃ v, v < k ∧ s.testBit v = true ∧ (R v).testBit j = true) := by
  intro k
  induction k with
  | zero => intro _; exact ⟨0, by decide, rfl, fun j => by simp⟩
  | succ k ih =>
    intro hk
    obtain ⟨u, h1, h2, h3⟩ := ih (by omega)
    rw [lp_10_5, h2]
    simp only [bx, cl (show k < 2 ^ 31 by omega)]
    by_cases y : s.testBit k = true
    · have y2 : ¬ v_111 (nI s) (nI k) = 0 := fun q => by
        rw [(v111_0 hs (show k < 12 by omega)).mp q] at y
        exact absurd y (by decide)
      obtain ⟨r1, r2⟩ := hR k (by omega) y
      rw [if_neg y2, r1, ← nI_or]
      refine ⟨u ||| R k, Nat.or_lt_two_pow (n := 12) h1 r2, rfl, fun j => ?_⟩
      rw [Nat.testBit_or, Bool.or_eq_true, h3 j]
      constructor
      · rintro (⟨v, a1, a2, a3⟩ | a)
        · exact ⟨v, by omega, a2, a3⟩
        · exact ⟨k, by omega, y, a⟩
      · rintro ⟨v, a1, a2, a3⟩
        by_cases z : v = k
        · subst z; exact Or.inr a3
        · exact Or.inl ⟨v, by omega, a2, a3⟩
    · have y0 : s.testBit k = false := by simpa using y
      rw [if_pos ((v111_0 hs (show k < 12 by omega)).mpr y0)]
      refine ⟨u, h1, rfl, fun j => ?_⟩
      rw [h3 j]
      constructor
      · rintro ⟨v, a1, a2, a3⟩
        exact ⟨v, by omega, a2, a3⟩
      · rintro ⟨v, a1, a2, a3⟩
        by_cases z : v = k
        · subst z; exact absurd a2 y
        · exact ⟨v, by omega, a2, a3⟩
/-- each of a mask is near to one of a set -/
def cov (nv m s : Nat) (J : WI) (x : Int32) : Prop := ∀ v, v < nv → m.testBit v = true → ∃ w, w < nv ∧ s.testBit w = true ∧ ¬ x < v_183 J (nI v) (nI w)
theorem covC {x : Int32} {m s : Nat} (h12 : nv ≤ 12) (hm : m < 2 ^ nv) (hs : ∀ j, s.testBit j = true → m.testBit j = true) (hrow : ∀ v, v < nv → ∃ c, c < 2 ^ nv ∧ P 43 v = nI c ∧ ∀ j, j < nv → (c.testBit j = true ↔ ¬ x < v_183 J (nI v) (nI j))) :
    v_10 P (nI s) (nI m) = 1 ∧ cov nv m s J x ∨ v_10 P (nI s) (nI m) = 0 ∧ ¬ cov nv m s J x := by
  have hs2 : s < 2 ^ nv := Nat.lt_of_le_of_lt (sub_le hs) hm
  have hsn : ∀ v, s.testBit v = true → v < nv := fun v hv => by
    refine Nat.lt_of_not_le fun q => ?_
    rw [tb_hi hs2 q] at hv
    exact absurd hv (by decide)
  have hR : ∃ R : Nat → Nat, ∀ v, v < nv → R v < 2 ^ nv ∧ P 43 v = nI (R v) ∧ ∀ j, j < nv → ((R v).testBit j = true ↔ ¬ x < v_183 J (nI v) (nI j)) := by
    refine ⟨fun v => if h : v < nv then Classical.choose (hrow v h) else 0, fun v hv => ?_⟩
    simp only [dif_pos hv]
    exact Classical.choose_spec (hrow v hv)
  obtain ⟨R, hR⟩ := hR
  obtain ⟨u, u1, u2, u3⟩ := unionC (P := P) (R := R) (p12 hs2 h12) (fun v _ hv => ⟨(hR v (hsn v hv)).2.1, p12 (hR v (hsn v hv)).1 h12⟩) 12 (Nat.le_refl _)
  have e : v_10 P (nI s) (nI m) = if ¬ m &&& u = m then 0 else 1 := by
    unfold v_10
    rw [show (12 : Int32).toNatClampNeg = 12 from rfl, u2]
    simp only [bx]
    rw [← nI_and]
    have hq : nI (u &&& m) = nI m ↔ m &&& u = m := by
      rw [nI_eq (by have : u &&& m ≤ u := Nat.and_le_left; omega) (by have := p12 hm h12; omega), Nat.and_comm]
    exact ifc (not_congr hq)
  have key : m &&& u = m ↔ cov nv m s J x := by
    rw [and_sub]
    constructor
    · intro h v hv hmv
      obtain ⟨w, w1, w2, w3⟩ := (u3 v).mp (h v hmv)
      refine ⟨w, hsn w w2, w2, ?_⟩
      rw [betw_sym]
      exact ((hR w (hsn w w2)).2.2 v hv).mp w3
    · intro h v hmv
      have hv : v < nv := Nat.lt_of_not_le fun q => by
        rw [tb_hi hm q] at hmv
        exact absurd hmv (by decide)
      obtain ⟨w, w1, w2, w3⟩ := h v hv hmv
      refine (u3 v).mpr ⟨w, by omega, w2, ?_⟩
      rw [betw_sym] at w3
      exact ((hR w w1).2.2 v hv).mpr w3
  rw [e]
  by_cases z : m &&& u = m
  · rw [if_neg (fun q => q z)]; exact Or.inl ⟨rfl, key.mp z⟩
  · rw [if_pos z]; exact Or.inr ⟨rfl, fun q => z (key.mpr q)⟩
/-- the reference's rows -/
theorem rowR (hA : kA b I J) (hP : kP b I J) (hV : kV b nv nc I J) (h4 : nc ≤ 4) {Q : WI} (hQ : ∀ q j, q ≠ 100 → Q q j = J q j) {v : Nat} (hv : v < nv) (hQ0 : Q 100 v = 0) (x : Int32) : ∀ k, k ≤ nv → (∀ q j, ¬ (q = 100 ∧ j = v) → lp_250_70 Q x (nI v) k q j = Q q j) ∧ ∃ c, c < 2 ^ k ∧ lp_250_70 Q x (nI v) k 100 v = nI c ∧ ∀ j, j < k → (c.testBit j = true ↔ ¬ v_180 J (nI j) = 0 ∧ ¬ x < v_183 J (nI v) (nI j)) := by
  have h12 := hV.1
  intro k
  induction k with
  | zero => intro _; exact ⟨fun _ _ _ => rfl, 0, by decide, hQ0, fun j hj => by omega⟩
  | succ k ih =>
    intro hk
    obtain ⟨h1, c, h2, h3, h4'⟩ := ih (by omega)
    rw [lp_250_70]
    revert h1 h3
    generalize lp_250_70 Q x (nI v) k = p
    intro h1 h3
    have hp : ∀ q j, q ≠ 100 → p q j = J q j := fun q j hq => by rw [h1 q j (fun z => hq z.1)]; exact hQ q j hq
    have hA' : kA b I p := kA_cg hA (fun _ _ _ => rfl) (fun k _ => hp _ k (by omega))
    have hP' : kP b I p := kP_cg hP (fun _ _ => rfl) (fun k _ => hp _ k (by omega))
    have hV' : kV b nv nc I p := kV_cg hV (fun _ _ _ => rfl) (fun c k _ => hp c k (by omega))
    have e1 : v_183 p (nI v) (nI k) = v_183 J (nI v) (nI k) := by rw [← betw_eq hA' hP' (by omega) (by omega), betw_eq hA hP (by omega) (by omega)]
    have e2 : v_180 p (nI k) = v_180 J (nI k) := by rw [← (there_eq hV' h4 (v := k) (by omega)).1, (there_eq hV h4 (v := k) (by omega)).1]
    have e3 : (if v_180 p (nI k) = 0 then (0 : Int32) else (if x < v_183 p (nI v) (nI k) then 0 else 1)) = if ¬ (¬ v_180 J (nI k) = 0 ∧ ¬ x < v_183 J (nI v) (nI k)) then 0 else 1 := by
      rw [e1, e2]
      by_cases y : v_180 J (nI k) = 0
      · rw [if_pos y, if_pos (fun z => z.1 y)]
      · rw [if_neg y]
        by_cases w : x < v_183 J (nI v) (nI k)
        · rw [if_pos w, if_pos (fun z => z.2 w)]
        · rw [if_neg w, if_neg (fun z => z ⟨y, w⟩)]
    have e4 : bx p (fun p3 => bx ((if v_180 p3 (nI k) = 0 then 0 else if x < v_183 p3 (nI v) (nI k) then 0 else 1) : Int32) fun p4 => up2 p3 100 (nI v).toNatClampNeg (p3 100 (nI v).toNatClampNeg ||| p4 <<< (nI k &&& 31))) = up2 p 100 v (p 100 v ||| ((if ¬ (¬ v_180 J (nI k) = 0 ∧ ¬ x < v_183 J (nI v) (nI k)) then 0 else 1 : Int32) <<< (nI k &&& 31))) := by
      simp only [bx]
      rw [e3, cl (show v < 2 ^ 31 by omega)]
    rw [e4, h3]
    obtain ⟨t, t1, t2, t3, t4⟩ := orb (P := ¬ (¬ v_180 J (nI k) = 0 ∧ ¬ x < v_183 J (nI v) (nI k))) h2 (show k < 12 by omega)
    rw [t2]
    refine ⟨fun q j hq => by rw [up2_nk hq]; exact h1 q j hq, t, t1, by simp [up2], fun j hj => ?_⟩
    by_cases y : j = k
    · subst y
      rw [t4]
      exact Classical.not_not
    · rw [t3 j (by omega)]; exact h4' j (by omega)
theorem rowsR (hA : kA b I J) (hP : kP b I J) (hV : kV b nv nc I J) (h4 : nc ≤ 4) (x : Int32) : ∀ k, k ≤ nv → (∀ q j, q ≠ 100 → (lp_250_30 J x 0 k).2 q j = J q j) ∧ (∃ t, t < 2 ^ k ∧ (lp_250_30 J x 0 k).1 = nI t ∧ ∀ j, j < k → (t.testBit j = true ↔ ¬ v_180 J (nI j) = 0)) ∧
    ∀ v, v < k → ∃ c, c < 2 ^ nv ∧ (lp_250_30 J x 0 k).2 100 v = nI c ∧ ∀ j, j < nv → (c.testBit j = true ↔ ¬ v_180 J (nI j) = 0 ∧ ¬ x < v_183 J (nI v) (nI j)) := by
  have h12 := hV.1
  intro k
  induction k with
  | zero => intro _; exact ⟨fun _ _ _ => rfl, ⟨0, by decide, rfl, fun j hj => by omega⟩, fun v hv => by omega⟩
  | succ k ih =>
    intro hk
    obtain ⟨h1, ⟨t, g1, g2, g3⟩, h3⟩ := ih (by omega)
    rw [lp_250_30]
    revert h1 g2 h3
    generalize lp_250_30 J x 0 k = p
    intro h1 h3 g2
    simp only [bx, cl (show k < 2 ^ 31 by omega)]
    have hQ : ∀ q j, q ≠ 100 → up2 p.2 100 k 0 q j = J q j := fun q j hq => by rw [up2_nk (fun z => hq z.1)]; exact h1 q j hq
    have hV' : kV b nv nc I p.2 := kV_cg hV (fun _ _ _ => rfl) (fun c k _ => h1 c k (by omega))
    have e2 : v_180 p.2 (nI k) = v_180 J (nI k) := by rw [← (there_eq hV' h4 (v := k) (by omega)).1, (there_eq hV h4 (v := k) (by omega)).1]
    have e18 : up2 p.2 100 k 0 74 18 = nI nv := by rw [hQ 74 18 (by omega)]; exact hV.2.2.1
    obtain ⟨r1, c, r2, r3, r4⟩ := rowR hA hP hV h4 hQ (show k < nv by omega) (by simp [up2]) x nv (Nat.le_refl _)
    rw [e18, cl (show nv < 2 ^ 31 by omega)]
    refine ⟨fun q j hq => by rw [r1 q j (fun z => hq z.1)]; exact hQ q j hq, ?_, fun v hv => ?_⟩
    · obtain ⟨t', t1, t2, t3, t4⟩ := orb (P := v_180 J (nI k) = 0) g1 (show k < 12 by omega)
      refine ⟨t', t1, ?_, fun j hj => ?_⟩
      · rw [g2, e2]; exact t2
      · by_cases y : j = k
        · subst y; exact t4
        · rw [t3 j (by omega)]; exact g3 j (by omega)
    · by_cases y : v = k
      · subst y; exact ⟨c, r2, r3, r4⟩
      · obtain ⟨c', c1, c2, c3⟩ := h3 v (by omega)
        refine ⟨c', c1, ?_, c3⟩
        rw [r1 100 v (fun z => y z.2), up2_nk (fun z => y z.2)]
        exact c2
theorem covR_lp {Q : WI} {x : Int32} {m s : Nat} (h12 : nv ≤ 12) (h18 : Q 74 18 = nI nv) (h180 : ∀ v, v < nv → v_180 Q (nI v) = v_180 J (nI v)) (hm2 : m < 2 ^ nv) (hm : ∀ v, v < nv → (m.testBit v = true ↔ ¬ v_180 J (nI v) = 0)) (hs : ∀ j, s.testBit j = true → m.testBit j = true)
    (hrow : ∀ v, v < nv → ∃ c, c < 2 ^ nv ∧ Q 100 v = nI c ∧ ∀ j, j < nv → (c.testBit j = true ↔ ¬ v_180 J (nI j) = 0 ∧ ¬ x < v_183 J (nI v) (nI j))) : ∀ d k f, k + d = nv → d < f →
    gl_252_2 Q (nI s) f (nI k) ∧ (lp_252_2 Q (nI s) f (nI k) = 1 ∧ (∀ v, k ≤ v → v < nv → m.testBit v = true → ∃ w, w < nv ∧ s.testBit w = true ∧ ¬ x < v_183 J (nI v) (nI w)) ∨
      lp_252_2 Q (nI s) f (nI k) = 0 ∧ ¬ (∀ v, k ≤ v → v < nv → m.testBit v = true → ∃ w, w < nv ∧ s.testBit w = true ∧ ¬ x < v_183 J (nI v) (nI w))) := by
  have hs2 : s < 2 ^ nv := Nat.lt_of_le_of_lt (sub_le hs) hm2
  intro d
  induction d with
  | zero =>
    intro k f hk hf
    obtain ⟨f, rfl⟩ : ∃ g, f = g + 1 := ⟨f - 1, by omega⟩
    have c : nI nv ≤ nI k := nI_le (by omega) (by omega)
    rw [lp_252_2, gl_252_2, h18, if_pos c]
    exact ⟨fun q => absurd c q, Or.inl ⟨rfl, fun v _ _ => by omega⟩⟩
  | succ d ih =>
    intro k f hk hf
    obtain ⟨f, rfl⟩ : ∃ g, f = g + 1 := ⟨f - 1, by omega⟩
    obtain ⟨i1, i2⟩ := ih (k + 1) f (by omega) (by omega)
    have c : ¬ nI nv ≤ nI k := by rw [nI_leI (by omega) (by omega)]; omega
    rw [lp_252_2, gl_252_2, h18, if_neg c, h180 k (by omega), nI_1, cl (show k < 2 ^ 31 by omega)]
    have ext : (m.testBit k = true → ∃ w, w < nv ∧ s.testBit w = true ∧ ¬ x < v_183 J (nI k) (nI w)) → ((∀ v, k + 1 ≤ v → v < nv → m.testBit v = true → ∃ w, w < nv ∧ s.testBit w = true ∧ ¬ x < v_183 J (nI v) (nI w)) ↔ ∀ v, k ≤ v → v < nv → m.testBit v = true → ∃ w, w < nv ∧ s.testBit w = true ∧ ¬ x < v_183 J (nI v) (nI w)) := by
      intro h
      constructor
      · intro g v v1 v2 v3
        by_cases y : v = k
        · subst y; exact h v3
        · exact g v (by omega) v2 v3
      · intro g v v1 v2 v3
        exact g v (by omega) v2 v3
    obtain ⟨c', c1, c2, c3⟩ := hrow k (by omega)
    have hz : (Q 100 k &&& nI s = 0) ↔ ¬ ∃ w, w < nv ∧ s.testBit w = true ∧ ¬ x < v_183 J (nI k) (nI w) := by
      have le : c' &&& s ≤ c' := Nat.and_le_left
      have := p12 c1 h12
      rw [c2, ← nI_and, show (0 : Int32) = nI 0 from rfl, nI_eq (by omega) (by omega)]
      constructor
      · rintro z ⟨w, w1, w2, w3⟩
        have q := (c3 w w1).mpr ⟨(hm w w1).mp (hs w w2), w3⟩
        have := congrArg (fun y => Nat.testBit y w) z
        simp only [Nat.testBit_and, q, w2, Nat.zero_testBit] at this
        exact absurd this (by decide)
      · intro z
        refine Nat.eq_of_testBit_eq fun j => ?_
        rw [Nat.zero_testBit, Nat.testBit_and]
        by_cases hj : j < nv
        · by_cases y1 : c'.testBit j = true
          · by_cases y2 : s.testBit j = true
            · exact absurd ⟨j, hj, y2, ((c3 j hj).mp y1).2⟩ z
            · simp only [Bool.not_eq_true] at y2
              rw [y2]; simp
          · simp only [Bool.not_eq_true] at y1
            rw [y1]; simp
        · rw [tb_hi hs2 (by omega)]; simp
    by_cases y : v_180 J (nI k) = 0
    · rw [if_pos y]
      have := ext (fun q => absurd y ((hm k (by omega)).mp q))
      rw [← this]
      exact ⟨fun _ => ⟨g180 (by omega), fun _ => i1, fun q => absurd y q⟩, i2⟩
    · rw [if_neg y]
      by_cases z : Q 100 k &&& nI s = 0
      · rw [if_neg (fun q => q z)]
        refine ⟨fun _ => ⟨g180 (by omega), fun q => absurd q y, fun _ => ⟨vin (by omega) (by omega), fun q => absurd z q⟩⟩, Or.inr ⟨rfl, fun g => ?_⟩⟩
        exact hz.mp z (g k (Nat.le_refl _) (by omega) ((hm k (by omega)).mpr y))
      · rw [if_pos z]
        have := ext (fun _ => Classical.not_not.mp (fun q => z (hz.mpr q)))
        rw [← this]
        exact ⟨fun _ => ⟨g180 (by omega), fun q => absurd q y, fun _ => ⟨vin (by omega) (by omega), fun _ => i1⟩⟩, i2⟩
end
