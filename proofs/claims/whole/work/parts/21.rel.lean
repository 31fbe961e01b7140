section
/-! a shelf of the class's (at b, in I) and the reference's state (in J) -/
def kA (b : Nat) (I J : WI) : Prop := (I b 1 = J 78 0 ∧ I (b + 1) 1 = J 78 1 ∧ I (b + 1) 2 = J 78 2 ∧ I (b + 1) 0 = J 78 3 ∧ ∀ i, i < 3 → I (b + 2) i = J 78 (4 + i)) ∧ (bt 1 64 (J 78 0) ∧ bt 0 99 (J 78 1) ∧ bt 0 999999 (J 78 2) ∧ bt 0 5 (J 78 3) ∧ ∀ i, i < 3 → bt 1 9 (J 78 (4 + i)))
def kQ (b : Nat) (I J : WI) : Prop := ∀ i, i < 3 → I (b + 3) i = J 79 i ∧ bt (-999) 999 (J 79 i)
def kC (b nc : Nat) (I J : WI) : Prop := nc ≤ 4 ∧ I b 4 = nI nc ∧ J 74 13 = nI nc ∧ ∀ i, i < 12 → I (b + 4) i = J 80 i ∧ bt (-999) 999 (J 80 i)
def kB (b nc : Nat) (I J : WI) : Prop := ∀ c, c < nc → (J 83 c = 0 ∧ ∀ i, i < 3 → I (b + 5) (3 * c + i) = 1000 ∧ I (b + 6) (3 * c + i) = -1000) ∨
  (J 83 c = 1 ∧ ∀ i, i < 3 → I (b + 5) (3 * c + i) = J 81 (3 * c + i) ∧ I (b + 6) (3 * c + i) = J 82 (3 * c + i) ∧ -999 ≤ (J 81 (3 * c + i)).toInt ∧ (J 81 (3 * c + i)).toInt ≤ (J 82 (3 * c + i)).toInt ∧ (J 82 (3 * c + i)).toInt ≤ 999)
def kP (b : Nat) (I J : WI) : Prop := ∀ i, i < 36 → I (b + 7) i = J 84 i ∧ bt (-999) 999 (J 84 i)
def kV (b nv nc : Nat) (I J : WI) : Prop := nv ≤ 12 ∧ I b 8 = nI nv ∧ J 74 18 = nI nv ∧ (∀ v, v < 12 → I (b + 8) v = J 85 v ∧ bt (-99) 99 (J 85 v) ∧ I (b + 9) v = J 86 v) ∧
  (∀ v, v < nv → (J 86 v = -1 ∧ J 87 v = 1) ∨ ∃ c, c < nc ∧ J 86 v = nI c) ∧ (∀ v, v < nv → J 87 v = 0 ∨ J 87 v = 1) ∧ ∃ m : Nat, m < 2 ^ nv ∧ I b 12 = nI m ∧ ∀ v, v < nv → m.testBit v = decide (J 87 v = 0)
def kN (nv nc : Nat) (J : WI) : Prop := ∀ v, v < nv → ∀ c, c < nc → J 86 v = nI c → J 83 c = 1 ∧ ∀ i, i < 3 → (J 81 (3 * c + i)).toInt ≤ (J 84 (3 * v + i)).toInt ∧ (J 84 (3 * v + i)).toInt ≤ (J 82 (3 * c + i)).toInt
section
variable {b nv nc : Nat} {I J : WI}
/-- how far a vector is from a centre, in squares -/
theorem sq_eq (hc : kC b nc I J) (hp : kP b I J) {v c : Nat} (hv : v < 12) (hcc : c < 4) (a : Int32) : ∀ k, k ≤ 3 → lp_59_5 I b (nI v) (nI c) a k = lp_176_22 J (nI v) (nI c) a k := by
  intro k
  induction k with
  | zero => intro _; rfl
  | succ k ih =>
    intro hk
    simp only [lp_59_5, lp_176_22, bx, ih (by omega), n3, cl (show 3 * v + k < 2 ^ 31 by omega), cl (show 3 * c + k < 2 ^ 31 by omega), (hp (3 * v + k) (by omega)).1, (hc.2.2.2 (3 * c + k) (by omega)).1]
theorem near_lp (hc : kC b nc I J) (hp : kP b I J) {v : Nat} (hv : v < 12) (a2 a3 : Int32) : ∀ k, k ≤ 4 → lp_58_7 I b (nI v) a2 a3 k = lp_176_7 J (nI v) a2 a3 k := by
  intro k
  induction k with
  | zero => intro _; rfl
  | succ k ih =>
    intro hk
    have e : v_59 I b (nI v) (nI k) = lp_176_22 J (nI v) (nI k) 0 3 := by
      unfold v_59
      simp only [bx, c3]
      exact sq_eq hc hp hv (by omega) 0 3 (Nat.le_refl _)
    simp only [lp_58_7, lp_176_7, bx, ih (by omega), e, c3]
theorem near_eq (hc : kC b nc I J) (hp : kP b I J) {v : Nat} (hv : v < 12) : v_58 I b (nI v) = v_176 J (nI v) := by
  unfold v_58 v_176
  have h4 := hc.1
  simp only [bx, hc.2.1, hc.2.2.1, cl (show nc < 2 ^ 31 by omega), near_lp hc hp hv _ _ nc h4]
/-- the nearest cell is one, if there is any -/
theorem near_in (hc : kC b nc I J) {v : Nat} (hn : 0 < nc) : ∃ c, c < nc ∧ v_176 J (nI v) = nI c := by
  have h4 := hc.1
  have key : ∀ k, k ≤ 4 → 0 < k → ∃ c, c < k ∧ (lp_176_7 J (nI v) (-1) 0 k).1 = nI c := by
    intro k
    induction k with
    | zero => intro _ h; omega
    | succ k ih =>
      intro hk _
      simp only [lp_176_7, bx]
      by_cases hk0 : k = 0
      · subst hk0
        exact ⟨0, by omega, by simp [lp_176_7]⟩
      · obtain ⟨c, h1, h2⟩ := ih (by omega) (by omega)
        have hne : ¬ nI c = -1 := by
          intro e
          have := congrArg Int32.toInt e
          rw [nI_toInt (by omega)] at this
          have e1 : (-1 : Int32).toInt = -1 := by decide
          omega
        rw [h2, if_neg hne]
        split
        · exact ⟨c, by omega, rfl⟩
        · exact ⟨k, by omega, rfl⟩
  unfold v_176
  simp only [bx, hc.2.2.1, cl (show nc < 2 ^ 31 by omega)]
  exact key nc h4 hn
theorem g_near (hc : kC b nc I J) {v : Nat} (hv : v < 12) : g_58 I b (nI v) ∧ g_176 J (nI v) := by
  have h4 := hc.1
  constructor
  · unfold g_58 gl_58_7
    simp only [bx, hc.2.1, cl (show nc < 2 ^ 31 by omega)]
    intro k hk
    unfold g_59 gl_59_5
    simp only [bx, c3]
    intro i hi
    simp only [n3]
    exact ⟨vin (by omega) (by omega), vin (by omega) (by omega)⟩
  · unfold g_176 gl_176_7
    simp only [bx, hc.2.2.1, cl (show nc < 2 ^ 31 by omega)]
    intro k hk
    unfold gl_176_22
    simp only [bx, c3]
    intro i hi
    simp only [n3]
    exact ⟨vin (by omega) (by omega), vin (by omega) (by omega)⟩
end
end
