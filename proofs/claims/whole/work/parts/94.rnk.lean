section
variable {J : WI} {P : Nat → Bool} {ro : Int32} {nv : Nat}
/-! the one that so many are ahead of -/
def fg (J : WI) (v : Nat) : Int := (J 96 v).toInt
theorem v242_aB {k x : Nat} (hk : k < 12) (hx : x < 12) : v_242 J (nI k) (nI x) = if aB (fg J) k x = true then 1 else 0 := by
  unfold v_242
  rw [cl (by omega), cl (by omega)]
  have e : aB (fg J) k x = true ↔ (J 96 k).toInt < (J 96 x).toInt ∨ (J 96 k).toInt = (J 96 x).toInt ∧ k < x := aB_iff
  by_cases a : J 96 k < J 96 x
  · rw [if_pos a, if_pos (e.mpr (Or.inl (Int32.lt_iff_toInt_lt.mp a)))]
  · rw [if_neg a]
    rw [Int32.lt_iff_toInt_lt] at a
    by_cases c : J 96 k = J 96 x
    · rw [if_neg (fun w => w c)]
      have c' : (J 96 k).toInt = (J 96 x).toInt := by rw [c]
      by_cases d : nI x ≤ nI k
      · rw [if_pos d, if_neg]
        rw [e]
        rw [Int32.le_iff_toInt_le, nI_toInt (by omega), nI_toInt (by omega)] at d
        omega
      · rw [if_neg d, if_pos]
        rw [e]
        rw [Int32.le_iff_toInt_le, nI_toInt (by omega), nI_toInt (by omega)] at d
        omega
    · rw [if_pos c, if_neg]
      rw [e]
      have c' : ¬ (J 96 k).toInt = (J 96 x).toInt := fun w => c (Int32.toInt_inj.mp w)
      omega
theorem g242 {k x : Nat} (hk : k < 12) (hx : x < 12) : g_242 J (nI k) (nI x) :=
  ⟨vin hk (by omega), vin hx (by omega), fun _ => ⟨vin hk (by omega), vin hx (by omega)⟩⟩
theorem ahead_lp (h12 : nv ≤ 12) (hP : ∀ v, v < nv → (P v = true ↔ ¬ J 97 v = 0 ∧ (ro = 0 ∨ ¬ J 98 v = 0))) {x : Nat} (hx : x < 12) : ∀ k, k ≤ nv → lp_241_16 J ro (nI x) 0 k = nI (ctr P (fg J) x k) := by
  intro k
  induction k with
  | zero => intro _; rfl
  | succ k ih =>
    intro hk
    have ek : (nI k).toNatClampNeg = k := cl (by omega)
    have hk' := hP k (by omega)
    rw [lp_241_16, ih (by omega), bxd, bxd, ek, ctr_s, v242_aB (by omega) hx]
    have e0 : nI (ctr P (fg J) x k) + 0 = nI (ctr P (fg J) x k + 0) := by rw [show (0 : Int32) = nI 0 from rfl, nI_add]
    have e1 : nI (ctr P (fg J) x k) + 1 = nI (ctr P (fg J) x k + 1) := by rw [show (1 : Int32) = nI 1 from rfl, nI_add]
    have d1 : ¬ (1 : Int32) = 0 := by decide
    by_cases a : aB (fg J) k x = true
    · rw [if_pos a, if_neg d1]
      by_cases c : J 97 k = 0
      · rw [if_pos c, if_neg (fun w => (hk'.mp w.1).1 c)]; exact e0
      · rw [if_neg c]
        by_cases d : ro = 0
        · rw [if_pos d, if_pos ⟨hk'.mpr ⟨c, Or.inl d⟩, a⟩]; exact e1
        · rw [if_neg d]
          by_cases e : J 98 k = 0
          · rw [if_pos e, if_neg (fun w => by
              rcases (hk'.mp w.1).2 with q | q
              · exact d q
              · exact q e)]
            exact e0
          · rw [if_neg e, if_pos ⟨hk'.mpr ⟨c, Or.inr e⟩, a⟩]; exact e1
    · rw [if_neg a, if_pos (rfl : (0 : Int32) = 0), if_neg (fun w : P k = true ∧ aB (fg J) k x = true => a w.2)]
      by_cases c : J 97 k = 0
      · rw [if_pos c]; exact e0
      · rw [if_neg c]
        by_cases d : ro = 0
        · rw [if_pos d]; exact e0
        · rw [if_neg d]
          by_cases e : J 98 k = 0
          · rw [if_pos e]; exact e0
          · rw [if_neg e]; exact e0
theorem rk_go (h18 : J 74 18 = nI nv) (h12 : nv ≤ 12) (hP : ∀ v, v < nv → (P v = true ↔ ¬ J 97 v = 0 ∧ (ro = 0 ∨ ¬ J 98 v = 0))) {m : Nat} (hm : m < 100) : ∀ d x f, x + d = nv → d < f → gl_241_2 J (nI m) ro f (nI x) ∧
    ((∃ v, x ≤ v ∧ v < nv ∧ P v = true ∧ ctr P (fg J) v nv = m ∧ lp_241_2 J (nI m) ro f (nI x) = nI v) ∨ ((∀ v, x ≤ v → v < nv → P v = true → ¬ ctr P (fg J) v nv = m) ∧ lp_241_2 J (nI m) ro f (nI x) = -1)) := by
  intro d
  induction d with
  | zero =>
    intro x f hx hf
    obtain ⟨k, rfl⟩ : ∃ k, f = k + 1 := ⟨f - 1, by omega⟩
    have e : x = nv := by omega
    subst e
    have le : nI x ≤ nI x := by rw [Int32.le_iff_toInt_le]; omega
    rw [gl_241_2, lp_241_2, h18, if_pos le]
    exact ⟨fun w => absurd le w, Or.inr ⟨fun v h1 h2 => by omega, rfl⟩⟩
  | succ d ih =>
    intro x f hx hf
    obtain ⟨k, rfl⟩ : ∃ k, f = k + 1 := ⟨f - 1, by omega⟩
    have nle : ¬ nI nv ≤ nI x := by rw [Int32.le_iff_toInt_le, nI_toInt (by omega), nI_toInt (by omega)]; omega
    obtain ⟨G, R⟩ := ih (x + 1) k (by omega) (by omega)
    have ex : (nI x).toNatClampNeg = x := cl (by omega)
    have ec : (nI nv).toNatClampNeg = nv := cl (by omega)
    have hx' := hP x (by omega)
    have cnt := ahead_lp h12 hP (show x < 12 by omega) nv (Nat.le_refl _)
    have hc := ctr_le (P := P) (g := fg J) (v := x) nv
    have hs : szr P nv ≤ nv := szr_n P nv
    have em : nI (ctr P (fg J) x nv) = nI m ↔ ctr P (fg J) x nv = m := nI_eq (by omega) (by omega)
    rw [gl_241_2, lp_241_2, h18, if_neg nle, ec, cnt, bxd, bxd, ex, nI_1]
    refine ⟨fun _ => ⟨fun j hj => ?_, vin (by omega) (by omega), fun _ => G, fun _ => ⟨fun _ _ => G, fun _ => ⟨vin (by omega) (by omega), fun _ => G, fun _ _ => G⟩⟩⟩, ?_⟩
    · rw [bxd]
      exact ⟨vin (by omega) (by omega), fun _ => ⟨fun _ => g242 (by omega) (by omega), fun _ => ⟨vin (by omega) (by omega), fun _ => g242 (by omega) (by omega)⟩⟩⟩
    · have step : ∀ T : Int32, (P x = true ∧ ctr P (fg J) x nv = m → T = nI x) → (¬ (P x = true ∧ ctr P (fg J) x nv = m) → T = lp_241_2 J (nI m) ro k (nI (x + 1))) →
          ((∃ v, x ≤ v ∧ v < nv ∧ P v = true ∧ ctr P (fg J) v nv = m ∧ T = nI v) ∨ ((∀ v, x ≤ v → v < nv → P v = true → ¬ ctr P (fg J) v nv = m) ∧ T = -1)) := by
        intro T t1 t2
        by_cases z : P x = true ∧ ctr P (fg J) x nv = m
        · exact Or.inl ⟨x, Nat.le_refl _, by omega, z.1, z.2, t1 z⟩
        · rw [t2 z]
          rcases R with ⟨v, v1, v2, v3, v4, v5⟩ | ⟨v1, v2⟩
          · exact Or.inl ⟨v, by omega, v2, v3, v4, v5⟩
          · refine Or.inr ⟨fun v h1 h2 h3 h4 => ?_, v2⟩
            by_cases y : v = x
            · subst y; exact z ⟨h3, h4⟩
            · exact v1 v (by omega) h2 h3 h4
      apply step
      · rintro ⟨z1, z2⟩
        obtain ⟨q1, q2⟩ := hx'.mp z1
        rw [if_neg q1]
        by_cases y : ro = 0
        · rw [if_pos y, if_neg (fun w => w (em.mpr z2))]
        · rw [if_neg y, if_neg (fun w => by
            rcases q2 with q2 | q2
            · exact y q2
            · exact q2 w), if_neg (fun w => w (em.mpr z2))]
      · intro z
        by_cases c : J 97 x = 0
        · rw [if_pos c]
        · rw [if_neg c]
          by_cases y : ro = 0
          · rw [if_pos y, if_pos (fun w => z ⟨hx'.mpr ⟨c, Or.inl y⟩, em.mp w⟩)]
          · rw [if_neg y]
            by_cases e : J 98 x = 0
            · rw [if_pos e]
            · rw [if_neg e, if_pos (fun w => z ⟨hx'.mpr ⟨c, Or.inr e⟩, em.mp w⟩)]
theorem ranked (h18 : J 74 18 = nI nv) (h12 : nv ≤ 12) (hP : ∀ v, v < nv → (P v = true ↔ ¬ J 97 v = 0 ∧ (ro = 0 ∨ ¬ J 98 v = 0))) {m : Nat} (hm : m < 100) : g_241 J (nI m) ro ∧
    ((∃ v, v < nv ∧ P v = true ∧ ctr P (fg J) v nv = m ∧ m < szr P nv ∧ v_241 J (nI m) ro = nI v) ∨ (szr P nv ≤ m ∧ v_241 J (nI m) ro = -1)) := by
  obtain ⟨G, R⟩ := rk_go h18 h12 hP hm nv 0 400 (by omega) (by omega)
  refine ⟨G, ?_⟩
  rcases R with ⟨v, -, v2, v3, v4, v5⟩ | ⟨v1, v2⟩
  · exact Or.inl ⟨v, v2, v3, v4, by have := ctr_sz (g := fg J) v3 nv v2; omega, v5⟩
  · refine Or.inr ⟨Nat.le_of_not_lt fun w => ?_, v2⟩
    obtain ⟨v, u1, u2, u3⟩ := ctr_ex (P := P) (g := fg J) nv m w
    exact v1 v (Nat.zero_le _) u1 u2 u3
end
