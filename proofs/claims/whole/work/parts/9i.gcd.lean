section
/-! lowest terms -/
def nL (n : Nat) : Int64 := Int32.toInt64 (nI n)
theorem nL_toInt {n : Nat} (h : n < 2 ^ 31) : (nL n).toInt = n := by
  unfold nL
  rw [Int32.toInt_toInt64, nI_toInt h]
theorem nL_eq {n : Nat} {x : Int64} (hn : n < 2 ^ 31) (h : x.toInt = n) : x = nL n := Int64.toInt_inj.mp (h.trans (nL_toInt hn).symm)
theorem nI_div {a b : Nat} (ha : a < 2 ^ 31) (hb : b < 2 ^ 31) : nI b / nI a = nI (b / a) := by
  have hd := Nat.div_le_self b a
  apply Int32.toInt_inj.mp
  rw [Int32.toInt_div, nI_toInt ha, nI_toInt hb, ← Int.ofNat_tdiv]
  generalize b / a = q at hd
  rw [nI_toInt (by omega)]
  exact Int.bmod_eq_of_le (by omega) (by omega)
theorem nI_mod {a b : Nat} (ha : a < 2 ^ 30) (hb : b < 2 ^ 30) : nI b - nI b / nI a * nI a = nI (b % a) := by
  have hm := Nat.div_add_mod' b a
  have hl := Nat.mod_le b a
  rw [nI_div (by omega) (by omega), pk_mul]
  apply Int32.toInt_inj.mp
  generalize b / a * a = q at hm
  rw [pk_sub_toInt hb (by omega), nI_toInt (by omega)]
  omega
theorem nL_div {a b : Nat} (ha : a < 2 ^ 31) (hb : b < 2 ^ 31) : nL b / nL a = nL (b / a) := by
  have hd := Nat.div_le_self b a
  apply Int64.toInt_inj.mp
  rw [Int64.toInt_div, nL_toInt ha, nL_toInt hb, ← Int.ofNat_tdiv]
  generalize b / a = q at hd
  rw [nL_toInt (by omega)]
  exact Int.bmod_eq_of_le (by omega) (by omega)
theorem nL_mod {a b : Nat} (ha : a < 2 ^ 31) (hb : b < 2 ^ 31) : nL b - nL b / nL a * nL a = nL (b % a) := by
  have hm := Nat.div_add_mod' b a
  have hl := Nat.mod_le b a
  have hd := Nat.div_le_self b a
  rw [nL_div ha hb]
  apply Int64.toInt_inj.mp
  have e1 : (nL (b / a) * nL a).toInt = ((b / a * a : Nat) : Int) := by
    rw [Int64.toInt_mul, nL_toInt (by omega), nL_toInt ha, ← Int.natCast_mul]
    generalize b / a * a = q at hm
    exact Int.bmod_eq_of_le (by omega) (by omega)
  rw [Int64.toInt_sub, e1, nL_toInt hb, nL_toInt (by omega)]
  generalize b / a * a = q at hm
  rw [Int.bmod_eq_of_le (by omega) (by omega)]
  omega
theorem gcdC : ∀ a b n f, n + a ≤ 63 → a < f → b < 2 ^ 30 → gl_141_8 f (nI a) (nI b) (nI n) ∧ lp_141_8 f (nI a) (nI b) (nI n) = nI (Nat.gcd a b) := by
  intro a
  induction a using Nat.strongRecOn with
  | _ a ih =>
    intro b n f hn hf hb
    obtain ⟨f', rfl⟩ : ∃ f', f = f' + 1 := ⟨f - 1, by omega⟩
    have t64 : (64 : Int32).toInt = 64 := by decide
    have n64 : ¬ (64 : Int32) ≤ nI n := by rw [Int32.le_iff_toInt_le, nI_toInt (by omega), t64]; omega
    rw [gl_141_8, lp_141_8, if_neg n64]
    by_cases y : a = 0
    · subst y
      rw [if_pos (show nI 0 = 0 from rfl), Nat.gcd_zero_left]
      exact ⟨fun _ w => absurd rfl w, rfl⟩
    · have na : ¬ nI a = 0 := fun w => y ((nI_eq (a := a) (b := 0) (by omega) (by omega)).mp w)
      have lt : b % a < a := Nat.mod_lt b (by omega)
      obtain ⟨G, R⟩ := ih (b % a) lt a (n + 1) f' (by omega) (by omega) (by omega)
      rw [if_neg na, nI_mod (by omega) hb, nI_1, R, Nat.gcd_rec a b]
      exact ⟨fun _ _ => ⟨na, G⟩, rfl⟩
theorem lg_0 {n : Nat} (h : n < 2 ^ 31) : lg_cmp (nL n) 0 = 0 ↔ n = 0 := by
  rw [lg0]
  have t0 : (0 : Int64).toInt = 0 := by decide
  constructor
  · intro w
    have := nL_toInt h
    rw [w, t0] at this
    omega
  · intro w
    subst w
    rfl
theorem gcdR : ∀ q p f, q < f → q < 2 ^ 31 → p < 2 ^ 31 → gl_258_6 f (nL p) (nL q) ∧ lp_258_6 f (nL p) (nL q) = nL (Nat.gcd q p) := by
  intro q
  induction q using Nat.strongRecOn with
  | _ q ih =>
    intro p f hf hq hp
    obtain ⟨f', rfl⟩ : ∃ f', f = f' + 1 := ⟨f - 1, by omega⟩
    rw [gl_258_6, lp_258_6]
    by_cases y : q = 0
    · subst y
      rw [if_pos ((lg_0 (by omega)).mpr rfl), Nat.gcd_zero_left]
      exact ⟨fun w => absurd ((lg_0 (by omega)).mpr rfl) w, rfl⟩
    · have ny : ¬ lg_cmp (nL q) 0 = 0 := fun w => y ((lg_0 hq).mp w)
      have lt : p % q < q := Nat.mod_lt p (by omega)
      obtain ⟨G, R⟩ := ih (p % q) lt q f' (by omega) (by omega) (by omega)
      rw [if_neg ny, nL_mod hq hp, R, Nat.gcd_rec q p]
      exact ⟨fun _ => ⟨fun w => ny (by rw [lg0]; exact w), G⟩, rfl⟩
theorem part_eq {a b : Nat} (ha : a ≤ 200) (hb1 : 1 ≤ b) (hb : b ≤ 20) (x : Int32) : g_141 (nI a) (nI b) x ∧ g_258 (nL a) (nL b) x ∧ v_141 (nI a) (nI b) x = v_258 (nL a) (nL b) x := by
  have hg : 0 < Nat.gcd a b := Nat.gcd_pos_of_pos_right a (by omega)
  have hg2 : Nat.gcd a b ≤ b := Nat.le_of_dvd (by omega) (Nat.gcd_dvd_right a b)
  have t0 : (0 : Int32).toInt = 0 := by decide
  have c : gl_141_8 400 (nI a) (nI b) 0 ∧ lp_141_8 400 (nI a) (nI b) 0 = nI (Nat.gcd a b) := by
    rw [show (400 : Nat) = 399 + 1 from rfl, gl_141_8, lp_141_8, if_neg (by decide)]
    by_cases y : a = 0
    · subst y
      rw [if_pos (show nI 0 = 0 from rfl), Nat.gcd_zero_left]
      exact ⟨fun _ w => absurd rfl w, rfl⟩
    · have na : ¬ nI a = 0 := fun w => y ((nI_eq (a := a) (b := 0) (by omega) (by omega)).mp w)
      have le := Nat.mod_le b a
      obtain ⟨G, R⟩ := gcdC (b % a) a 1 399 (by omega) (by omega) (by omega)
      have n1 : nI 1 = 0 + 1 := rfl
      rw [n1] at G R
      rw [if_neg na, nI_mod (by omega) (by omega), R, Nat.gcd_rec a b]
      exact ⟨fun _ _ => ⟨na, G⟩, rfl⟩
  obtain ⟨d1, d2⟩ := gcdR b a 400 (by omega) (by omega) (by omega)
  rw [Nat.gcd_comm b a] at d2
  have nle : ¬ nI (Nat.gcd a b) ≤ 0 := by rw [Int32.le_iff_toInt_le, nI_toInt (by omega), t0]; omega
  have n0 : ¬ nI (Nat.gcd a b) = 0 := fun w => by
    have := (nI_eq (a := Nat.gcd a b) (b := 0) (by omega) (by omega)).mp w
    omega
  have m0 : ¬ nL (Nat.gcd a b) = 0 := fun w => by
    have := (lg_0 (n := Nat.gcd a b) (by omega)).mp ((lg0 _ _).mpr w)
    omega
  unfold g_141 g_258 v_141 v_258
  rw [c.2, d2, bxd, bxd, bxd, bxd, bxd, bxd, if_neg nle]
  refine ⟨⟨c.1, fun _ => n0, fun _ => n0⟩, ⟨d1, fun _ => m0, fun _ => m0⟩, ?_⟩
  rw [nI_div (by omega) (by omega), nI_div (by omega) (by omega), nL_div (by omega) (by omega), nL_div (by omega) (by omega)]
  rfl
end
