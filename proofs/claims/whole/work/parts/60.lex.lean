section
variable {I J : WI} {L : WL} {n r : Nat} {T : Nat → Int32}
/-! the bytes of a text, as the class has them (its tape) and as the reference has them (a row of its texts) -/
def BY (n : Nat) (T : Nat → Int32) (p : Nat) : Int32 := if p < n then T p else -1
def bC (I : WI) (n : Nat) (T : Nat → Int32) : Prop := n ≤ 160 ∧ I 31 1 = nI n ∧ ∀ i, i < n → I 32 i = T i ∧ bt 0 255 (T i)
def bR (J : WI) (r n : Nat) (T : Nat → Int32) : Prop := r < 6 ∧ n ≤ 160 ∧ J 74 25 = nI (160 * r) ∧ J 74 26 = nI n ∧ ∀ i, i < n → J 75 (160 * r + i) = T i ∧ bt 0 255 (T i)
theorem bC_cg {I' : WI} (h : bC I n T) (h1 : ∀ c k, (c = 31 ∧ k = 1) ∨ c = 32 → I' c k = I c k) : bC I' n T :=
  ⟨h.1, (h1 _ _ (by omega)).trans h.2.1, fun i hi => ⟨(h1 _ _ (by omega)).trans (h.2.2 i hi).1, (h.2.2 i hi).2⟩⟩
theorem bR_cg {J' : WI} (h : bR J r n T) (h1 : ∀ c k, (c = 74 ∧ (k = 25 ∨ k = 26)) ∨ c = 75 → J' c k = J c k) : bR J' r n T :=
  ⟨h.1, h.2.1, (h1 _ _ (by omega)).trans h.2.2.1, (h1 _ _ (by omega)).trans h.2.2.2.1, fun i hi => ⟨(h1 _ _ (by omega)).trans (h.2.2.2.2 i hi).1, (h.2.2.2.2 i hi).2⟩⟩
theorem v86 (h : bC I n T) {p : Nat} (hp : p ≤ 160) : v_86 I (nI p) = BY n T p ∧ g_86 I (nI p) := by
  obtain ⟨h1, h2, h3⟩ := h
  have e160 : (160 : Int32) = nI 160 := rfl
  have n0 : ¬ nI p < 0 := nneg (by omega)
  unfold v_86 g_86 BY
  have k1 : nI n ≤ nI p ↔ n ≤ p := nI_leI (by omega) (by omega)
  have k2 : 160 ≤ nI p ↔ 160 ≤ p := nI_leI (a := 160) (by omega) (by omega)
  rw [h2, if_neg n0, cl (show p < 2 ^ 31 by omega)]
  refine ⟨?_, fun _ _ q => vin (by have := mt k2.mpr q; omega) (by omega)⟩
  by_cases c : p < n
  · rw [if_neg (fun q => by have := k1.mp q; omega), if_neg (fun q => by have := k2.mp q; omega), if_pos c]; exact (h3 p c).1
  · rw [if_pos (k1.mpr (by omega)), if_neg c]
theorem v195 (h : bR J r n T) {p : Nat} (hp : p ≤ 160) : v_195 J (nI p) = BY n T p ∧ g_195 J (nI p) := by
  obtain ⟨h0, h1, h2, h3, h4⟩ := h
  unfold v_195 g_195 BY
  have k1 : nI n ≤ nI p ↔ n ≤ p := nI_leI (by omega) (by omega)
  rw [h2, h3, nI_add, cl (show 160 * r + p < 2 ^ 31 by omega)]
  refine ⟨?_, fun q => vin (by have := mt k1.mpr q; omega) (by omega)⟩
  by_cases c : p < n
  · rw [if_neg (fun q => by have := k1.mp q; omega), if_pos c]; exact (h4 p c).1
  · rw [if_pos (k1.mpr (by omega)), if_neg c]
/-- how far what holds of each byte goes -/
def scan (c : Nat → Bool) : Nat → Nat → Nat
  | 0, p => p
  | d + 1, p => if c p = true then scan c d (p + 1) else p
theorem scan_le (c : Nat → Bool) : ∀ d p, p ≤ scan c d p ∧ scan c d p ≤ p + d := by
  intro d
  induction d with
  | zero => intro p; exact ⟨Nat.le_refl _, Nat.le_refl _⟩
  | succ d ih =>
    intro p
    show p ≤ (if c p = true then scan c d (p + 1) else p) ∧ (if c p = true then scan c d (p + 1) else p) ≤ p + (d + 1)
    have := ih (p + 1)
    split <;> omega
theorem scan_all (c : Nat → Bool) : ∀ d p q, p ≤ q → q < scan c d p → c q = true := by
  intro d
  induction d with
  | zero => intro p q h1 h2; have : scan c 0 p = p := rfl; omega
  | succ d ih =>
    intro p q h1 h2
    have h3 : scan c (d + 1) p = if c p = true then scan c d (p + 1) else p := rfl
    rw [h3] at h2
    by_cases z : c p = true
    · rw [if_pos z] at h2
      by_cases y : q = p
      · subst y; exact z
      · exact ih (p + 1) q (by omega) h2
    · rw [if_neg z] at h2
      omega
theorem scan_end (c : Nat → Bool) : ∀ d p, scan c d p < p + d → c (scan c d p) = false := by
  intro d
  induction d with
  | zero => intro p h; have : scan c 0 p = p := rfl; omega
  | succ d ih =>
    intro p h
    have h3 : scan c (d + 1) p = if c p = true then scan c d (p + 1) else p := rfl
    rw [h3] at h ⊢
    by_cases z : c p = true
    · rw [if_pos z] at h ⊢
      exact ih (p + 1) (by omega)
    · rw [if_neg z]
      simpa using z
theorem up_id (f : WI) (c k : Nat) : up2 f c k (f c k) = f := funext fun a => funext fun b => up2_same a b
theorem up_up {f : WI} {c k : Nat} {v w : Int32} : up2 (up2 f c k v) c k w = up2 f c k w := by
  funext a b
  unfold up2
  split
  · rfl
  · rfl
/-! blanks -/
def cB (n : Nat) (T : Nat → Int32) (p : Nat) : Bool := decide (BY n T p = 32 ∨ BY n T p = 10)
def cW (n : Nat) (T : Nat → Int32) (p : Nat) : Bool := decide (¬ v_107 (BY n T p) 97 122 = 0)
def cD (n : Nat) (T : Nat → Int32) (p : Nat) : Bool := decide (¬ v_107 (BY n T p) 48 57 = 0)
theorem BY_n {p : Nat} (h : n ≤ p) : BY n T p = -1 := if_neg (by omega)
theorem skipC : ∀ d p f (I : WI), p + d = n → d < f → bC I n T → I 31 3 = nI p → lp_85_0 f I = up2 I 31 3 (nI (scan (cB n T) d p)) ∧ gl_85_0 f I := by
  intro d
  induction d with
  | zero =>
    intro p f I hp hf h h3
    obtain ⟨f, rfl⟩ : ∃ g, f = g + 1 := ⟨f - 1, by omega⟩
    have c : I 31 1 ≤ I 31 3 := by rw [h.2.1, h3]; exact nI_le (by omega) (by have := h.1; omega)
    rw [lp_85_0, gl_85_0, if_pos c]
    refine ⟨?_, fun q => absurd c q⟩
    show I = up2 I 31 3 (nI p)
    rw [← h3, up_id]
  | succ d ih =>
    intro p f I hp hf h h3
    have h160 := h.1
    obtain ⟨f, rfl⟩ : ∃ g, f = g + 1 := ⟨f - 1, by omega⟩
    have c : ¬ I 31 1 ≤ I 31 3 := by rw [h.2.1, h3, nI_leI (by omega) (by omega)]; omega
    have hb := v86 h (p := p) (by omega)
    rw [lp_85_0, gl_85_0, if_neg c, h3, hb.1, nI_1]
    have e : scan (cB n T) (d + 1) p = if cB n T p = true then scan (cB n T) d (p + 1) else p := rfl
    have hv : v_87 (BY n T p) = 0 ↔ ¬ cB n T p = true := by
      unfold v_87 cB
      rw [decide_eq_true_iff]
      by_cases z : BY n T p = 32
      · rw [if_pos z]; exact ⟨fun q => absurd q d10, fun q => absurd (Or.inl z) q⟩
      · rw [if_neg z]
        by_cases y : BY n T p = 10
        · rw [if_neg (fun q => q y)]; exact ⟨fun q => absurd q d10, fun q => absurd (Or.inr y) q⟩
        · rw [if_pos y]; exact ⟨fun _ q => q.elim z y, fun _ => rfl⟩
    have hs : bC (up2 I 31 3 (nI (p + 1))) n T := bC_cg h (fun c k hh => up2_nk (by omega))
    obtain ⟨j1, j2⟩ := ih (p + 1) f (up2 I 31 3 (nI (p + 1))) (by omega) (by omega) hs (by simp [up2])
    by_cases z : cB n T p = true
    · rw [if_neg (fun q => hv.mp q z), e, if_pos z, j1, up_up]
      exact ⟨rfl, fun _ => ⟨hb.2, fun _ => j2⟩⟩
    · rw [if_pos (hv.mpr z), e, if_neg z]
      refine ⟨?_, fun _ => ⟨hb.2, fun q => absurd (hv.mpr z) q⟩⟩
      rw [← h3, up_id]
theorem skipR : ∀ d p f (J : WI), p + d = n → d < f → bR J r n T → J 74 27 = nI p → lp_194_0 f J = up2 J 74 27 (nI (scan (cB n T) d p)) ∧ gl_194_0 f J := by
  intro d
  induction d with
  | zero =>
    intro p f J hp hf h h3
    have h160 := h.2.1
    obtain ⟨f, rfl⟩ : ∃ g, f = g + 1 := ⟨f - 1, by omega⟩
    have hb := v195 h (p := p) (by omega)
    rw [BY_n (by omega)] at hb
    rw [lp_194_0, gl_194_0, h3, hb.1, if_neg (by decide), if_pos (by decide)]
    refine ⟨?_, hb.2, fun q => absurd q (by decide), fun _ => ⟨hb.2, fun q => absurd (by decide) q⟩⟩
    show J = up2 J 74 27 (nI p)
    rw [← h3, up_id]
  | succ d ih =>
    intro p f J hp hf h h3
    have h160 := h.2.1
    obtain ⟨f, rfl⟩ : ∃ g, f = g + 1 := ⟨f - 1, by omega⟩
    have hb := v195 h (p := p) (by omega)
    rw [lp_194_0, gl_194_0, h3, hb.1, nI_1]
    have e : scan (cB n T) (d + 1) p = if cB n T p = true then scan (cB n T) d (p + 1) else p := rfl
    have hs : bR (up2 J 74 27 (nI (p + 1))) r n T := bR_cg h (fun c k hh => up2_nk (by omega))
    obtain ⟨j1, j2⟩ := ih (p + 1) f (up2 J 74 27 (nI (p + 1))) (by omega) (by omega) hs (by simp [up2])
    by_cases z : BY n T p = 32
    · have zz : cB n T p = true := decide_eq_true (Or.inl z)
      rw [if_pos z, e, if_pos zz, j1, up_up]
      exact ⟨rfl, hb.2, fun _ => j2, fun q => absurd z q⟩
    · rw [if_neg z]
      by_cases y : BY n T p = 10
      · have zz : cB n T p = true := decide_eq_true (Or.inr y)
        rw [if_neg (fun q => q y), e, if_pos zz, j1, up_up]
        exact ⟨rfl, hb.2, fun _ => j2, fun _ => ⟨hb.2, fun _ => j2⟩⟩
      · have zz : ¬ cB n T p = true := fun q => (of_decide_eq_true q).elim z y
        rw [if_pos y, e, if_neg zz]
        refine ⟨?_, hb.2, fun q => absurd q z, fun _ => ⟨hb.2, fun q => absurd y q⟩⟩
        rw [← h3, up_id]
/-! words -/
theorem wordC : ∀ d p f (I : WI), p + d = n → d < f → bC I n T → I 31 3 = nI p → lp_89_0 f I = up2 I 31 3 (nI (scan (cW n T) d p)) ∧ gl_89_0 f I := by
  intro d
  induction d with
  | zero =>
    intro p f I hp hf h h3
    obtain ⟨f, rfl⟩ : ∃ g, f = g + 1 := ⟨f - 1, by omega⟩
    have c : I 31 1 ≤ I 31 3 := by rw [h.2.1, h3]; exact nI_le (by omega) (by have := h.1; omega)
    rw [lp_89_0, gl_89_0, if_pos c]
    refine ⟨?_, fun q => absurd c q⟩
    show I = up2 I 31 3 (nI p)
    rw [← h3, up_id]
  | succ d ih =>
    intro p f I hp hf h h3
    have h160 := h.1
    obtain ⟨f, rfl⟩ : ∃ g, f = g + 1 := ⟨f - 1, by omega⟩
    have c : ¬ I 31 1 ≤ I 31 3 := by rw [h.2.1, h3, nI_leI (by omega) (by omega)]; omega
    have hb := v86 h (p := p) (by omega)
    rw [lp_89_0, gl_89_0, if_neg c, h3, hb.1, nI_1]
    have e : scan (cW n T) (d + 1) p = if cW n T p = true then scan (cW n T) d (p + 1) else p := rfl
    have hv : v_88 (BY n T p) = 0 ↔ ¬ cW n T p = true := by
      unfold cW
      rw [decide_eq_true_iff]
      exact Classical.not_not.symm
    have hs : bC (up2 I 31 3 (nI (p + 1))) n T := bC_cg h (fun c k hh => up2_nk (by omega))
    obtain ⟨j1, j2⟩ := ih (p + 1) f (up2 I 31 3 (nI (p + 1))) (by omega) (by omega) hs (by simp [up2])
    by_cases z : cW n T p = true
    · rw [if_neg (fun q => hv.mp q z), e, if_pos z, j1, up_up]
      exact ⟨rfl, fun _ => ⟨hb.2, fun _ => j2⟩⟩
    · rw [if_pos (hv.mpr z), e, if_neg z]
      refine ⟨?_, fun _ => ⟨hb.2, fun q => absurd (hv.mpr z) q⟩⟩
      rw [← h3, up_id]
theorem l97 : (97 : Int64) = Int32.toInt64 97 ∧ (122 : Int64) = Int32.toInt64 122 ∧ (48 : Int64) = Int32.toInt64 48 ∧ (57 : Int64) = Int32.toInt64 57 := by decide
theorem wordR : ∀ d p f (J : WI), p + d = n → d < f → bR J r n T → J 74 27 = nI p → lp_194_100 f J = up2 J 74 27 (nI (scan (cW n T) d p)) ∧ gl_194_100 f J := by
  intro d
  induction d with
  | zero =>
    intro p f J hp hf h h3
    have h160 := h.2.1
    obtain ⟨f, rfl⟩ : ∃ g, f = g + 1 := ⟨f - 1, by omega⟩
    have hb := v195 h (p := p) (by omega)
    rw [BY_n (by omega)] at hb
    rw [lp_194_100, gl_194_100, h3, hb.1, l97.1, l97.2.1, v170_107, if_pos (by decide)]
    refine ⟨?_, hb.2, fun q => absurd (by decide) q⟩
    show J = up2 J 74 27 (nI p)
    rw [← h3, up_id]
  | succ d ih =>
    intro p f J hp hf h h3
    have h160 := h.2.1
    obtain ⟨f, rfl⟩ : ∃ g, f = g + 1 := ⟨f - 1, by omega⟩
    have hb := v195 h (p := p) (by omega)
    rw [lp_194_100, gl_194_100, h3, hb.1, l97.1, l97.2.1, v170_107, nI_1]
    have e : scan (cW n T) (d + 1) p = if cW n T p = true then scan (cW n T) d (p + 1) else p := rfl
    have hv : v_107 (BY n T p) 97 122 = 0 ↔ ¬ cW n T p = true := by
      unfold cW
      rw [decide_eq_true_iff]
      exact Classical.not_not.symm
    have hs : bR (up2 J 74 27 (nI (p + 1))) r n T := bR_cg h (fun c k hh => up2_nk (by omega))
    obtain ⟨j1, j2⟩ := ih (p + 1) f (up2 J 74 27 (nI (p + 1))) (by omega) (by omega) hs (by simp [up2])
    by_cases z : cW n T p = true
    · rw [if_neg (fun q => hv.mp q z), e, if_pos z, j1, up_up]
      exact ⟨rfl, hb.2, fun _ => j2⟩
    · rw [if_pos (hv.mpr z), e, if_neg z]
      refine ⟨?_, hb.2, fun q => absurd (hv.mpr z) q⟩
      rw [← h3, up_id]
/-! numbers -/
def nv (T : Nat → Int32) (st : Nat) : Nat → Int32
  | 0 => 0
  | k + 1 => if 4 ≤ k then nv T st k else 10 * nv T st k + T (st + k) - 48
def dig (x : Int32) : Prop := 48 ≤ x.toInt ∧ x.toInt ≤ 57
theorem nv_bt {st : Nat} : ∀ k, (∀ j, j < k → dig (T (st + j))) → bt 0 9999 (nv T st k) ∧ (k = 1 → bt 0 9 (nv T st k)) ∧ (k = 2 → bt 0 99 (nv T st k)) ∧ (k = 3 → bt 0 999 (nv T st k)) ∧ (k = 0 → bt 0 0 (nv T st k)) := by
  intro k
  induction k with
  | zero =>
    intro _
    have t0 : (0 : Int32).toInt = 0 := by decide
    have z : ∀ B : Int, 0 ≤ B → bt 0 B (nv T st 0) := by
      intro B hB
      have e : nv T st 0 = 0 := rfl
      unfold bt
      rw [e, t0]
      exact ⟨Int.le_refl _, hB⟩
    exact ⟨z _ (by omega), fun q => by omega, fun q => by omega, fun q => by omega, fun _ => z _ (by omega)⟩
  | succ k ih =>
    intro h
    obtain ⟨i1, i2, i3, i4, i5⟩ := ih (fun j hj => h j (by omega))
    have hd := h k (by omega)
    obtain ⟨d1, d2⟩ := hd
    have e : nv T st (k + 1) = if 4 ≤ k then nv T st k else 10 * nv T st k + T (st + k) - 48 := rfl
    by_cases c : 4 ≤ k
    · rw [e, if_pos c]
      exact ⟨i1, fun q => by omega, fun q => by omega, fun q => by omega, fun q => by omega⟩
    · have t : (10 : Int32).toInt = 10 ∧ (48 : Int32).toInt = 48 := by decide
      have hb : ∀ B : Int, B ≤ 999 → bt 0 B (nv T st k) → bt 0 (10 * B + 9) (10 * nv T st k + T (st + k) - 48) := by
        intro B hB ⟨b1, b2⟩
        have m : (10 * nv T st k).toInt = 10 * (nv T st k).toInt := by rw [ti_mul (by rw [t.1]; omega) (by rw [t.1]; omega), t.1]
        have a : (10 * nv T st k + T (st + k)).toInt = 10 * (nv T st k).toInt + (T (st + k)).toInt := by rw [ti_add (by rw [m]; omega) (by rw [m]; omega), m]
        unfold bt
        rw [ti_sub (by rw [a, t.2]; omega) (by rw [a, t.2]; omega), a, t.2]
        omega
      rw [e, if_neg c]
      rcases (show k = 0 ∨ k = 1 ∨ k = 2 ∨ k = 3 by omega) with z | z | z | z
      · have q := hb 0 (by omega) (i5 z)
        exact ⟨bt_w q (by omega) (by omega), fun _ => q, fun q => by omega, fun q => by omega, fun q => by omega⟩
      · have q := hb 9 (by omega) (i2 z)
        exact ⟨bt_w q (by omega) (by omega), fun q => by omega, fun _ => q, fun q => by omega, fun q => by omega⟩
      · have q := hb 99 (by omega) (i3 z)
        exact ⟨bt_w q (by omega) (by omega), fun q => by omega, fun q => by omega, fun _ => q, fun q => by omega⟩
      · have q := hb 999 (by omega) (i4 z)
        exact ⟨bt_w q (by omega) (by omega), fun q => by omega, fun q => by omega, fun q => by omega, fun q => by omega⟩
theorem up_53 {f : WI} {v w v' w' : Int32} : up2 (up2 (up2 (up2 f 31 5 v) 31 3 w) 31 5 v') 31 3 w' = up2 (up2 f 31 5 v') 31 3 w' := by
  funext a b
  show (if a = 31 ∧ b = 3 then w' else if a = 31 ∧ b = 5 then v' else if a = 31 ∧ b = 3 then w else if a = 31 ∧ b = 5 then v else f a b) = if a = 31 ∧ b = 3 then w' else if a = 31 ∧ b = 5 then v' else f a b
  by_cases h1 : a = 31 ∧ b = 3
  · rw [if_pos h1, if_pos h1]
  · simp only [if_neg h1]
    by_cases h2 : a = 31 ∧ b = 5
    · simp only [if_pos h2]
    · simp only [if_neg h2]
theorem numC {st : Nat} : ∀ d k f (I : WI), st + k + d = n → d < f → bC I n T → I 31 2 = nI st → I 31 3 = nI (st + k) → I 31 5 = nv T st k → ∃ e, lp_94_5 f I = up2 (up2 I 31 5 (nv T st e)) 31 3 (nI (st + e)) ∧ st + e = scan (cD n T) d (st + k) ∧ gl_94_5 f I := by
  intro d
  induction d with
  | zero =>
    intro k f I hp hf h h2 h3 h5
    have h160 := h.1
    obtain ⟨f, rfl⟩ : ∃ g, f = g + 1 := ⟨f - 1, by omega⟩
    have c : I 31 1 ≤ I 31 3 := by rw [h.2.1, h3]; exact nI_le (by omega) (by omega)
    rw [lp_94_5, gl_94_5, if_pos c]
    refine ⟨k, ?_, rfl, fun q => absurd c q⟩
    rw [← h5, up_id, ← h3, up_id]
  | succ d ih =>
    intro k f I hp hf h h2 h3 h5
    have h160 := h.1
    obtain ⟨f, rfl⟩ : ∃ g, f = g + 1 := ⟨f - 1, by omega⟩
    have c : ¬ I 31 1 ≤ I 31 3 := by rw [h.2.1, h3, nI_leI (by omega) (by omega)]; omega
    have hb := v86 h (p := st + k) (by omega)
    have e : scan (cD n T) (d + 1) (st + k) = if cD n T (st + k) = true then scan (cD n T) d (st + k + 1) else st + k := rfl
    have hv : v_93 (BY n T (st + k)) = 0 ↔ ¬ cD n T (st + k) = true := by
      unfold cD
      rw [decide_eq_true_iff]
      exact Classical.not_not.symm
    have hsub : nI (st + k) - nI st = nI k := by
      refine Int32.toInt_inj.mp ?_
      rw [ti_sub (by rw [nI_toInt (by omega), nI_toInt (by omega)]; omega) (by rw [nI_toInt (by omega), nI_toInt (by omega)]; omega), nI_toInt (by omega), nI_toInt (by omega), nI_toInt (by omega)]
      omega
    have hby : BY n T (st + k) = T (st + k) := if_pos (by omega)
    have hval : (if (4 : Int32) ≤ nI k then I 31 5 else 10 * I 31 5 + BY n T (st + k) - 48) = nv T st (k + 1) := by
      have k4 : (4 : Int32) ≤ nI k ↔ 4 ≤ k := nI_leI (a := 4) (by omega) (by omega)
      have e2 : nv T st (k + 1) = if 4 ≤ k then nv T st k else 10 * nv T st k + T (st + k) - 48 := rfl
      rw [h5, hby, e2]
      by_cases c4 : 4 ≤ k
      · rw [if_pos (k4.mpr c4), if_pos c4]
      · rw [if_neg (fun q => c4 (k4.mp q)), if_neg c4]
    rw [lp_94_5, gl_94_5, if_neg c, h3, h2, hb.1, hsub, nI_1]
    simp only [bx]
    rw [hval]
    have hs : bC (up2 (up2 I 31 5 (nv T st (k + 1))) 31 3 (nI (st + k + 1))) n T := bC_cg h (fun c k hh => (up2_nk (by omega)).trans (up2_nk (by omega)))
    obtain ⟨e', j1, j2, j3⟩ := ih (k + 1) f (up2 (up2 I 31 5 (nv T st (k + 1))) 31 3 (nI (st + k + 1))) (by omega) (by omega) hs ((up2_nk (by omega)).trans ((up2_nk (by omega)).trans h2)) (by simp [up2, Nat.add_assoc]) ((up2_nk (by omega)).trans (by simp [up2]))
    by_cases z : cD n T (st + k) = true
    · rw [if_neg (fun q => hv.mp q z), e, if_pos z]
      refine ⟨e', ?_, j2, fun _ => ⟨hb.2, fun _ => ⟨fun _ => hb.2, j3⟩⟩⟩
      rw [j1, up_53]
    · rw [if_pos (hv.mpr z), e, if_neg z]
      refine ⟨k, ?_, rfl, fun _ => ⟨hb.2, fun q => absurd (hv.mpr z) q⟩⟩
      rw [← h5, up_id, ← h3, up_id]
end
