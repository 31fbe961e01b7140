section
/-! how many of a set are ahead of one -/
def aB (g : Nat → Int) (w v : Nat) : Bool := decide (g w < g v ∨ g w = g v ∧ w < v)
def ctr (P : Nat → Bool) (g : Nat → Int) (v : Nat) : Nat → Nat
  | 0 => 0
  | k + 1 => ctr P g v k + if P k = true ∧ aB g k v = true then 1 else 0
def szr (P : Nat → Bool) : Nat → Nat
  | 0 => 0
  | k + 1 => szr P k + if P k = true then 1 else 0
def inr (P : Nat → Bool) (v : Nat) : Nat → Bool := fun k => P k || decide (k = v)
section
variable {P Q : Nat → Bool} {g g' : Nat → Int} {u v w n : Nat}
theorem aB_iff : aB g w v = true ↔ g w < g v ∨ g w = g v ∧ w < v := by unfold aB; exact decide_eq_true_iff
theorem aB_no : aB g w v = false ↔ ¬ (g w < g v ∨ g w = g v ∧ w < v) := by unfold aB; exact decide_eq_false_iff_not
theorem aB_tr (h1 : aB g u w = true) (h2 : aB g w v = true) : aB g u v = true := by
  rw [aB_iff] at h1 h2 ⊢; omega
theorem aB_to (h : w ≠ v) (h1 : aB g w v = false) : aB g v w = true := by
  rw [aB_no] at h1; rw [aB_iff]; omega
theorem aB_as (h1 : aB g w v = true) : aB g v w = false := by
  rw [aB_iff] at h1; rw [aB_no]; omega
theorem aB_self : aB g v v = false := by rw [aB_no]; omega
theorem bNo {b : Bool} (h : ¬ b = true) : b = false := by cases b; rfl; exact absurd rfl h
theorem ctr_s (k : Nat) : ctr P g v (k + 1) = ctr P g v k + if P k = true ∧ aB g k v = true then 1 else 0 := rfl
theorem szr_s (k : Nat) : szr P (k + 1) = szr P k + if P k = true then 1 else 0 := rfl
theorem ctr_mono (h : aB g w v = true) : ∀ n, ctr P g w n ≤ ctr P g v n := by
  intro n
  induction n with
  | zero => exact Nat.le_refl _
  | succ k ih =>
    rw [ctr_s, ctr_s]
    by_cases z : P k = true ∧ aB g k w = true
    · rw [if_pos z, if_pos ⟨z.1, aB_tr z.2 h⟩]; omega
    · rw [if_neg z]
      split <;> omega
theorem ctr_lt (h : aB g w v = true) (hw : P w = true) : ∀ n, w < n → ctr P g w n < ctr P g v n := by
  intro n
  induction n with
  | zero => intro h; omega
  | succ k ih =>
    intro hk
    rw [ctr_s, ctr_s]
    by_cases y : k = w
    · subst y
      have m := ctr_mono (P := P) h k
      rw [if_neg (fun z => by have := aB_self (g := g) (v := k); rw [z.2] at this; exact absurd this (by decide)), if_pos ⟨hw, h⟩]
      omega
    · have m := ih (by omega)
      by_cases z : P k = true ∧ aB g k w = true
      · rw [if_pos z, if_pos ⟨z.1, aB_tr z.2 h⟩]; omega
      · rw [if_neg z]
        split <;> omega
theorem ctr_un (hv : v < n) (hw : w < n) (pv : P v = true) (pw : P w = true) (e : ctr P g v n = ctr P g w n) : v = w := by
  by_cases y : v = w
  · exact y
  · exfalso
    by_cases z : aB g v w = true
    · have := ctr_lt z pv n hv; omega
    · have := ctr_lt (aB_to y (bNo z)) pw n hw; omega
theorem ctr_le : ∀ n, ctr P g v n ≤ szr P n := by
  intro n
  induction n with
  | zero => exact Nat.le_refl _
  | succ k ih =>
    rw [ctr_s, szr_s]
    by_cases z : P k = true
    · rw [if_pos z]; split <;> omega
    · rw [if_neg (fun a => z a.1), if_neg z]; omega
theorem ctr_sz (pv : P v = true) : ∀ n, v < n → ctr P g v n < szr P n := by
  intro n
  induction n with
  | zero => intro h; omega
  | succ k ih =>
    intro hk
    rw [ctr_s, szr_s]
    by_cases y : k = v
    · subst y
      have m := ctr_le (P := P) (g := g) (v := k) k
      rw [if_neg (fun z => by have := aB_self (g := g) (v := k); rw [z.2] at this; exact absurd this (by decide)), if_pos pv]
      omega
    · have m := ih (by omega)
      by_cases z : P k = true
      · rw [if_pos z]; split <;> omega
      · rw [if_neg (fun a => z a.1), if_neg z]; omega
theorem ctr_ex : ∀ n m, m < szr P n → ∃ v, v < n ∧ P v = true ∧ ctr P g v n = m := by
  intro n
  induction n with
  | zero => intro m h; exact absurd h (Nat.not_lt_zero _)
  | succ k ih =>
    intro m h
    rw [szr_s] at h
    by_cases z : P k = true
    · rw [if_pos z] at h
      have ek : ctr P g k (k + 1) = ctr P g k k := by
        rw [ctr_s, if_neg (fun z => by have := aB_self (g := g) (v := k); rw [z.2] at this; exact absurd this (by decide))]; omega
      rcases Nat.lt_trichotomy m (ctr P g k k) with y | y | y
      · have cl := ctr_le (P := P) (g := g) (v := k) k
        obtain ⟨v, v1, v2, v3⟩ := ih m (by omega)
        refine ⟨v, by omega, v2, ?_⟩
        rw [ctr_s, if_neg (fun a => by have := ctr_mono (P := P) a.2 k; omega)]
        omega
      · exact ⟨k, by omega, z, by omega⟩
      · obtain ⟨v, v1, v2, v3⟩ := ih (m - 1) (by omega)
        refine ⟨v, by omega, v2, ?_⟩
        have a : aB g k v = true := by
          by_cases a : aB g k v = true
          · exact a
          · have := ctr_lt (aB_to (by omega) (bNo a)) v2 k v1
            omega
        rw [ctr_s, if_pos ⟨z, a⟩]
        omega
    · rw [if_neg z] at h
      obtain ⟨v, v1, v2, v3⟩ := ih m (by omega)
      refine ⟨v, by omega, v2, ?_⟩
      rw [ctr_s, if_neg (fun a => z a.1)]
      omega
theorem ctr_ext (hgv : g v = g' v) : ∀ n, (∀ k, k < n → P k = Q k) → (∀ k, k < n → g k = g' k) → ctr P g v n = ctr Q g' v n := by
  intro n
  induction n with
  | zero => intro _ _; rfl
  | succ k ih =>
    intro h1 h2
    have e : aB g k v = aB g' k v := by unfold aB; rw [h2 k (by omega), hgv]
    rw [ctr_s, ctr_s, ih (fun j hj => h1 j (by omega)) (fun j hj => h2 j (by omega)), h1 k (by omega), e]
theorem szr_ext : ∀ n, (∀ k, k < n → P k = Q k) → szr P n = szr Q n := by
  intro n
  induction n with
  | zero => intro _; rfl
  | succ k ih =>
    intro h1
    rw [szr_s, szr_s, ih (fun j hj => h1 j (by omega)), h1 k (by omega)]
theorem szr_le : ∀ n, (∀ k, k < n → P k = true → Q k = true) → szr P n ≤ szr Q n := by
  intro n
  induction n with
  | zero => intro _; exact Nat.le_refl _
  | succ k ih =>
    intro h1
    have := ih (fun j hj => h1 j (by omega))
    rw [szr_s, szr_s]
    by_cases z : P k = true
    · rw [if_pos z, if_pos (h1 k (by omega) z)]; omega
    · rw [if_neg z]; split <;> omega
/-- who is ahead of one, if those left out are not -/
theorem ctr_sub : ∀ n, (∀ k, k < n → P k = true → Q k = true) → (∀ k, k < n → Q k = true → ¬ P k = true → aB g k v = false) → ctr P g v n = ctr Q g v n := by
  intro n
  induction n with
  | zero => intro _ _; rfl
  | succ k ih =>
    intro h1 h2
    rw [ctr_s, ctr_s, ih (fun j hj => h1 j (by omega)) (fun j hj => h2 j (by omega))]
    by_cases z : P k = true
    · have q := h1 k (by omega) z
      by_cases y : aB g k v = true
      · rw [if_pos ⟨z, y⟩, if_pos ⟨q, y⟩]
      · rw [if_neg (fun a => y a.2), if_neg (fun a => y a.2)]
    · rw [if_neg (fun a => z a.1), if_neg (fun a => by have := h2 k (by omega) a.1 z; rw [a.2] at this; exact absurd this (by decide))]
theorem inr_o {k : Nat} (h : k ≠ v) : inr P v k = P k := by
  unfold inr
  rw [decide_eq_false h, Bool.or_false]
theorem inr_v : inr P v v = true := by
  unfold inr
  rw [decide_eq_true rfl, Bool.or_true]
theorem ctr_inr (hv : P v = false) : ∀ n, ctr (inr P v) g w n = ctr P g w n + if v < n ∧ aB g v w = true then 1 else 0 := by
  intro n
  induction n with
  | zero => rw [if_neg (by omega)]; rfl
  | succ k ih =>
    rw [ctr_s, ctr_s, ih]
    by_cases y : k = v
    · subst y
      rw [inr_v, hv, if_neg (show ¬ (k < k ∧ aB g k w = true) by omega), if_neg (show ¬ (false = true ∧ aB g k w = true) from fun a => absurd a.1 (by decide))]
      by_cases z : aB g k w = true
      · rw [if_pos ⟨rfl, z⟩, if_pos ⟨by omega, z⟩]
      · rw [if_neg (fun a => z a.2), if_neg (fun a => z a.2)]
    · rw [inr_o y]
      have e : (v < k + 1 ∧ aB g v w = true) ↔ (v < k ∧ aB g v w = true) := ⟨fun a => ⟨by omega, a.2⟩, fun a => ⟨by omega, a.2⟩⟩
      by_cases z : v < k ∧ aB g v w = true
      · rw [if_pos z, if_pos (e.mpr z)]; omega
      · rw [if_neg z, if_neg (fun a => z (e.mp a))]; omega
theorem szr_inr (hv : P v = false) : ∀ n, szr (inr P v) n = szr P n + if v < n then 1 else 0 := by
  intro n
  induction n with
  | zero => rw [if_neg (by omega)]; rfl
  | succ k ih =>
    rw [szr_s, szr_s, ih]
    by_cases y : k = v
    · subst y
      rw [inr_v, hv, if_neg (show ¬ k < k by omega), if_pos rfl, if_neg (by decide), if_pos (by omega)]
    · rw [inr_o y]
      by_cases z : v < k
      · rw [if_pos z, if_pos (show v < k + 1 by omega)]; omega
      · rw [if_neg z, if_neg (show ¬ v < k + 1 by omega)]; omega
theorem szr_n (P : Nat → Bool) : ∀ n, szr P n ≤ n := by
  intro n
  induction n with
  | zero => exact Nat.le_refl _
  | succ n ih => rw [szr_s]; split <;> omega
end
end
