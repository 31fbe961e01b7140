section
/-- a counted loop's test: i has come to the bound -/
theorem le_cl {E : Int32} {i : Nat} (hi : i ≤ E.toNatClampNeg) : E ≤ nI i ↔ i = E.toNatClampNeg := by
  have h1 : E.toNatClampNeg = E.toInt.toNat := rfl
  have h2 : E.toInt < 2 ^ 31 := Int32.toInt_lt E
  rw [Int32.le_iff_toInt_le, nI_toInt (by omega), h1]
  omega
theorem n3 (v i : Nat) : (3 * nI v + nI i : Int32) = nI (3 * v + i) := by
  rw [show (3 : Int32) = nI 3 from rfl, pk_mul, nI_add]
theorem v3 {v M : Nat} (h : v < M) (hM : 3 * M < 2 ^ 31) : vp_in (3 * nI v + 0) (3 * M) ∧ vp_in (3 * nI v + (0 + 1)) (3 * M) ∧ vp_in (3 * nI v + ((0 + 1) + 1)) (3 * M) := by
  refine ⟨?_, ?_, ?_⟩
  · rw [show (0 : Int32) = nI 0 from rfl, n3]; exact vp_in_nI (by omega) hM
  · rw [show (0 + 1 : Int32) = nI 1 from rfl, n3]; exact vp_in_nI (by omega) hM
  · rw [show ((0 + 1) + 1 : Int32) = nI 2 from rfl, n3]; exact vp_in_nI (by omega) hM
/-- Shelf.nearestCell, as far as n cells are looked at: the nearest, its squares -/
def ncr (I : Nat → Nat → Int32) (b : Nat) (x1 : Int32) : Nat → Int32 × Int32
  | 0 => (-1, 0)
  | n + 1 => if (ncr I b x1 n).1 = -1 then (nI n, sp_59 I b x1 (nI n)) else if (ncr I b x1 n).2 ≤ sp_59 I b x1 (nI n) then ncr I b x1 n else (nI n, sp_59 I b x1 (nI n))
def sp_58 (I : Nat → Nat → Int32) (b : Nat) (x1 : Int32) (n : Nat) : Int32 := (ncr I b x1 n).1
theorem cs_58 {l : LX} {d : Nat} {I : Nat → Nat → Int32} {F : Nat → Nat → UInt32} {L : Nat → Nat → Int64} {t b v n : Nat} (hb : isS b) (hv : v < 12) (hn : I b 4 = nI n) (h4 : n ≤ 4) : Con l 58 (d + 1) 0 0 [.ref b, .int (nI v)] SH (I, F, L, RT t) (rI (sp_58 I b (nI v) n) (I, F, L, RT t)) := by
  refine cn_58 (bk_58_0 ?_)
  have loop : ∀ k i, i + k = n → Wp l 58 (d + 1) 0 0 (rI (sp_58 I b (nI v) n) (I, F, L, RT t)) 0 0 7 [(0, .ref b), (1, .int (nI v)), (2, .int (ncr I b (nI v) i).1), (3, .int (ncr I b (nI v) i).2), (4, .int (nI i))] [] SH (I, F, L, RT t) := by
    intro k
    induction k with
    | zero =>
      intro i hi
      obtain rfl : i = n := by omega
      exact bk_58_7 hb (fun _ => bk_58_48 ⟨rfl, rfl, rfl⟩) (fun h => absurd (by rw [hn]; exact nI_le (Nat.le_refl _) (by omega)) h)
    | succ k ih =>
      intro i hi
      have hin : i < n := by omega
      refine bk_58_7 hb (fun h => absurd h (by rw [hn]; exact nI_ge hin (by omega))) (fun _ => ?_)
      obtain ⟨a1, a2, a3⟩ := v3 (M := 12) hv (by decide)
      obtain ⟨b1, b2, b3⟩ := v3 (M := 4) (show i < 4 by omega) (by decide)
      refine bk_58_16 hb (cs_59 (d := d) hb a1 b1 a2 b2 a3 b3) ?_
      have ih := ih (i + 1) (by omega)
      rw [nI_succ] at ih
      unfold ncr at ih
      refine bk_58_23 (fun h => ?_) (fun h => ?_)
      · simp only [if_pos h] at ih
        exact bk_58_36 (bk_58_42 ih)
      · simp only [if_neg h] at ih
        refine bk_58_30 (fun h2 => ?_) (fun h2 => ?_)
        · simp only [if_pos h2] at ih
          exact bk_58_42 ih
        · simp only [if_neg h2] at ih
          exact bk_58_36 (bk_58_42 ih)
  exact loop n 0 (by omega)
/-- which of the first n vectors have the cell, as bits -/
def hor (I : Nat → Nat → Int32) (b : Nat) (x1 : Int32) : Nat → Int32
  | 0 => 0
  | n + 1 => if ¬ I (b + 9) n = x1 then hor I b x1 n else hor I b x1 n ||| (1 <<< (nI n &&& 31))
theorem cs_66 {l : LX} {d : Nat} {I : Nat → Nat → Int32} {F : Nat → Nat → UInt32} {L : Nat → Nat → Int64} {t b n : Nat} {x1 : Int32} (hb : isS b) (hn : I b 8 = nI n) (h12 : n ≤ 12) : Con l 66 d 0 0 [.ref b, .int x1] SH (I, F, L, RT t) (rI (hor I b x1 n) (I, F, L, RT t)) := by
  refine cn_66 (bk_66_0 ?_)
  have loop : ∀ k i, i + k = n → Wp l 66 d 0 0 (rI (hor I b x1 n) (I, F, L, RT t)) 0 0 4 [(0, .ref b), (1, .int x1), (2, .int (hor I b x1 i)), (3, .int (nI i))] [] SH (I, F, L, RT t) := by
    intro k
    induction k with
    | zero =>
      intro i hi
      obtain rfl : i = n := by omega
      exact bk_66_4 hb (fun _ => bk_66_34 ⟨rfl, rfl, rfl⟩) (fun h => absurd (by rw [hn]; exact nI_le (Nat.le_refl _) (by omega)) h)
    | succ k ih =>
      intro i hi
      have hin : i < n := by omega
      have ih := ih (i + 1) (by omega)
      rw [nI_succ] at ih
      simp only [hor] at ih
      have hc : (nI i).toNatClampNeg = i := nI_clamp (by omega)
      refine bk_66_4 hb (fun h => absurd h (by rw [hn]; exact nI_ge hin (by omega))) (fun _ => ?_)
      refine bk_66_12 hb (vp_in_nI (by omega) (by decide)) (fun h => ?_) (fun h => ?_)
      · rw [hc] at h
        rw [if_pos h] at ih
        exact bk_66_28 ih
      · rw [hc] at h
        rw [if_neg h] at ih
        exact bk_66_22 (bk_66_28 ih)
  exact loop n 0 (by omega)
end
