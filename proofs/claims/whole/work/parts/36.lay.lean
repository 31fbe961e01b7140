section
variable {b r nv nc tc : Nat} {I J I' A : WI}
/-! a shelf laid over another -/
def DD (d k : Nat) : Prop := (d = 0 ∧ (k = 1 ∨ k = 2 ∨ k = 4 ∨ k = 8 ∨ k = 12)) ∨ (d = 1 ∧ k < 3) ∨ (d = 2 ∧ k < 3) ∨ (d = 3 ∧ k < 3) ∨ ((d = 4 ∨ d = 5 ∨ d = 6 ∨ d = 8 ∨ d = 9) ∧ k < 12) ∨ (d = 7 ∧ k < 36)
theorem kR_mv (h : kR r nv nc tc I J) (hI : ∀ d k, DD d k → I' (b + d) k = I (r + d) k) : kR b nv nc tc I' J := by
  obtain ⟨hA, hQ, hC, hB, hP, hV, hN, hr, t, hr1, hr2⟩ := h
  have h4 := hC.1
  have h12 := hV.1
  have e0 : ∀ k, (k = 1 ∨ k = 2 ∨ k = 4 ∨ k = 8 ∨ k = 12) → I' b k = I r k := fun k hk => hI 0 k (Or.inl ⟨rfl, hk⟩)
  have eR : ∀ d k, (d = 1 ∧ k < 3) ∨ (d = 2 ∧ k < 3) ∨ (d = 3 ∧ k < 3) ∨ ((d = 4 ∨ d = 5 ∨ d = 6 ∨ d = 8 ∨ d = 9) ∧ k < 12) ∨ (d = 7 ∧ k < 36) → I' (b + d) k = I (r + d) k := fun d k hk => hI d k (Or.inr hk)
  refine ⟨?_, ?_, ?_, ?_, ?_, ?_, hN, ?_, t, hr1, hr2⟩
  · obtain ⟨⟨a1, a2, a3, a4, a5⟩, cc⟩ := hA
    refine ⟨⟨?_, ?_, ?_, ?_, fun i hi => ?_⟩, cc⟩
    · rw [e0 1 (by omega)]; exact a1
    · rw [eR 1 1 (by omega)]; exact a2
    · rw [eR 1 2 (by omega)]; exact a3
    · rw [eR 1 0 (by omega)]; exact a4
    · rw [eR 2 i (by omega)]; exact a5 i hi
  · intro i hi
    rw [eR 3 i (by omega)]; exact hQ i hi
  · obtain ⟨c1, c2, c3, c4⟩ := hC
    refine ⟨c1, ?_, c3, fun i hi => ?_⟩
    · rw [e0 4 (by omega)]; exact c2
    · rw [eR 4 i (by omega)]; exact c4 i hi
  · intro c hc
    rcases hB c hc with ⟨z, bb⟩ | ⟨z, bb⟩
    · left
      refine ⟨z, fun i hi => ?_⟩
      rw [eR 5 _ (by omega), eR 6 _ (by omega)]; exact bb i hi
    · right
      refine ⟨z, fun i hi => ?_⟩
      rw [eR 5 _ (by omega), eR 6 _ (by omega)]; exact bb i hi
  · intro i hi
    rw [eR 7 i (by omega)]; exact hP i hi
  · obtain ⟨v1, v2, v3, v4, v5, v6, m, v7, v8, v9⟩ := hV
    refine ⟨v1, ?_, v3, fun v hv => ?_, v5, v6, m, v7, ?_, v9⟩
    · rw [e0 8 (by omega)]; exact v2
    · rw [eR 8 v (by omega), eR 9 v (by omega)]; exact v4 v hv
    · rw [e0 12 (by omega)]; exact v8
  · rw [e0 2 (by omega)]; exact hr
def Lay (b r : Nat) (I : WI) (D : Nat → Nat → Prop) (A : WI) : Prop := (∀ d j, d < 10 → D d j → A (b + d) j = I (r + d) j) ∧ (∀ q j, (q < b ∨ b + 10 ≤ q) → A q j = I q j)
theorem lay_up {D : Nat → Nat → Prop} {d k : Nat} (hbr : r + 10 ≤ b ∨ b + 10 ≤ r) (hd : d < 10) (h : Lay b r I D A) : Lay b r I (fun x y => (x = d ∧ y = k) ∨ D x y) (up2 A (b + d) k (A (r + d) k)) := by
  refine ⟨fun x y hx hD => ?_, fun q j hq => ?_⟩
  · by_cases z : x = d ∧ y = k
    · obtain ⟨rfl, rfl⟩ := z
      rw [show up2 A (b + x) y (A (r + x) y) (b + x) y = A (r + x) y by simp [up2]]
      exact h.2 (r + x) y (by omega)
    · rw [up2_nk (by omega)]
      rcases hD with w | w
      · exact absurd w z
      · exact h.1 x y hx w
  · rw [up2_nk (by omega)]
    exact h.2 q j hq
theorem lay_cp {D : Nat → Nat → Prop} {d n : Nat} (hbr : r + 10 ≤ b ∨ b + 10 ≤ r) (hd : d < 10) (h : Lay b r I D A) : Lay b r I (fun x y => (x = d ∧ y < n) ∨ D x y) (upR A (b + d) (va_cpy (A (r + d)) (A (b + d)) 0 0 n)) := by
  refine ⟨fun x y hx hD => ?_, fun q j hq => ?_⟩
  · by_cases z : x = d
    · subst z
      have e : upR A (b + x) (va_cpy (A (r + x)) (A (b + x)) 0 0 n) (b + x) y = va_cpy (A (r + x)) (A (b + x)) 0 0 n y := by
        unfold upR
        rw [if_pos rfl]
      rw [e]
      by_cases w : y < n
      · have e2 : va_cpy (A (r + x)) (A (b + x)) 0 0 n y = A (r + x) (0 + (y - 0)) := if_pos ⟨by omega, by omega⟩
        rw [e2, show 0 + (y - 0) = y by omega]
        exact h.2 (r + x) y (by omega)
      · have e2 : va_cpy (A (r + x)) (A (b + x)) 0 0 n y = A (b + x) y := if_neg (by omega)
        rw [e2]
        rcases hD with u | u
        · exact absurd u.2 w
        · exact h.1 x y hx u
    · rw [upR_nk (by omega)]
      rcases hD with u | u
      · exact absurd u.1 z
      · exact h.1 x y hx u
  · rw [upR_nk (by omega)]
    exact h.2 q j hq
theorem lay_eq {D : Nat → Nat → Prop} {B : WI} (h : Lay b r I D A) (e : B = A) : Lay b r I D B := by rw [e]; exact h
def LayD (b r : Nat) (I A : WI) : Prop := (∀ d k, DD d k → A (b + d) k = I (r + d) k) ∧ ∀ q j, (q < b ∨ b + 10 ≤ q) → A q j = I q j
theorem v76_lay (hbr : r + 10 ≤ b ∨ b + 10 ≤ r) : LayD b r I (v_76 I b r) := by
  have l0 : Lay b r I (fun _ _ => False) I := ⟨fun _ _ _ h => h.elim, fun _ _ _ => rfl⟩
  have l1 := lay_up (k := 0) hbr (show 1 < 10 by omega) l0
  have l2 := lay_up (k := 1) hbr (show 1 < 10 by omega) l1
  have l3 := lay_up (k := 2) hbr (show 1 < 10 by omega) l2
  have l4 := lay_cp (n := 3) hbr (show 2 < 10 by omega) l3
  unfold v_76
  refine bx_gen (fun p1 e => ?_)
  have l4 := lay_eq l4 e
  clear e l0 l1 l2 l3
  have l5 := lay_up (k := 1) hbr (show 0 < 10 by omega) l4
  have l6 := lay_up (k := 2) hbr (show 0 < 10 by omega) l5
  have l7 := lay_cp (n := 3) hbr (show 3 < 10 by omega) l6
  refine bx_gen (fun p2 e => ?_)
  have l7 := lay_eq l7 e
  clear e l5 l6 l4
  have m1 := lay_up (k := 4) hbr (show 0 < 10 by omega) l7
  have m2 := lay_cp (n := 12) hbr (show 4 < 10 by omega) m1
  refine bx_gen (fun p3 e => ?_)
  have m2 := lay_eq m2 e
  clear e m1 l7
  have m3 := lay_cp (n := 12) hbr (show 5 < 10 by omega) m2
  refine bx_gen (fun p4 e => ?_)
  have m3 := lay_eq m3 e
  clear e m2
  have m4 := lay_cp (n := 12) hbr (show 6 < 10 by omega) m3
  refine bx_gen (fun p5 e => ?_)
  have m4 := lay_eq m4 e
  clear e m3
  have m5 := lay_up (k := 8) hbr (show 0 < 10 by omega) m4
  have m6 := lay_cp (n := 36) hbr (show 7 < 10 by omega) m5
  refine bx_gen (fun p6 e => ?_)
  have m6 := lay_eq m6 e
  clear e m4 m5
  have m7 := lay_cp (n := 12) hbr (show 8 < 10 by omega) m6
  refine bx_gen (fun p7 e => ?_)
  have m7 := lay_eq m7 e
  clear e m6
  have m8 := lay_cp (n := 12) hbr (show 9 < 10 by omega) m7
  refine bx_gen (fun p8 e => ?_)
  have m8 := lay_eq m8 e
  clear e m7
  have m9 := lay_up (k := 12) hbr (show 0 < 10 by omega) m8
  refine ⟨fun d k hD => m9.1 d k ?_ ?_, m9.2⟩
  · rcases hD with ⟨rfl, -⟩ | ⟨rfl, -⟩ | ⟨rfl, -⟩ | ⟨rfl, -⟩ | ⟨rfl | rfl | rfl | rfl | rfl, -⟩ | ⟨rfl, -⟩ <;> decide
  · rcases hD with ⟨rfl, rfl | rfl | rfl | rfl | rfl⟩ | ⟨rfl, hk⟩ | ⟨rfl, hk⟩ | ⟨rfl, hk⟩ | ⟨rfl | rfl | rfl | rfl | rfl, hk⟩ | ⟨rfl, hk⟩
    · simp
    · simp
    · simp
    · simp
    · simp
    · simp
      omega
    all_goals simp [hk]
theorem v76_pt (hbr : r + 10 ≤ b ∨ b + 10 ≤ r) : (∀ d k, DD d k → v_76 I b r (b + d) k = I (r + d) k) ∧ ∀ q j, (q < b ∨ b + 10 ≤ q) → v_76 I b r q j = I q j := v76_lay hbr
/-- a shelf laid elsewhere stands to the reference as the first one does -/
theorem lay_kR (hbr : r + 10 ≤ b ∨ b + 10 ≤ r) (h : kR r nv nc tc I J) : kR b nv nc tc (v_76 I b r) J := kR_mv h (v76_pt hbr).1
end
