section
variable {I J I0 J0 : WI} {b nv nc k v m c : Nat}
/-! one cell read -/
def pR (J : WI) : Nat → Bool := fun v => decide (¬ J 97 v = 0 ∧ ¬ J 98 v = 0)
theorem pR_iff {v : Nat} : pR J v = true ↔ ¬ J 97 v = 0 ∧ ¬ J 98 v = 0 := by unfold pR; exact decide_eq_true_iff
theorem pR_cg {J' : WI} {v : Nat} (h1 : J' 97 v = J 97 v) (h2 : J' 98 v = J 98 v) : pR J' v = pR J v := by unfold pR; rw [h1, h2]
/-- who is read -/
def r8 (J : WI) : Nat → Bool := fun v => decide (¬ J 98 v = 0)
theorem r8_cg {J' : WI} {v : Nat} (h : J' 98 v = J 98 v) : r8 J' v = r8 J v := by unfold r8; rw [h]
/-- in step: who is held, and the counts -/
def RI (k nv : Nat) (I J : WI) : Prop := HL k (pR J) nv I J ∧ I 38 4 = J 74 46 ∧ I 38 5 = J 74 47 ∧ I 38 6 = J 74 48 ∧ J 74 46 = nI (szr (r8 J) nv)
/-- who was looked at and is not held has enough ahead -/
def SK (D : Nat → Prop) (k nv m : Nat) (J : WI) : Prop := ∀ v, v < nv → D v → m.testBit v = true → pR J v = true ∨ k ≤ ctr (pR J) (fg J) v nv
def rst3 (J : WI) (j : Nat) (x a c : Int32) : WI := up2 (up2 (up2 J 98 j x) 74 46 (J 74 46 + a)) 74 47 (J 74 47 + c)
theorem rst3_o {j q l : Nat} {x a d : Int32} (h1 : ¬ (q = 98 ∧ l = j)) (h2 : ¬ (q = 74 ∧ (l = 46 ∨ l = 47))) : rst3 J j x a d q l = J q l := by
  unfold rst3
  rw [up2_nk (by omega), up2_nk (by omega), up2_nk (by omega)]
theorem rst3_8 {j : Nat} {x a d : Int32} : rst3 J j x a d 98 j = x ∧ rst3 J j x a d 74 46 = J 74 46 + a ∧ rst3 J j x a d 74 47 = J 74 47 + d := by
  unfold rst3
  refine ⟨?_, ?_, up2_pt⟩
  · rw [up2_nk (by omega), up2_nk (by omega), up2_pt]
  · rw [up2_nk (by omega), up2_pt]
theorem nn {p : Prop} (h : p) : ¬ ¬ p := fun w => w h
/-- the class's step -/
theorem st39 {x2 x5 x6 : Int32} {j : Nat} {A : WI} (h : lp_39_23 I x2 b x5 x6 j = A) : lp_39_23 I x2 b x5 x6 (j + 1) = (if (v_111 x5 (nI j)) = 0 then A else (if (v_38 A (v_63 A b (nI j)) x2) = 0 then (if (v_111 x6 (nI j)) = 0 then (up2 A 38 4 ((A 38 4) + 1)) else (v_40 (up2 A 38 4 ((A 38 4) + 1)) (nI j) (v_22 (up2 A 38 4 ((A 38 4) + 1)) b (nI j)) x2)) else (up2 A 38 5 ((A 38 5) + 1)))) := by
  rw [lp_39_23, h, bxd, bxd, bxd]
theorem nar1 : vp_nar (bT 0) 1 = 1 := nar0.2
theorem nar00 : vp_nar (bT 0) 0 = 0 := nar0.1
/-- the reference's step -/
theorem st237 {x1 x2 : Int32} {j : Nat} {A : WI} (hj : j < 100) (h : lp_237_81 J x1 x2 j = A) : lp_237_81 J x1 x2 (j + 1) = (if ¬ (A 86 j) = x2 then A else (if (v_180 A (nI j)) = 0 then A else (if v_240 A (v_218 A (nI j)) x1 = 0 then rst3 A j 1 1 0 else rst3 A j 0 0 1))) := by
  have ej : (nI j).toNatClampNeg = j := cl (by omega)
  rw [lp_237_81, h, bxd, bxd, ej]
  by_cases a : A 86 j = x2
  · rw [if_neg (nn a), if_neg (nn a)]
    by_cases c : v_180 A (nI j) = 0
    · rw [if_pos c, if_pos c]
    · rw [if_neg c, if_neg c, bxd, bxd, bxd]
      by_cases d : v_240 A (v_218 A (nI j)) x1 = 0
      · rw [if_neg (nn d), if_pos d, nar1, up2_pt, if_neg d10, if_neg d10, up2_nk (by omega)]
        rfl
      · rw [if_pos d, if_neg d, nar00, up2_pt, if_pos rfl, if_pos rfl, up2_nk (by omega)]
        rfl
  · rw [if_pos a, if_pos a]
end
