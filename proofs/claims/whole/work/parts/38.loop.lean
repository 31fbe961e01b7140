section
variable {nv nc tc : Nat}
def rst (I J I' J' : WI) : Prop := (∀ q j, (q < 25 ∨ 30 < q) → I' q j = I q j) ∧ (∀ q j, q ≠ 80 → q ≠ 81 → q ≠ 82 → q ≠ 83 → q ≠ 86 → J' q j = J q j)
theorem rounds_lp (hn : 0 < nc) : ∀ f s (I J : WI) (x y : Int32), s ≤ 20 → 20 - s < f → (x = 0 ∧ y = 1 ∨ x = 1 ∧ y = 0) → kR 21 nv nc tc I J →
    gl_138_40 f (nI s) x I ∧ gl_233_31 f (nI s) y J ∧ (lp_138_40 f (nI s) x I).1 = (lp_233_31 f (nI s) y J).1 ∧ kR 21 nv nc tc (lp_138_40 f (nI s) x I).2 (lp_233_31 f (nI s) y J).2 ∧
      rst I J (lp_138_40 f (nI s) x I).2 (lp_233_31 f (nI s) y J).2 := by
  intro f
  induction f with
  | zero => intro s I J x y h1 h2; omega
  | succ f ih =>
    intro s I J x y h1 h2 hxy h
    have eI : lp_138_40 (f + 1) (nI s) x I = if x = 0 then (nI s, I) else if 20 ≤ nI s then (nI s, I) else lp_138_40 f (nI s + 1) (if (v_74 I 21).1 ≤ 0 then 0 else 1) (v_74 I 21).2 := rfl
    have eJ : lp_233_31 (f + 1) (nI s) y J = if 20 ≤ nI s then (nI s, J) else if ¬ y = 0 then (nI s, J) else lp_233_31 f (nI s + 1) (if ¬ (v_232 J).1 = 0 then 0 else 1) (v_232 J).2 := rfl
    have gI : gl_138_40 (f + 1) (nI s) x I ↔ (¬ x = 0 → ¬ 20 ≤ nI s → g_74 I 21 ∧ gl_138_40 f (nI s + 1) (if (v_74 I 21).1 ≤ 0 then 0 else 1) (v_74 I 21).2) := Iff.rfl
    have gJ : gl_233_31 (f + 1) (nI s) y J ↔ (¬ 20 ≤ nI s → ¬ ¬ y = 0 → g_232 J ∧ gl_233_31 f (nI s + 1) (if ¬ (v_232 J).1 = 0 then 0 else 1) (v_232 J).2) := Iff.rfl
    rw [eI, eJ, gI, gJ]
    have c20 : (20 ≤ nI s) ↔ 20 ≤ s := by
      rw [Int32.le_iff_toInt_le, nI_toInt (by omega), show (20 : Int32).toInt = 20 by decide]
      omega
    have stop : rst I J I J := ⟨fun _ _ _ => rfl, fun _ _ _ _ _ _ _ => rfl⟩
    by_cases z : 20 ≤ s
    · have z2 := c20.mpr z
      have e1 : (if x = 0 then (nI s, I) else if 20 ≤ nI s then (nI s, I) else lp_138_40 f (nI s + 1) (if (v_74 I 21).1 ≤ 0 then 0 else 1) (v_74 I 21).2) = (nI s, I) := by
        rw [if_pos z2]
        split <;> rfl
      rw [e1, if_pos z2]
      exact ⟨fun _ g => absurd z2 g, fun g => absurd z2 g, rfl, h, stop⟩
    · have z2 : ¬ 20 ≤ nI s := fun g => z (c20.mp g)
      rcases hxy with ⟨rfl, rfl⟩ | ⟨rfl, rfl⟩
      · rw [if_pos rfl, if_neg z2, if_pos d10]
        exact ⟨fun g => absurd rfl g, fun _ g => absurd d10 g, rfl, h, stop⟩
      · rw [if_neg d10, if_neg z2, if_neg z2, if_neg d00, nI_1]
        obtain ⟨a1, a2, a3, a4, a5, a6, a7⟩ := anew h hn
        have t0 : (0 : Int32).toInt = 0 := by decide
        have fl : (if (v_74 I 21).1 ≤ 0 then (0 : Int32) else 1) = 0 ∧ (if ¬ (v_232 J).1 = 0 then (0 : Int32) else 1) = 1 ∨ (if (v_74 I 21).1 ≤ 0 then (0 : Int32) else 1) = 1 ∧ (if ¬ (v_232 J).1 = 0 then (0 : Int32) else 1) = 0 := by
          rw [a3]
          unfold bt at a4
          by_cases w : (v_232 J).1 = 0
          · left
            rw [if_pos (by rw [w]; decide), if_neg (fun g => g w)]
            exact ⟨rfl, rfl⟩
          · right
            rw [if_neg (fun g => w (Int32.toInt_inj.mp (by rw [Int32.le_iff_toInt_le] at g; omega))), if_pos w]
            exact ⟨rfl, rfl⟩
        have r := ih (s + 1) (v_74 I 21).2 (v_232 J).2 _ _ (by omega) (by omega) fl a5
        obtain ⟨r1, r2, r3, r4, r5, r6⟩ := r
        refine ⟨fun _ _ => ⟨a1, r1⟩, fun _ _ => ⟨a2, r2⟩, r3, r4, fun q j hq => ?_, fun q j b1 b2 b3 b4 b5 => ?_⟩
        · rw [r5 q j hq, a6 q j (by omega) (by omega) (by omega) (by omega)]
        · rw [r6 q j b1 b2 b3 b4 b5, a7 q j b1 b2 b3 b4 b5]
end
