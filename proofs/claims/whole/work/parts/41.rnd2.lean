section
variable {nv nc tc : Nat} {I J : WI}
theorem op_rounds (h : kR 1 nv nc tc I J) (x : Int32) : g_138 I x ∧ g_233 J x ∧ (v_138 I x).1 = (v_233 J x).1 ∧ kR 1 nv nc tc (v_138 I x).2 (v_233 J x).2 := by
  have h4 := h.2.2.1.1
  have e1 := h.2.2.1.2.1
  have e2 := h.2.2.1.2.2.1
  have z01 : (0 : Int64) = Int32.toInt64 0 ∧ (1 : Int64) = Int32.toInt64 1 := by decide
  unfold v_138 v_233 g_138 g_233
  rw [z01.1, z01.2, v170_107, e1, e2]
  rcases v107_cases x 0 1 with ⟨e, b1, b2⟩ | ⟨e, -⟩
  rotate_left
  · rw [e, if_neg d00, if_neg d00]
    exact ⟨fun g => absurd rfl g, fun g => absurd rfl g, rfl, h⟩
  rw [e, if_pos d10, if_pos d10]
  by_cases hn : nc = 0
  · subst hn
    rw [if_neg (show ¬ ¬ nI 0 = 0 by decide), if_neg (show ¬ ¬ nI 0 = 0 by decide)]
    exact ⟨fun _ g => absurd rfl g, fun _ g => absurd rfl g, rfl, h⟩
  have hne : ¬ nI nc = 0 := by rw [show (0 : Int32) = nI 0 from rfl, nI_eq (by omega) (by omega)]; exact hn
  rw [if_pos hne, if_pos hne]
  have fI := (v76_pt (I := I) (b := 21) (r := 1) (by omega)).2
  have k1 := (v234_pt (J := J)).1
  have h1 : kR 1 nv nc tc I (v_234 J) := kR_cgJ h (fun c k hc => k1 c k (by omega))
  have h21 : kR 21 nv nc tc (v_76 I 21 1) (v_234 J) := lay_kR (by omega) h1
  have hQ0 : ∀ q j, q ≠ 80 → q ≠ 81 → q ≠ 82 → q ≠ 83 → q ≠ 86 → v_234 J q j = v_234 J q j := fun _ _ _ _ _ _ _ => rfl
  have L := rounds_lp (by omega) 400 0 (v_76 I 21 1) (v_234 J) 1 0 (by omega) (by omega) (Or.inr ⟨rfl, rfl⟩) h21
  have n0 : nI 0 = 0 := rfl
  rw [n0] at L
  obtain ⟨l1, l2, l3, l4, l5, l6⟩ := L
  have back := fun (P Q : WI) (a : ∀ q j, q < 21 → P q j = I q j) b => back_kR (P := P) (Q := Q) h a b
  generalize hA : v_76 I 21 1 = A at l1 l3 l4 l5 fI
  generalize hB : v_234 J = B at l2 l3 l4 l6 back
  clear h21 h1 k1 hQ0
  simp only [bx]
  have hX : ∃ X, X = lp_138_40 400 0 1 A := ⟨_, rfl⟩
  have hY : ∃ Y, Y = lp_233_31 400 0 0 B := ⟨_, rfl⟩
  obtain ⟨X, hX⟩ := hX
  obtain ⟨Y, hY⟩ := hY
  rw [← hX] at l3 l4 l5 ⊢
  rw [← hY] at l3 l4 l6 ⊢
  have a8 := l4.2.2.2.2.2.1.2.1
  have a18 := l4.2.2.2.2.2.1.2.2.1
  have h12 := l4.2.2.2.2.2.1.1
  have gs := g_spread l4.2.2.1 l4.2.2.2.2.2.1
  have sp := spread_lp l4.2.2.1 l4.2.2.2.2.1 l4.2.2.2.2.2.1 nv (Nat.le_refl _)
  have e77 : v_77 X.2 21 = lp_77_4 X.2 21 0 nv := by
    show lp_77_4 X.2 21 0 (X.2 21 8).toNatClampNeg = _
    rw [a8, cl (show nv < 2 ^ 31 by omega)]
  have g77 : g_77 X.2 21 := by
    show gl_77_4 X.2 21 0 (X.2 21 8).toNatClampNeg
    rw [a8, cl (show nv < 2 ^ 31 by omega)]
    exact gs.1
  rw [a18, cl (show nv < 2 ^ 31 by omega), e77, sp]
  have bk := back X.2 Y.2 (fun q j hq => by rw [l5 q j (by omega)]; exact fI q j (by omega)) l6
  refine ⟨fun _ _ => ⟨l1, fun _ => g77⟩, fun _ _ => ⟨g_keep.1, l2, gs.2, g_keep.2⟩, ?_, ?_⟩
  · by_cases z : x = 0
    · rw [if_neg (fun a => a z), if_neg (fun a => a z)]
      exact l3
    · rw [if_pos z, if_pos z]
  · by_cases z : x = 0
    · rw [if_neg (fun a => a z), if_neg (fun a => a z)]
      exact bk
    · rw [if_pos z, if_pos z]
      exact bk
end
