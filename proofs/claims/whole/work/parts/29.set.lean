section
variable {b nv nc tc : Nat} {I J : WI}
theorem kA_set {k c i : Nat} {x : Int32} (h : kA b I J) (hx : (k = 0 → bt 1 64 x) ∧ (k = 1 → bt 0 99 x) ∧ (k = 2 → bt 0 999999 x) ∧ (k = 3 → bt 0 5 x) ∧ (4 ≤ k → bt 1 9 x))
    (hk : (k = 0 ∧ c = b ∧ i = 1) ∨ (k = 1 ∧ c = b + 1 ∧ i = 1) ∨ (k = 2 ∧ c = b + 1 ∧ i = 2) ∨ (k = 3 ∧ c = b + 1 ∧ i = 0) ∨ (4 ≤ k ∧ k < 7 ∧ c = b + 2 ∧ i = k - 4)) : kA b (up2 I c i x) (up2 J 78 k x) ∧ I c i = J 78 k := by
  obtain ⟨⟨a1, a2, a3, a4, a5⟩, c1, c2, c3, c4, c5⟩ := h
  have e : ∀ c' i' k', ((c' = c ∧ i' = i) ↔ k' = k) → I c' i' = J 78 k' → up2 I c i x c' i' = up2 J 78 k x 78 k' := fun c' i' k' h1 h2 => by
    by_cases z : k' = k
    · obtain ⟨z1, z2⟩ := h1.mpr z
      subst z1; subst z2; subst z
      simp [up2]
    · rw [up2_nk (fun z' => z (h1.mp z')), up2_nk (by omega)]
      exact h2
  have f : ∀ k' lo hi, (k' = k → bt lo hi x) → bt lo hi (J 78 k') → bt lo hi (up2 J 78 k x 78 k') := fun k' lo hi h1 h2 => by
    by_cases z : k' = k
    · subst z
      simp only [up2, and_self, if_true]
      exact h1 rfl
    · rw [up2_nk (by omega)]
      exact h2
  refine ⟨⟨⟨e _ _ _ (by omega) a1, e _ _ _ (by omega) a2, e _ _ _ (by omega) a3, e _ _ _ (by omega) a4, fun j hj => e _ _ _ (by omega) (a5 j hj)⟩, f _ _ _ (fun z => hx.1 z.symm) c1, f _ _ _ (fun z => hx.2.1 z.symm) c2, f _ _ _ (fun z => hx.2.2.1 z.symm) c3, f _ _ _ (fun z => hx.2.2.2.1 z.symm) c4, fun j hj => f _ _ _ (fun z => hx.2.2.2.2 (by omega)) (c5 j hj)⟩, ?_⟩
  rcases hk with ⟨rfl, rfl, rfl⟩ | ⟨rfl, rfl, rfl⟩ | ⟨rfl, rfl, rfl⟩ | ⟨rfl, rfl, rfl⟩ | ⟨g1, g2, rfl, rfl⟩
  · exact a1
  · exact a2
  · exact a3
  · exact a4
  · have := a5 (k - 4) (by omega)
    rw [show 4 + (k - 4) = k by omega] at this
    exact this
theorem kR_set {k c i : Nat} {x : Int32} (h : kR b nv nc tc I J) (hx : (k = 0 → bt 1 64 x) ∧ (k = 1 → bt 0 99 x) ∧ (k = 2 → bt 0 999999 x) ∧ (k = 3 → bt 0 5 x) ∧ (4 ≤ k → bt 1 9 x))
    (hk : (k = 0 ∧ c = b ∧ i = 1) ∨ (k = 1 ∧ c = b + 1 ∧ i = 1) ∨ (k = 2 ∧ c = b + 1 ∧ i = 2) ∨ (k = 3 ∧ c = b + 1 ∧ i = 0) ∨ (4 ≤ k ∧ k < 7 ∧ c = b + 2 ∧ i = k - 4)) : I c i = J 78 k ∧ kR b nv nc tc (up2 I c i x) (up2 J 78 k x) := by
  obtain ⟨hA, hQ, hC, hB, hP, hV, hN, hr, r, hr1, hr2⟩ := h
  have s := kA_set hA hx hk
  have FI : ∀ c' k', ¬ (c' = c ∧ k' = i) → up2 I c i x c' k' = I c' k' := fun c' k' a => up2_nk a
  have FJ : ∀ c' k', c' ≠ 78 → up2 J 78 k x c' k' = J c' k' := fun c' k' a => up2_nk (by omega)
  refine ⟨s.2, s.1, kQ_cg hQ (fun k' _ => FI (b + 3) k' (by omega)) (fun k' _ => FJ 79 k' (by omega)), kC_cg hC (fun c' k' _ => FI c' k' (by omega)) (fun c' k' _ => FJ c' k' (by omega)), kB_cg hC.1 hB (fun c' k' _ => FI c' k' (by omega)) (fun c' k' _ => FJ c' k' (by omega)), kP_cg hP (fun k' _ => FI (b + 7) k' (by omega)) (fun k' _ => FJ 84 k' (by omega)), kV_cg hV (fun c' k' _ => FI c' k' (by omega)) (fun c' k' _ => FJ c' k' (by omega)), kN_cg hV.1 hC.1 hN (fun c' k' _ => FJ c' k' (by omega)), ?_, r, hr1, ?_⟩
  · rw [FI b 2 (by omega), FJ 74 4 (by omega)]; exact hr
  · rw [FJ 74 4 (by omega)]; exact hr2
theorem n06 {x : Int32} (h : 0 ≤ x.toInt ∧ x.toInt ≤ 6) : x = 0 ∨ x = 1 ∨ x = 2 ∨ x = 3 ∨ x = 4 ∨ x = 5 ∨ x = 6 := by
  obtain ⟨h1, h2⟩ := h
  have t : (0 : Int32).toInt = 0 ∧ (1 : Int32).toInt = 1 ∧ (2 : Int32).toInt = 2 ∧ (3 : Int32).toInt = 3 ∧ (4 : Int32).toInt = 4 ∧ (5 : Int32).toInt = 5 ∧ (6 : Int32).toInt = 6 := by decide
  rcases (show x.toInt = 0 ∨ x.toInt = 1 ∨ x.toInt = 2 ∨ x.toInt = 3 ∨ x.toInt = 4 ∨ x.toInt = 5 ∨ x.toInt = 6 by omega) with z | z | z | z | z | z | z
  · exact Or.inl (Int32.toInt_inj.mp (by omega))
  · exact Or.inr (Or.inl (Int32.toInt_inj.mp (by omega)))
  · exact Or.inr (Or.inr (Or.inl (Int32.toInt_inj.mp (by omega))))
  · exact Or.inr (Or.inr (Or.inr (Or.inl (Int32.toInt_inj.mp (by omega)))))
  · exact Or.inr (Or.inr (Or.inr (Or.inr (Or.inl (Int32.toInt_inj.mp (by omega))))))
  · exact Or.inr (Or.inr (Or.inr (Or.inr (Or.inr (Or.inl (Int32.toInt_inj.mp (by omega)))))))
  · exact Or.inr (Or.inr (Or.inr (Or.inr (Or.inr (Or.inr (Int32.toInt_inj.mp (by omega)))))))
theorem g69 (x : Int32) : g_69 x := by
  unfold g_69
  refine ⟨fun _ => trivial, fun _ => ⟨fun _ => trivial, fun _ => ⟨fun _ => trivial, fun _ => ⟨fun _ => trivial, fun _ => ⟨fun e => ?_, fun _ => ⟨fun e => ?_, fun _ => ⟨fun e => ?_, fun _ => trivial⟩⟩⟩⟩⟩⟩⟩ <;> (subst e; unfold vp_in; decide)
theorem op_set_one {k c i : Nat} {lo hi : Int32} {x1 x2 : Int32} (h : kR 1 nv nc tc I J) (e1 : v_118 x1 x2 = v_107 x2 lo hi) (e2 : v_169 J x1 x2 = if ¬ v_107 x2 lo hi = 0 then (J 78 k, up2 J 78 k x2) else (-2, J)) (e3 : v_69 I 1 x1 x2 = (I c i, up2 I c i x2)) (g1 : g_69 x1) (g2 : g_169 x1 x2)
    (hx : ∀ x : Int32, bt lo.toInt hi.toInt x → (k = 0 → bt 1 64 x) ∧ (k = 1 → bt 0 99 x) ∧ (k = 2 → bt 0 999999 x) ∧ (k = 3 → bt 0 5 x) ∧ (4 ≤ k → bt 1 9 x))
    (hk : (k = 0 ∧ c = 1 ∧ i = 1) ∨ (k = 1 ∧ c = 1 + 1 ∧ i = 1) ∨ (k = 2 ∧ c = 1 + 1 ∧ i = 2) ∨ (k = 3 ∧ c = 1 + 1 ∧ i = 0) ∨ (4 ≤ k ∧ k < 7 ∧ c = 1 + 2 ∧ i = k - 4)) :
    g_117 x1 x2 ∧ g_169 x1 x2 ∧ (v_117 I x1 x2).1 = (v_169 J x1 x2).1 ∧ kR 1 nv nc tc (v_117 I x1 x2).2 (v_169 J x1 x2).2 := by
  unfold v_117 g_117
  rw [e1, e2]
  rcases v107_cases x2 lo hi with ⟨e, b1, b2⟩ | ⟨e, -⟩
  · have s := kR_set h (hx x2 ⟨b1, b2⟩) hk
    rw [e, if_pos d10, if_pos d10]
    simp only [bx, e3]
    exact ⟨fun _ => g1, g2, s.1, s.2⟩
  · rw [e, if_neg d00, if_neg d00]
    exact ⟨fun g => absurd rfl g, g2, rfl, h⟩
theorem op_set (h : kR 1 nv nc tc I J) (x1 x2 : Int32) : g_117 x1 x2 ∧ g_169 x1 x2 ∧ (v_117 I x1 x2).1 = (v_169 J x1 x2).1 ∧ kR 1 nv nc tc (v_117 I x1 x2).2 (v_169 J x1 x2).2 := by
  have z0 : (0 : Int64) = Int32.toInt64 0 := by decide
  have z1 : (1 : Int64) = Int32.toInt64 1 := by decide
  have z6 : (6 : Int64) = Int32.toInt64 6 := by decide
  rcases v107_cases x1 0 6 with ⟨e, b1, b2⟩ | ⟨e, hn⟩
  · have t : (0 : Int32).toInt = 0 ∧ (6 : Int32).toInt = 6 := by decide
    have fin : ∀ (x1 : Int32) (lo hi : Int32) (lo6 : Int64) (k : Nat), v_107 x1 0 6 = 1 → (if x1 = 0 then (1 : Int64) else if x1 ≤ 3 then 0 else 1) = lo6 → lo6 = Int32.toInt64 lo → v_171 x1 = hi → x1.toNatClampNeg = k → v_169 J x1 x2 = if ¬ v_107 x2 lo hi = 0 then (J 78 k, up2 J 78 k x2) else (-2, J) := by
      intro x1 lo hi lo6 k h1 h2 h3 h4 h5
      unfold v_169
      rw [z0, z6, v170_107, h1, if_neg d10]
      simp only [bx]
      rw [← z0, h2, h4, h5, h3, v170_107]
    have g169 : ∀ x1 : Int32, vp_in x1 7 → g_169 x1 x2 := fun x1 hin _ _ => hin
    rcases n06 (x := x1) ⟨by omega, by omega⟩ with rfl | rfl | rfl | rfl | rfl | rfl | rfl
    · exact op_set_one (k := 0) (c := 1) (i := 1) (lo := 1) (hi := 64) h rfl (fin 0 1 64 1 0 e (by decide) z1 (by decide) (by decide)) rfl (g69 _) (g169 _ (by unfold vp_in; decide)) (fun x hx => ⟨fun _ => hx, by omega, by omega, by omega, by omega⟩) (by omega)
    · exact op_set_one (k := 1) (c := 2) (i := 1) (lo := 0) (hi := 99) h rfl (fin 1 0 99 0 1 e (by decide) z0 (by decide) (by decide)) rfl (g69 _) (g169 _ (by unfold vp_in; decide)) (fun x hx => ⟨by omega, fun _ => hx, by omega, by omega, by omega⟩) (by omega)
    · exact op_set_one (k := 2) (c := 2) (i := 2) (lo := 0) (hi := 999999) h rfl (fin 2 0 999999 0 2 e (by decide) z0 (by decide) (by decide)) rfl (g69 _) (g169 _ (by unfold vp_in; decide)) (fun x hx => ⟨by omega, by omega, fun _ => hx, by omega, by omega⟩) (by omega)
    · exact op_set_one (k := 3) (c := 2) (i := 0) (lo := 0) (hi := 5) h rfl (fin 3 0 5 0 3 e (by decide) z0 (by decide) (by decide)) rfl (g69 _) (g169 _ (by unfold vp_in; decide)) (fun x hx => ⟨by omega, by omega, by omega, fun _ => hx, by omega⟩) (by omega)
    · exact op_set_one (k := 4) (c := 3) (i := 0) (lo := 1) (hi := 9) h rfl (fin 4 1 9 1 4 e (by decide) z1 (by decide) (by decide)) rfl (g69 _) (g169 _ (by unfold vp_in; decide)) (fun x hx => ⟨by omega, by omega, by omega, by omega, fun _ => hx⟩) (by omega)
    · exact op_set_one (k := 5) (c := 3) (i := 1) (lo := 1) (hi := 9) h rfl (fin 5 1 9 1 5 e (by decide) z1 (by decide) (by decide)) rfl (g69 _) (g169 _ (by unfold vp_in; decide)) (fun x hx => ⟨by omega, by omega, by omega, by omega, fun _ => hx⟩) (by omega)
    · exact op_set_one (k := 6) (c := 3) (i := 2) (lo := 1) (hi := 9) h rfl (fin 6 1 9 1 6 e (by decide) z1 (by decide) (by decide)) rfl (g69 _) (g169 _ (by unfold vp_in; decide)) (fun x hx => ⟨by omega, by omega, by omega, by omega, fun _ => hx⟩) (by omega)
  · have t : (0 : Int32).toInt = 0 ∧ (6 : Int32).toInt = 6 := by decide
    have f : ∀ k : Int32, 0 ≤ k.toInt ∧ k.toInt ≤ 6 → ¬ x1 = k := by
      intro k hk e
      subst e
      exact hn (by omega)
    have e8 : v_118 x1 x2 = 0 := by
      unfold v_118
      rw [if_neg (f 0 (by decide)), if_neg (f 1 (by decide)), if_neg (f 2 (by decide)), if_neg (f 3 (by decide)), if_neg (f 4 (by decide)), if_neg (f 5 (by decide)), if_neg (f 6 (by decide))]
    unfold v_117 v_169 g_117 g_169
    rw [e8, if_neg d00, z0, z6, v170_107, e, if_pos rfl]
    exact ⟨fun g => absurd rfl g, fun g => absurd rfl g, rfl, h⟩
/-! what kind is under what -/
theorem gk_m {x : Int32} (k : Nat) (b : Int32) : gl_33_7 x (k + 1) (-1) b := fun _ h => absurd (by decide) h
theorem gk_0 {x : Int32} (k : Nat) (b : Int32) : gl_33_7 x (k + 2) 0 b := fun _ _ _ => ⟨by unfold vp_in; decide, gk_m k _⟩
theorem gk_1 {x : Int32} (k : Nat) (b : Int32) : gl_33_7 x (k + 3) 1 b := fun _ _ _ => ⟨by unfold vp_in; decide, gk_0 k _⟩
theorem gk_2 {x : Int32} (k : Nat) (b : Int32) : gl_33_7 x (k + 3) 2 b := fun _ _ _ => ⟨by unfold vp_in; decide, gk_0 k _⟩
theorem gk_3 {x : Int32} (k : Nat) (b : Int32) : gl_33_7 x (k + 4) 3 b := fun _ _ _ => ⟨by unfold vp_in; decide, gk_1 k _⟩
theorem gk_4 {x : Int32} (k : Nat) (b : Int32) : gl_33_7 x (k + 4) 4 b := fun _ _ _ => ⟨by unfold vp_in; decide, gk_2 k _⟩
theorem gk_5 {x : Int32} (k : Nat) (b : Int32) : gl_33_7 x (k + 5) 5 b := fun _ _ _ => ⟨by unfold vp_in; decide, gk_3 k _⟩
theorem gq_m {x : Int32} (k : Nat) : gl_280_22 x (k + 1) (-1) := fun h => absurd rfl h
theorem gq_0 {x : Int32} (k : Nat) : gl_280_22 x (k + 2) 0 := fun _ _ => gq_m k
theorem gq_1 {x : Int32} (k : Nat) : gl_280_22 x (k + 3) 1 := fun _ _ => gq_0 k
theorem gq_2 {x : Int32} (k : Nat) : gl_280_22 x (k + 3) 2 := fun _ _ => gq_0 k
theorem gq_3 {x : Int32} (k : Nat) : gl_280_22 x (k + 4) 3 := fun _ _ => gq_1 k
theorem gq_4 {x : Int32} (k : Nat) : gl_280_22 x (k + 4) 4 := fun _ _ => gq_2 k
theorem gq_5 {x : Int32} (k : Nat) : gl_280_22 x (k + 5) 5 := fun _ _ => gq_3 k
theorem op_taken (h : kR 1 nv nc tc I J) (x : Int32) : g_166 I x ∧ g_280 J x ∧ v_166 I x = v_280 J x := by
  obtain ⟨⟨-, -, -, a4, -⟩, -, -, -, c4, -⟩ := h.1
  have a4 : I 2 0 = J 78 3 := a4
  unfold v_166 v_280 g_166 g_280 v_33 g_33
  rw [show (0 : Int64) = Int32.toInt64 0 by decide, show (5 : Int64) = Int32.toInt64 5 by decide, v170_107, a4]
  generalize J 78 3 = K at c4
  rcases v107_cases x 0 5 with ⟨e, b1, b2⟩ | ⟨e, -⟩
  · rw [e, if_pos d10, if_pos d10]
    have t : (0 : Int32).toInt = 0 ∧ (5 : Int32).toInt = 5 := by decide
    have hx := kinds (x := x) ⟨by omega, by omega⟩
    have hK := kinds c4
    have key : ∀ K ∈ [(0 : Int32), 1, 2, 3, 4, 5], ∀ x ∈ [(0 : Int32), 1, 2, 3, 4, 5], (if lp_33_7 x 400 K 0 = 0 then -13 else K) = (if ¬ lp_280_22 x 400 K = x then -13 else K) := by decide +kernel
    refine ⟨fun _ => ?_, fun _ => ?_, ?_⟩
    · rcases hK with rfl | rfl | rfl | rfl | rfl | rfl
      · exact gk_0 398 0
      · exact gk_1 397 0
      · exact gk_2 397 0
      · exact gk_3 396 0
      · exact gk_4 396 0
      · exact gk_5 395 0
    · rcases hK with rfl | rfl | rfl | rfl | rfl | rfl
      · exact gq_0 398
      · exact gq_1 397
      · exact gq_2 397
      · exact gq_3 396
      · exact gq_4 396
      · exact gq_5 395
    · exact key K (by simpa using hK) x (by simpa using hx)
  · rw [e, if_neg d00, if_neg d00]
    exact ⟨fun g => absurd rfl g, fun g => absurd rfl g, rfl⟩
end
