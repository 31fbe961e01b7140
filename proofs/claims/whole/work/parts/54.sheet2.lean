section
variable {I J I' J' : WI} {F G F' G' : WF}
/-- the class's zeros -/
theorem zeroC {b : Nat} : ∀ m, m ≤ 40 → (∀ c k, ¬ (b + 2 ≤ c ∧ c ≤ b + 3) → (lp_46_30 I F b m).1 c k = I c k) ∧ (∀ c k, c ≠ b + 1 → (lp_46_30 I F b m).2 c k = F c k) ∧
    ∀ j, j < m → (I b 0 = 0 → (lp_46_30 I F b m).2 (b + 1) j = FP.fconst0) ∧ (I b 0 = 1 → (lp_46_30 I F b m).1 (b + 2) j = 0) ∧ (I b 0 = 2 → (lp_46_30 I F b m).1 (b + 3) j = 0) := by
  intro m
  induction m with
  | zero => intro _; exact ⟨fun _ _ _ => rfl, fun _ _ _ => rfl, fun j hj => by omega⟩
  | succ m ih =>
    intro hm
    obtain ⟨i1, i2, i3⟩ := ih (by omega)
    rw [lp_46_30]
    revert i1 i2 i3
    generalize lp_46_30 I F b m = p
    intro i1 i2 i3
    simp only [bx]
    have fr := v47_fr (I := p.1) (F := p.2) (b := b) (i := m) (by omega) 0
    refine ⟨fun c k h => by rw [fr.1 c k h]; exact i1 c k h, fun c k h => by rw [fr.2 c k h]; exact i2 c k h, fun j hj => ⟨fun q => ?_, fun q => ?_, fun q => ?_⟩⟩
    · rw [v47_0 (by omega) ((i1 b 0 (by omega)).trans q)]
      have z : FP.fmul (FP.i2f 0) 1048576000 = FP.fconst0 := by decide +kernel
      rw [z]
      by_cases y : j = m
      · subst y; simp [up2]
      · exact (up2_nk (by omega)).trans ((i3 j (by omega)).1 q)
    · rw [v47_1 (by omega) ((i1 b 0 (by omega)).trans q)]
      by_cases y : j = m
      · subst y
        have z : Int8.toInt32 (Int32.toInt8 0) = 0 := by decide
        rw [z]; simp [up2]
      · exact (up2_nk (by omega)).trans ((i3 j (by omega)).2.1 q)
    · rw [v47_2 (by omega) ((i1 b 0 (by omega)).trans q)]
      by_cases y : j = m
      · subst y
        have z : Int16.toInt32 (Int32.toInt16 0) = 0 := by decide
        rw [z]; simp [up2]
      · exact (up2_nk (by omega)).trans ((i3 j (by omega)).2.2 q)
/-- the reference's -/
theorem zeroR {s n : Nat} {x2 : Int32} (hs : s < 4) (hn : n ≤ 40) (hx : ¬ x2 < 0) : ∀ d k f (J : WI) (G : WF), k + d = n → d < f →
    gl_267_77 (nI s) x2 (nI n) f (nI k) J G ∧
    (∀ c q, ¬ ((c = 114 ∨ c = 116) ∧ 40 * s + k ≤ q ∧ q < 40 * s + n) → (lp_267_77 (nI s) x2 (nI n) f (nI k) J G).1 c q = J c q) ∧ (∀ c q, ¬ (c = 115 ∧ 40 * s + k ≤ q ∧ q < 40 * s + n) → (lp_267_77 (nI s) x2 (nI n) f (nI k) J G).2 c q = G c q) ∧
    ∀ q, 40 * s + k ≤ q → q < 40 * s + n → (lp_267_77 (nI s) x2 (nI n) f (nI k) J G).1 114 q = 0 ∧ (lp_267_77 (nI s) x2 (nI n) f (nI k) J G).1 116 q = 0 ∧ (lp_267_77 (nI s) x2 (nI n) f (nI k) J G).2 115 q = FP.fconst0 := by
  intro d
  induction d with
  | zero =>
    intro k f J G hk hf
    obtain ⟨f, rfl⟩ : ∃ g, f = g + 1 := ⟨f - 1, by omega⟩
    have c : nI n ≤ nI k := nI_le (by omega) (by omega)
    rw [lp_267_77, gl_267_77, if_pos c]
    exact ⟨fun q => absurd c q, fun _ _ _ => rfl, fun _ _ _ => rfl, fun q h1 h2 => by omega⟩
  | succ d ih =>
    intro k f J G hk hf
    obtain ⟨f, rfl⟩ : ∃ g, f = g + 1 := ⟨f - 1, by omega⟩
    have c : ¬ nI n ≤ nI k := by rw [nI_leI (by omega) (by omega)]; omega
    have i1 := in160 hs (show k < 40 by omega)
    rw [lp_267_77, gl_267_77, if_neg c, if_neg hx, i1.2, nar0.1, nI_1]
    obtain ⟨j1, j2, j3, j4⟩ := ih (k + 1) f (up2 (up2 J 114 (40 * s + k) 0) 116 (40 * s + k) 0) (up2 G 115 (40 * s + k) FP.fconst0) (by omega) (by omega)
    refine ⟨fun _ _ => ⟨i1.1, j1⟩, fun c q h => ?_, fun c q h => ?_, fun q h1 h2 => ?_⟩
    · rw [j2 c q (by omega), up2_nk (by omega), up2_nk (by omega)]
    · rw [j3 c q (by omega), up2_nk (by omega)]
    · by_cases y : q = 40 * s + k
      · subst y
        rw [j2 114 _ (by omega), j2 116 _ (by omega), j3 115 _ (by omega)]
        simp [up2]
      · exact j4 q (by omega) h2
theorem g46 {s n : Nat} (hn : n ≤ 40) (k : Int32) : gl_46_30 (up2 (up2 I (58 + 4 * s) 0 k) (58 + 4 * s) 1 (nI n)) F (58 + 4 * s) n := by
  refine ⟨fun i hi => ?_, (zeroC n hn).1 _ _ (by omega)⟩
  exact ⟨(zeroC i (by omega)).1 _ _ (by omega), g47 (by omega) _⟩
theorem kHs_frame {s : Nat} (hs : s < 4) (h : kHs I J F G) (h1 : kH s I' J' F' G') (hI : ∀ c k, ¬ (58 + 4 * s ≤ c ∧ c < 62 + 4 * s) → I' c k = I c k) (hF : ∀ c k, c ≠ 58 + 4 * s + 1 → F' c k = F c k)
    (hJ : ∀ c k, ¬ ((c = 111 ∨ c = 112 ∨ c = 113) ∧ k = s) → ¬ ((c = 114 ∨ c = 116) ∧ 40 * s ≤ k ∧ k < 40 * s + 40) → J' c k = J c k) (hG : ∀ c k, ¬ (c = 115 ∧ 40 * s ≤ k ∧ k < 40 * s + 40) → G' c k = G c k) : kHs I' J' F' G' :=
  kHs_one hs h h1 (fun c k _ _ hc => hI c k hc) (fun c k _ _ hc => hF c k hc) (fun c k hc hk => hJ c k (by omega) (by omega)) (fun c k hc hk => hJ c k (by omega) (by omega)) (fun k hk => hG 115 k (by omega))
/-- a sheet made anew: missing -/
theorem shM {s : Nat} (hs : s < 4) (h : kHs I J F G) (x3 : Int32) : kHs (lp_46_30 (up2 (up2 I (58 + 4 * s) 0 (-1)) (58 + 4 * s) 1 0) F (58 + 4 * s) 0).1 (up2 (up2 (up2 J 111 s 0) 112 s (-1)) 113 s x3) (lp_46_30 (up2 (up2 I (58 + 4 * s) 0 (-1)) (58 + 4 * s) 1 0) F (58 + 4 * s) 0).2 G := by
  refine kHs_frame hs h (Or.inl ⟨?_, ?_, ?_⟩) (fun c k hc => ?_) (fun _ _ _ => rfl) (fun c k hc _ => ?_) (fun _ _ _ => rfl)
  · rw [up2_nk (by omega), up2_nk (by omega)]; simp [up2]
  · exact (up2_nk (by omega)).trans (by simp [up2])
  · show up2 _ _ _ _ _ _ = _
    simp [up2]
  · exact (up2_nk (by omega)).trans (up2_nk (by omega))
  · rw [up2_nk (by omega), up2_nk (by omega), up2_nk (by omega)]
/-- a sheet made anew: n zeros -/
theorem shN0 {s n : Nat} {k : Int32} (hs : s < 4) (hn : n ≤ 40) (hk : k = 0 ∨ k = 1 ∨ k = 2) (h : kHs I J F G) :
    kHs (lp_46_30 (up2 (up2 I (58 + 4 * s) 0 k) (58 + 4 * s) 1 (nI n)) F (58 + 4 * s) n).1 (lp_267_77 (nI s) k (nI n) 400 0 (up2 (up2 (up2 J 111 s 1) 112 s k) 113 s (nI n)) G).1
      (lp_46_30 (up2 (up2 I (58 + 4 * s) 0 k) (58 + 4 * s) 1 (nI n)) F (58 + 4 * s) n).2 (lp_267_77 (nI s) k (nI n) 400 0 (up2 (up2 (up2 J 111 s 1) 112 s k) 113 s (nI n)) G).2 ∧
    gl_267_77 (nI s) k (nI n) 400 0 (up2 (up2 (up2 J 111 s 1) 112 s k) 113 s (nI n)) G := by
  have hk0 : ¬ k < 0 := by rcases hk with rfl | rfl | rfl <;> decide
  have Z := zeroR hs hn hk0 n 0 400 (up2 (up2 (up2 J 111 s 1) 112 s k) 113 s (nI n)) G (by omega) (by omega)
  rw [show (nI 0 : Int32) = 0 from rfl] at Z
  obtain ⟨r0, r1, r2, r3⟩ := Z
  obtain ⟨c1, c2, c3⟩ := zeroC (I := up2 (up2 I (58 + 4 * s) 0 k) (58 + 4 * s) 1 (nI n)) (F := F) (b := 58 + 4 * s) n hn
  have hk1 : up2 (up2 I (58 + 4 * s) 0 k) (58 + 4 * s) 1 (nI n) (58 + 4 * s) 0 = k := (up2_nk (by omega)).trans (by simp [up2])
  refine ⟨kHs_frame hs h (Or.inr ⟨?_, n, hn, ?_, ?_, ?_, ?_⟩) (fun c k hc => ?_) (fun c k hc => c2 c k hc) (fun c k hc hc2 => ?_) (fun c k hc => r2 c k (by omega)), r0⟩
  · rw [r1 _ _ (by omega), up2_nk (by omega), up2_nk (by omega)]; simp [up2]
  · rw [c1 _ _ (by omega)]; simp [up2]
  · rw [r1 _ _ (by omega)]; simp [up2]
  · rw [c1 _ _ (by omega), hk1, r1 _ _ (by omega), up2_nk (by omega)]; simp [up2]
  · have e : (lp_267_77 (nI s) k (nI n) 400 0 (up2 (up2 (up2 J 111 s 1) 112 s k) 113 s (nI n)) G).1 112 s = k := by
      rw [r1 _ _ (by omega), up2_nk (by omega)]; simp [up2]
    rw [e]
    rcases hk with hk | hk | hk
    · refine Or.inl ⟨hk, fun i hi => ?_⟩
      obtain ⟨q1, q2, q3⟩ := r3 (40 * s + i) (by omega) (by omega)
      rw [q3, q2, (c3 i hi).1 (hk1.trans hk)]
      exact ⟨q4_0, Or.inl ⟨rfl, rfl⟩⟩
    · refine Or.inr (Or.inl ⟨hk, fun i hi => ?_⟩)
      obtain ⟨q1, q2, q3⟩ := r3 (40 * s + i) (by omega) (by omega)
      rw [q1, (c3 i hi).2.1 (hk1.trans hk)]
      exact ⟨rfl, by decide, by decide⟩
    · refine Or.inr (Or.inr ⟨hk, fun i hi => ?_⟩)
      obtain ⟨q1, q2, q3⟩ := r3 (40 * s + i) (by omega) (by omega)
      rw [q1, (c3 i hi).2.2 (hk1.trans hk)]
      exact ⟨rfl, by decide, by decide⟩
  · rw [c1 c k (by omega)]
    exact (up2_nk (by omega)).trans (up2_nk (by omega))
  · rw [r1 c k (by omega), up2_nk (by omega), up2_nk (by omega), up2_nk (by omega)]
theorem clip {n : Nat} (hn : n ≤ 40) : v_283 0 (v_282 (nI n) 40) = nI n := by
  have key : ∀ n, n ≤ 40 → v_283 0 (v_282 (nI n) 40) = nI n := by decide
  exact key n hn
theorem op_sheet (h : kHs I J F G) (x1 x2 x3 : Int32) : g_156 I F x1 x2 x3 ∧ g_267 J G x1 x2 x3 ∧ (v_156 I F x1 x2 x3).1 = (v_267 J G x1 x2 x3).1 ∧ kHs (v_156 I F x1 x2 x3).2.1 (v_267 J G x1 x2 x3).2.1 (v_156 I F x1 x2 x3).2.2 (v_267 J G x1 x2 x3).2.2 := by
  unfold g_156 g_267 v_156 v_267
  rw [show (-1 : Int64) = Int32.toInt64 (-1) by decide, show (2 : Int64) = Int32.toInt64 2 by decide, v170_107]
  rcases sh4 x1 with ⟨e, e', s, hs, rfl⟩ | ⟨e, e'⟩
  · have hs4 : vp_in (nI s) 4 := vin hs (by omega)
    rw [e, e', if_neg d10, if_neg d10, b58 hs, cl (show s < 2 ^ 31 by omega)]
    rcases v107_cases x2 (-1) 2 with ⟨e2, q1, q2⟩ | ⟨e2, -⟩
    · rw [e2, if_pos d10, if_neg d10]
      have t : (-1 : Int32).toInt = -1 ∧ (2 : Int32).toInt = 2 ∧ (0 : Int32).toInt = 0 ∧ (1 : Int32).toInt = 1 ∧ (40 : Int32).toInt = 40 := by decide
      have hx2 : x2 = -1 ∨ x2 = 0 ∨ x2 = 1 ∨ x2 = 2 := by
        rcases (show x2.toInt = -1 ∨ x2.toInt = 0 ∨ x2.toInt = 1 ∨ x2.toInt = 2 by omega) with z | z | z | z
        · exact Or.inl (Int32.toInt_inj.mp (by omega))
        · exact Or.inr (Or.inl (Int32.toInt_inj.mp (by omega)))
        · exact Or.inr (Or.inr (Or.inl (Int32.toInt_inj.mp (by omega))))
        · exact Or.inr (Or.inr (Or.inr (Int32.toInt_inj.mp (by omega))))
      rcases hx2 with rfl | hx2
      · have m1 : (-1 : Int32) < 0 := by decide
        have stop : ∀ A B, lp_267_77 (nI s) (-1) x3 400 0 A B = (A, B) ∧ gl_267_77 (nI s) (-1) x3 400 0 A B := fun A B => by
          refine ⟨?_, ?_⟩
          · rw [show 400 = 399 + 1 from rfl, lp_267_77, if_pos m1]
            split <;> rfl
          · rw [show 400 = 399 + 1 from rfl, gl_267_77]
            exact fun _ q => absurd m1 q
        have k2 : ∀ (A B : Int32 × WI × WF), (if (-1 : Int32) < 0 then A else B) = A := fun A B => if_pos m1
        rw [if_pos rfl, if_pos rfl, k2, k2, if_pos m1]
        dsimp only [bx]
        rw [(stop _ _).1, nar0.1]
        unfold v_46
        dsimp only [bx]
        have e0 : (if ¬ (-1 : Int32) = -1 then v_283 0 (v_282 x3 40) else 0) = 0 := if_neg (fun q => q rfl)
        rw [e0]
        have e1 : up2 (up2 I (58 + 4 * s) 0 (-1)) (58 + 4 * s) 1 0 (58 + 4 * s) 1 = nI 0 := by simp [up2]; rfl
        rw [e1, cl (show 0 < 2 ^ 31 by omega)]
        refine ⟨fun _ _ => ⟨fun _ => ⟨fun _ => ⟨hs4, ?_⟩, fun q => absurd rfl q⟩, fun q => absurd rfl q⟩, fun _ _ => ⟨fun _ => ⟨fun _ => ⟨hs4, hs4, (stop _ _).2⟩, fun q => absurd m1 q⟩, fun q => absurd m1 q⟩, rfl, shM hs h x3⟩
        unfold g_46
        rw [e0]
        show gl_46_30 _ _ _ _
        rw [e1, cl (show 0 < 2 ^ 31 by omega)]
        exact g46 (n := 0) (by omega) (-1)
      · have hk : ¬ x2 = -1 := sort_ne hx2
        have hk0 : ¬ x2 < 0 := by rcases hx2 with rfl | rfl | rfl <;> decide
        have k1 : ∀ (A B : Int32 × WI × WF), (if x2 = -1 then A else B) = B := fun A B => if_neg hk
        have k2 : ∀ (A B : Int32 × WI × WF), (if x2 < 0 then A else B) = B := fun A B => if_neg hk0
        simp only [k1, k2]
        by_cases c1 : x3 ≤ 40
        · rw [if_pos c1, if_pos c1]
          by_cases c2 : 0 ≤ x3
          · rw [if_pos c2, if_pos c2]
            have c1' := Int32.le_iff_toInt_le.mp c1
            have c2' := Int32.le_iff_toInt_le.mp c2
            obtain ⟨n, hn, rfl⟩ : ∃ n, n ≤ 40 ∧ x3 = nI n := ⟨x3.toInt.toNat, by omega, ti_eq (by omega)⟩
            dsimp only [bx]
            unfold v_46
            dsimp only [bx]
            have e0 : (if ¬ x2 = -1 then v_283 0 (v_282 (nI n) 40) else 0) = nI n := by rw [if_pos hk]; exact clip hn
            have e1 : up2 (up2 I (58 + 4 * s) 0 x2) (58 + 4 * s) 1 (nI n) (58 + 4 * s) 1 = nI n := by simp [up2]
            have e3 : (if x2 < 0 then (0 : Int32) else 1) = 1 := if_neg hk0
            rw [e0, e1, cl (show n < 2 ^ 31 by omega), e3, nar0.2]
            have key := shN0 hs hn hx2 h
            refine ⟨fun _ _ => ⟨fun q => absurd q hk, fun _ _ => ⟨fun q => absurd q hk, fun _ _ => ⟨hs4, ?_⟩⟩⟩, fun _ _ => ⟨fun q => absurd q hk0, fun _ _ => ⟨fun q => absurd q hk0, fun _ _ => ⟨hs4, hs4, key.2⟩⟩⟩, rfl, key.1⟩
            unfold g_46
            rw [e0]
            show gl_46_30 _ _ _ _
            rw [e1, cl (show n < 2 ^ 31 by omega)]
            exact g46 hn x2
          · rw [if_neg c2, if_neg c2]
            exact ⟨fun _ _ => ⟨fun q => absurd q hk, fun _ _ => ⟨fun q => absurd q hk, fun _ q => absurd q c2⟩⟩, fun _ _ => ⟨fun q => absurd q hk0, fun _ _ => ⟨fun q => absurd q hk0, fun _ q => absurd q c2⟩⟩, rfl, h⟩
        · rw [if_neg c1, if_neg c1]
          exact ⟨fun _ _ => ⟨fun q => absurd q hk, fun _ q => absurd q c1⟩, fun _ _ => ⟨fun q => absurd q hk0, fun _ q => absurd q c1⟩, rfl, h⟩
    · rw [e2, if_neg d00, if_pos rfl]
      exact ⟨fun _ q => absurd rfl q, fun _ q => absurd rfl q, rfl, h⟩
  · rw [e, e', if_pos rfl, if_pos rfl]
    exact ⟨fun q => absurd rfl q, fun q => absurd rfl q, rfl, h⟩
end
