section
/-! both readers at a token: no fault so far; and after a fault -/
theorem lg0 (x y : Int64) : lg_cmp x y = 0 ↔ x = y := by
  unfold lg_cmp
  by_cases h : x > y
  · rw [if_pos h]
    refine ⟨fun q => absurd q d10, fun q => ?_⟩
    rw [q] at h
    exact absurd h Int64.lt_irrefl
  · rw [if_neg h]
    by_cases g : x = y
    · rw [if_pos g]; exact ⟨fun _ => g, fun _ => rfl⟩
    · rw [if_neg g]; exact ⟨fun q => absurd q (by decide), fun q => absurd q g⟩
theorem t64 {x y : Int32} : Int32.toInt64 x = Int32.toInt64 y ↔ x = y := by
  constructor
  · intro h
    have := congrArg Int64.toInt h
    rw [Int32.toInt_toInt64, Int32.toInt_toInt64] at this
    exact Int32.toInt_inj.mp this
  · intro h; rw [h]
/-- the names' values -/
def enOK (en : Int32 → Int32) (J : WI) : Prop := en (-1) = J 74 19 ∧ en (-2) = J 74 20 ∧ en (-3) = J 74 21 ∧ en (-4) = J 74 22 ∧ en (-5) = J 74 23 ∧ en (-6) = J 74 24
def NF (en : Int32 → Int32) (n r : Nat) (T : Nat → Int32) (t o st s : Nat) (I J : WI) (L : WL) : Prop :=
  bC I n T ∧ bR J r n T ∧ Tk n T st I J L ∧ I 31 6 = -1 ∧ J 74 32 = 0 ∧ J 74 31 = nI o ∧ I t 1 = nI s ∧ enOK en J
def FTs (t : Nat) (I J : WI) : Prop := ∃ f s : Nat, f ≤ 160 ∧ I 31 6 = nI f ∧ ¬ J 74 32 = 0 ∧ J 74 33 = nI f ∧ I 31 4 = 257 ∧ I t 1 = nI s ∧ s ≤ 160
section
variable {en : Int32 → Int32} {n r t o st s : Nat} {T : Nat → Int32} {I J : WI} {L : WL}
theorem enOK_cg {J' : WI} (h : enOK en J) (hJ : ∀ k, 19 ≤ k → k ≤ 24 → J' 74 k = J 74 k) : enOK en J' := by
  obtain ⟨h1, h2, h3, h4, h5, h6⟩ := h
  exact ⟨h1.trans (hJ _ (by omega) (by omega)).symm, h2.trans (hJ _ (by omega) (by omega)).symm, h3.trans (hJ _ (by omega) (by omega)).symm, h4.trans (hJ _ (by omega) (by omega)).symm, h5.trans (hJ _ (by omega) (by omega)).symm, h6.trans (hJ _ (by omega) (by omega)).symm⟩
/-- onwards: the token is taken -/
def nxt (n st : Nat) (I J : WI) : Prop := ∃ e, st < e ∧ e ≤ n ∧ I 31 3 = nI e ∧ J 74 27 = nI e
theorem adv (ht : 45 ≤ t ∧ t ≤ 55) (h : NF en n r T t o st s I J L) (hn : nxt n st I J) : g_85 I ∧ g_194 J L ∧ ∃ st', st < st' ∧ NF en n r T t o st' s (v_85 I) (v_194 J L).1 (v_194 J L).2 ∧ ∀ k, v_85 I (t + 1) k = I (t + 1) k := by
  obtain ⟨h1, h2, h3, h4, h5, h6, h7, h8⟩ := h
  obtain ⟨e, e1, e2, e3, e4⟩ := hn
  obtain ⟨g1, g2, st', s1, s2⟩ := lex (L := L) h1 h2 e3 e4 e2
  refine ⟨g1, g2, st', by omega, ⟨bC_cg h1 (fun c k hh => frI_v_85 (by omega)), bR_cg h2 (fun c k hh => frI_v_194 (by omega)), s2, ?_, ?_, ?_, ?_, enOK_cg h8 (fun k k1 k2 => frI_v_194 (by omega))⟩, fun k => frI_v_85 (by omega)⟩
  · rw [frI_v_85 (by omega)]; exact h4
  · rw [frI_v_194 (by omega)]; exact h5
  · rw [frI_v_194 (by omega)]; exact h6
  · rw [frI_v_85 (by omega)]; exact h7
/-- one step more of the text -/
theorem v81_eq (h : I t 1 = nI s) (hs : s < 160) (x : Int32) : v_81 I t x = up2 (up2 I (t + 1) s x) t 1 (nI (s + 1)) := by
  have k : (160 : Int32) ≤ nI s ↔ 160 ≤ s := nI_leI (a := 160) (by omega) (by omega)
  unfold v_81
  rw [h, if_neg (fun q => by have := k.mp q; omega), cl (show s < 2 ^ 31 by omega), show up2 I (t + 1) s x t 1 = nI s from (up2_nk (by omega)).trans h, nI_1]
theorem g81 (h : I t 1 = nI s) (hs : s ≤ 160) : g_81 I t := by
  have k : (160 : Int32) ≤ nI s ↔ 160 ≤ s := nI_leI (a := 160) (by omega) (by omega)
  unfold g_81
  rw [h]
  exact fun q => vin (by have := mt k.mpr q; omega) (by omega)
theorem addS (ht : 45 ≤ t ∧ t ≤ 55) (h : NF en n r T t o st s I J L) (hs : s < 160) (x : Int32) : g_81 I t ∧ NF en n r T t o st (s + 1) (v_81 I t x) J L ∧ (∀ k, v_81 I t x (t + 1) k = if k = s then x else I (t + 1) k) ∧ ∀ k, v_81 I t x 31 k = I 31 k := by
  obtain ⟨h1, h2, h3, h4, h5, h6, h7, h8⟩ := h
  have e := v81_eq h7 hs x
  have f31 : ∀ k, v_81 I t x 31 k = I 31 k := fun k => frI_v_81 (by omega) (by omega)
  refine ⟨g81 h7 (by omega), ⟨bC_cg h1 (fun c k hh => frI_v_81 (by omega) (by omega)), h2, ?_, (f31 6).trans h4, h5, h6, ?_, h8⟩, fun k => ?_, f31⟩
  · unfold Tk at h3 ⊢
    rw [f31, f31, f31, f31]
    exact h3
  · rw [e]; simp [up2]
  · rw [e, up2_nk (by omega)]
    by_cases z : k = s
    · subst z; rw [if_pos rfl]; simp [up2]
    · rw [if_neg z, up2_nk (by omega)]
theorem failS (h : NF en n r T t o st s I J L) (ht : 45 ≤ t ∧ t ≤ 55) (hs : s ≤ 160) : FTs t (v_96 I) (v_199 J) := by
  obtain ⟨h1, h2, h3, h4, h5, h6, h7, h8⟩ := h
  have h160 := h1.1
  refine ⟨st, s, by have := h3.1; omega, ?_, ?_, ?_, ?_, ?_, hs⟩
  · unfold v_96
    rw [if_neg (fun q => q h4), h3.2.1]
    exact (up2_nk (by omega)).trans (by simp [up2])
  · unfold v_199
    rw [if_neg (fun q => q h5)]
    have : up2 (up2 J 74 32 1) 74 33 (J 74 29) 74 32 = 1 := (up2_nk (by omega)).trans (by simp [up2])
    rw [this]; decide
  · unfold v_199
    rw [if_neg (fun q => q h5), h3.2.2.1]
    simp [up2]
  · unfold v_96
    simp [bx, up2]
  · rw [frI_v_96 (by omega)]; exact h7
theorem addF (ht : 45 ≤ t ∧ t ≤ 55) (h : FTs t I J) (x : Int32) : g_81 I t ∧ FTs t (v_81 I t x) J := by
  obtain ⟨f, s, h1, h2, h3, h4, h5, h6, h7⟩ := h
  have f31 : ∀ k, v_81 I t x 31 k = I 31 k := fun k => frI_v_81 (by omega) (by omega)
  refine ⟨g81 h6 h7, ?_⟩
  by_cases c : s < 160
  · exact ⟨f, s + 1, h1, (f31 6).trans h2, h3, h4, (f31 4).trans h5, by rw [v81_eq h6 c]; simp [up2], by omega⟩
  · refine ⟨f, s, h1, (f31 6).trans h2, h3, h4, (f31 4).trans h5, ?_, h7⟩
    have : s = 160 := by omega
    subst this
    unfold v_81
    rw [h6, if_pos (show (160 : Int32) ≤ nI 160 from by decide)]
    exact h6
/-- after a fault nothing moves -/
theorem v96F (h : FTs t I J) : v_96 I = I ∧ v_199 J = J := by
  obtain ⟨f, s, h1, h2, h3, h4, h5, h6, h7⟩ := h
  constructor
  · unfold v_96
    rw [if_pos (by rw [h2]; exact nIm1 (by omega))]
    dsimp only [bx]
    rw [← h5, up_id]
  · unfold v_199
    rw [if_pos h3]
/-! what the token at hand is -/
theorem sgn_ne {c : Int32} (h : sgn8 c) : ¬ c = 256 ∧ ¬ c = 257 ∧ ¬ c = 258 ∧ ¬ c = 259 ∧ ∀ i, 6 ≤ i → i < 11 → ¬ c = nI (254 + i) := by
  refine ⟨?_, ?_, ?_, ?_, fun i h1 h2 => ?_⟩
  · rcases h with rfl | rfl | rfl | rfl | rfl | rfl | rfl | rfl <;> decide
  · rcases h with rfl | rfl | rfl | rfl | rfl | rfl | rfl | rfl <;> decide
  · rcases h with rfl | rfl | rfl | rfl | rfl | rfl | rfl | rfl <;> decide
  · rcases h with rfl | rfl | rfl | rfl | rfl | rfl | rfl | rfl <;> decide
  · match i, h1, h2 with
    | 6, _, _ | 7, _, _ | 8, _, _ | 9, _, _ | 10, _, _ => rcases h with rfl | rfl | rfl | rfl | rfl | rfl | rfl | rfl <;> decide
theorem v207_ne (h : ¬ J 74 28 = 3) (c : Int32) : v_207 J L c = 0 := by
  unfold v_207
  by_cases z : J 74 32 = 0
  · rw [if_neg (fun q => q z), if_pos h]
  · rw [if_pos z]
theorem sgnT (h : NF en n r T t o st s I J L) {c : Int32} (hc : sgn8 c) : (I 31 4 = c ∧ ¬ v_207 J L c = 0 ∧ L 74 30 = Int32.toInt64 c ∧ nxt n st I J) ∨ (¬ I 31 4 = c ∧ v_207 J L c = 0) := by
  obtain ⟨-, -, ⟨-, -, -, hk⟩, -, h5, -, -, -⟩ := h
  obtain ⟨n1, n2, n3, n4, n5⟩ := sgn_ne hc
  rcases hk with ⟨a1, a2, a3⟩ | ⟨e, a0, a1, a2, a3, a4, a5, a6, a7⟩ | ⟨e, a0, a1, a2, a3, a4, a5, a6⟩ | ⟨a0, a1, a2, a3, a4, a5, a6⟩ | ⟨a0, a1, a2⟩
  · exact Or.inr ⟨by rw [a2]; exact fun q => n1 q.symm, v207_ne (by rw [a3]; decide) c⟩
  · exact Or.inr ⟨by rw [a4]; exact fun q => n3 q.symm, v207_ne (by rw [a5]; decide) c⟩
  · refine Or.inr ⟨?_, v207_ne (by rw [a4]; decide) c⟩
    rcases a6 with ⟨b1, -⟩ | ⟨i, i1, i2, -, i4⟩ | ⟨b1, -⟩
    · rw [b1]; exact fun q => n4 q.symm
    · rw [i4]; exact fun q => n5 i i1 i2 q.symm
    · rw [b1]; exact fun q => n2 q.symm
  · by_cases z : T st = c
    · refine Or.inl ⟨a4.trans z, ?_, by rw [a6, z], st + 1, by omega, by omega, a2, a3⟩
      unfold v_207
      rw [if_neg (fun q => q h5), if_neg (fun q => q a5), a6, z, if_neg (fun q => q ((lg0 _ _).mpr rfl))]
      exact d10
    · refine Or.inr ⟨by rw [a4]; exact z, ?_⟩
      unfold v_207
      rw [if_neg (fun q => q h5), if_neg (fun q => q a5), a6, if_pos (fun q => z (t64.mp ((lg0 _ _).mp q)))]
  · refine Or.inr ⟨?_, v207_ne (by rw [a1]; decide) c⟩
    rcases a2 with q | ⟨-, -, q⟩
    · rw [q]; exact fun q => n2 q.symm
    · exact fun w => q (by rw [w]; exact hc)
theorem numT (h : NF en n r T t o st s I J L) : (I 31 4 = 258 ∧ J 74 28 = 2 ∧ 0 ≤ (I 31 5).toInt ∧ Int64.toInt32 (L 74 30) = I 31 5 ∧ nxt n st I J) ∨ (¬ I 31 4 = 258 ∧ ¬ J 74 28 = 2) := by
  obtain ⟨-, -, ⟨-, -, -, hk⟩, -, h5, -, -, -⟩ := h
  rcases hk with ⟨a1, a2, a3⟩ | ⟨e, a0, a1, a2, a3, a4, a5, a6, a7⟩ | ⟨e, a0, a1, a2, a3, a4, a5, a6⟩ | ⟨a0, a1, a2, a3, a4, a5, a6⟩ | ⟨a0, a1, a2⟩
  · exact Or.inr ⟨by rw [a2]; decide, by rw [a3]; decide⟩
  · refine Or.inl ⟨a4, a5, a6, ?_, e, a0, a1, a2, a3⟩
    rw [a7]
    exact Int32.toInt32_toInt64 _
  · refine Or.inr ⟨?_, by rw [a4]; decide⟩
    rcases a6 with ⟨b1, -⟩ | ⟨i, i1, i2, -, i4⟩ | ⟨b1, -⟩
    · rw [b1]; decide
    · rw [i4]
      match i, i1, i2 with
      | 6, _, _ | 7, _, _ | 8, _, _ | 9, _, _ | 10, _, _ => decide
    · rw [b1]; decide
  · exact Or.inr ⟨by rw [a4]; exact (sgn_ne a1).2.2.1, by rw [a5]; decide⟩
  · refine Or.inr ⟨?_, by rw [a1]; decide⟩
    rcases a2 with q | ⟨q1, q2, -⟩
    · rw [q]; decide
    · intro w
      rw [w] at q2
      exact absurd q2 (by decide)
/-- a word: its range, and whether it is one of the eleven -/
theorem wordT (h : NF en n r T t o st s I J L) (hk : J 74 28 = 1) : ∃ e, st < e ∧ e ≤ n ∧ I 31 3 = nI e ∧ J 74 27 = nI e ∧ (∀ q, st ≤ q → q < e → ¬ T q = 0) ∧ Wdd (I 31 4) (I 31 5) T st e := by
  obtain ⟨-, -, ⟨-, -, -, hk'⟩, -, h5, -, -, -⟩ := h
  rcases hk' with ⟨a1, a2, a3⟩ | ⟨e, a0, a1, a2, a3, a4, a5, a6, a7⟩ | ⟨e, a0, a1, a2, a3, a4, a5, a6⟩ | ⟨a0, a1, a2, a3, a4, a5, a6⟩ | ⟨a0, a1, a2⟩
  · rw [a3] at hk; exact absurd hk (by decide)
  · rw [a5] at hk; exact absurd hk (by decide)
  · exact ⟨e, a0, a1, a2, a3, a5, a6⟩
  · rw [a5] at hk; exact absurd hk (by decide)
  · rw [a1] at hk; exact absurd hk (by decide)
/-- no word -/
theorem nowT (h : NF en n r T t o st s I J L) (hk : ¬ J 74 28 = 1) : ¬ I 31 4 = 259 ∧ ∀ i, 6 ≤ i → i < 11 → ¬ I 31 4 = nI (254 + i) := by
  obtain ⟨-, -, ⟨-, -, -, hk'⟩, -, h5, -, -, -⟩ := h
  have m : ∀ x : Int32, (x = 256 ∨ x = 257 ∨ x = 258) → ¬ x = 259 ∧ ∀ i, 6 ≤ i → i < 11 → ¬ x = nI (254 + i) := by
    intro x hx
    refine ⟨by rcases hx with rfl | rfl | rfl <;> decide, fun i h1 h2 => ?_⟩
    match i, h1, h2 with
    | 6, _, _ | 7, _, _ | 8, _, _ | 9, _, _ | 10, _, _ => rcases hx with rfl | rfl | rfl <;> decide
  rcases hk' with ⟨a1, a2, a3⟩ | ⟨e, a0, a1, a2, a3, a4, a5, a6, a7⟩ | ⟨e, a0, a1, a2, a3, a4, a5, a6⟩ | ⟨a0, a1, a2, a3, a4, a5, a6⟩ | ⟨a0, a1, a2⟩
  · exact m _ (Or.inl a2)
  · exact m _ (Or.inr (Or.inr a4))
  · exact absurd a4 hk
  · rw [a4]; exact ⟨(sgn_ne a1).2.2.2.1, (sgn_ne a1).2.2.2.2⟩
  · rcases a2 with q | ⟨q1, q2, -⟩
    · exact m _ (Or.inr (Or.inl q))
    · refine ⟨fun w => ?_, fun i h1 h2 w => ?_⟩
      · rw [w] at q2; exact absurd q2 (by decide)
      · rw [w, nI_toInt (by omega)] at q2; omega
theorem sB : ∀ i, i < 11 → (sByt.getD i []).length ≤ 7 ∧ (∀ k, k < (sByt.getD i []).length → ¬ (sByt.getD i []).getD k 0 = 0) ∧ ∀ j, j < 11 → sByt.getD i [] = sByt.getD j [] → i = j := by decide
/-- the reference's question for the word with number i -/
def qW (J : WI) (l : List Int32) : Int32 := v_196 J (l.getD 0 0) (l.getD 1 0) (l.getD 2 0) (l.getD 3 0) (l.getD 4 0) (l.getD 5 0) (l.getD 6 0) (l.getD 7 0)
theorem qW_iff (h : NF en n r T t o st s I J L) {e : Nat} (hk : J 74 28 = 1) (h27 : J 74 27 = nI e) (hs : st < e) (he : e ≤ n) (hl : ∀ q, st ≤ q → q < e → ¬ T q = 0) {i : Nat} (hi : i < 11) : ¬ qW J (sByt.getD i []) = 0 ↔ Wm T st e (sByt.getD i []) :=
  v196 h.2.1 h.2.2.2.2.1 hk h.2.2.1.2.2.1 h27 hs he hl (sB i hi).1 (sB i hi).2.1
theorem qW_no (hk : ¬ J 74 28 = 1) (l : List Int32) : qW J l = 0 := by
  unfold qW v_196
  by_cases z : J 74 32 = 0
  · rw [if_neg (fun q => q z), if_pos hk]
  · rw [if_pos z]
theorem qW_F (h : ¬ J 74 32 = 0) (l : List Int32) : qW J l = 0 := by
  unfold qW v_196
  rw [if_pos h]
/-- a key at hand -/
theorem keyT (h : NF en n r T t o st s I J L) {i : Nat} (h6 : 6 ≤ i) (hi : i < 11) : (I 31 4 = nI (254 + i) ∧ ¬ qW J (sByt.getD i []) = 0 ∧ nxt n st I J) ∨ (¬ I 31 4 = nI (254 + i) ∧ qW J (sByt.getD i []) = 0) := by
  by_cases hk : J 74 28 = 1
  · obtain ⟨e, e1, e2, e3, e4, e5, e6⟩ := wordT h hk
    have hq := qW_iff h hk e4 e1 e2 e5 hi
    by_cases w : Wm T st e (sByt.getD i [])
    · refine Or.inl ⟨?_, hq.mpr w, e, e1, e2, e3, e4⟩
      rcases e6 with ⟨-, j, j1, j2, -⟩ | ⟨j, j1, j2, j3, j4⟩ | ⟨-, no⟩
      · have := (sB i hi).2.2 j (by omega) (Wm_un w j2)
        omega
      · have := (sB i hi).2.2 j (by omega) (Wm_un w j3)
        subst this
        exact j4
      · exact absurd w (no i hi)
    · have hq0 : qW J (sByt.getD i []) = 0 := Classical.not_not.mp (fun q => w (hq.mp q))
      refine Or.inr ⟨?_, hq0⟩
      rcases e6 with ⟨a, -⟩ | ⟨j, j1, j2, j3, j4⟩ | ⟨a, -⟩
      · rw [a]
        match i, h6, hi with
        | 6, _, _ | 7, _, _ | 8, _, _ | 9, _, _ | 10, _, _ => decide
      · intro z
        rw [j4] at z
        have := (nI_eq (by omega) (by omega)).mp z
        have hij : j = i := by omega
        subst hij
        exact w j3
      · rw [a]
        match i, h6, hi with
        | 6, _, _ | 7, _, _ | 8, _, _ | 9, _, _ | 10, _, _ => decide
  · exact Or.inr ⟨(nowT h hk).2 i h6 hi, qW_no hk _⟩
theorem gW (h : NF en n r T t o st s I J L) (a0 a1 a2 a3 a4 a5 a6 : Int32) : g_196 J a0 a1 a2 a3 a4 a5 a6 := by
  by_cases hk : J 74 28 = 1
  · obtain ⟨e, e1, e2, e3, e4, e5, e6⟩ := wordT h hk
    exact g196 h.2.1 h.2.2.1.2.2.1 (fun _ => ⟨e4, e1, e2⟩) a0 a1 a2 a3 a4 a5 a6
  · exact fun _ q => absurd (Classical.not_not.mp q) hk
theorem gW_F (h : ¬ J 74 32 = 0) (a0 a1 a2 a3 a4 a5 a6 : Int32) : g_196 J a0 a1 a2 a3 a4 a5 a6 := fun q => absurd h q
/-- a name: what it says, and there it is; or no name -/
theorem nameT (h : NF en n r T t o st s I J L) : (I 31 4 = 259 ∧ J 74 28 = 1 ∧ -6 ≤ (I 31 5).toInt ∧ (I 31 5).toInt < 0 ∧ v_208 J = (en (I 31 5), J) ∧ nxt n st I J) ∨ (¬ I 31 4 = 259 ∧ (J 74 28 = 1 → v_208 J = (0, v_199 J))) := by
  by_cases hk : J 74 28 = 1
  · obtain ⟨e, e1, e2, e3, e4, e5, e6⟩ := wordT h hk
    have q := fun (i : Nat) (hi : i < 11) => qW_iff h hk e4 e1 e2 e5 hi
    have hen := h.2.2.2.2.2.2.2
    have z0 : v_196 J 116 97 103 0 0 0 0 0 = qW J (sByt.getD 0 []) := rfl
    have z1 : v_196 J 110 117 109 98 101 114 0 0 = qW J (sByt.getD 1 []) := rfl
    have z2 : v_196 J 99 101 108 108 0 0 0 0 = qW J (sByt.getD 2 []) := rfl
    have z3 : v_196 J 120 0 0 0 0 0 0 0 = qW J (sByt.getD 3 []) := rfl
    have z4 : v_196 J 121 0 0 0 0 0 0 0 = qW J (sByt.getD 4 []) := rfl
    have z5 : v_196 J 122 0 0 0 0 0 0 0 = qW J (sByt.getD 5 []) := rfl
    have e208 : v_208 J = (if qW J (sByt.getD 3 []) = 0 then (if qW J (sByt.getD 4 []) = 0 then (if qW J (sByt.getD 5 []) = 0 then (if qW J (sByt.getD 0 []) = 0 then (if qW J (sByt.getD 1 []) = 0 then (if qW J (sByt.getD 2 []) = 0 then (0, v_199 J) else (J 74 24, J)) else (J 74 23, J)) else (J 74 22, J)) else (J 74 21, J)) else (J 74 20, J)) else (J 74 19, J)) := by
      unfold v_208
      rw [z0, z1, z2, z3, z4, z5]
      rfl
    have un : ∀ i j, i < 11 → j < 11 → i ≠ j → Wm T st e (sByt.getD i []) → qW J (sByt.getD j []) = 0 := fun i j hi hj hij w => by
      refine Classical.not_not.mp fun c => ?_
      exact hij ((sB i hi).2.2 j hj (Wm_un w ((q j hj).mp c)))
    rcases e6 with ⟨a, i, i1, i2, i3⟩ | ⟨i, i1, i2, i3, i4⟩ | ⟨a, no⟩
    · refine Or.inl ⟨a, hk, ?_, ?_, ?_, e, e1, e2, e3, e4⟩
      · rw [i3]
        match i, i1 with
        | 0, _ | 1, _ | 2, _ | 3, _ | 4, _ | 5, _ => decide
      · rw [i3]
        match i, i1 with
        | 0, _ | 1, _ | 2, _ | 3, _ | 4, _ | 5, _ => decide
      · rw [e208, i3]
        obtain ⟨n1, n2, n3, n4, n5, n6⟩ := hen
        have yes := (q i (by omega)).mpr i2
        match i, i1, i2, yes with
        | 0, _, i2, yes => rw [if_pos (un 0 3 (by decide) (by decide) (by decide) i2), if_pos (un 0 4 (by decide) (by decide) (by decide) i2), if_pos (un 0 5 (by decide) (by decide) (by decide) i2), if_neg yes]; exact congrArg (·, J) n4.symm
        | 1, _, i2, yes => rw [if_pos (un 1 3 (by decide) (by decide) (by decide) i2), if_pos (un 1 4 (by decide) (by decide) (by decide) i2), if_pos (un 1 5 (by decide) (by decide) (by decide) i2), if_pos (un 1 0 (by decide) (by decide) (by decide) i2), if_neg yes]; exact congrArg (·, J) n5.symm
        | 2, _, i2, yes => rw [if_pos (un 2 3 (by decide) (by decide) (by decide) i2), if_pos (un 2 4 (by decide) (by decide) (by decide) i2), if_pos (un 2 5 (by decide) (by decide) (by decide) i2), if_pos (un 2 0 (by decide) (by decide) (by decide) i2), if_pos (un 2 1 (by decide) (by decide) (by decide) i2), if_neg yes]; exact congrArg (·, J) n6.symm
        | 3, _, i2, yes => rw [if_neg yes]; exact congrArg (·, J) n1.symm
        | 4, _, i2, yes => rw [if_pos (un 4 3 (by decide) (by decide) (by decide) i2), if_neg yes]; exact congrArg (·, J) n2.symm
        | 5, _, i2, yes => rw [if_pos (un 5 3 (by decide) (by decide) (by decide) i2), if_pos (un 5 4 (by decide) (by decide) (by decide) i2), if_neg yes]; exact congrArg (·, J) n3.symm
    · refine Or.inr ⟨?_, fun _ => ?_⟩
      · rw [i4]
        match i, i1, i2 with
        | 6, _, _ | 7, _, _ | 8, _, _ | 9, _, _ | 10, _, _ => decide
      · rw [e208, if_pos (un i 3 i2 (by decide) (by omega) i3), if_pos (un i 4 i2 (by decide) (by omega) i3), if_pos (un i 5 i2 (by decide) (by omega) i3), if_pos (un i 0 i2 (by decide) (by omega) i3), if_pos (un i 1 i2 (by decide) (by omega) i3), if_pos (un i 2 i2 (by decide) (by omega) i3)]
    · have no2 : ∀ j, j < 11 → qW J (sByt.getD j []) = 0 := fun j hj => Classical.not_not.mp (fun c => no j hj ((q j hj).mp c))
      refine Or.inr ⟨by rw [a]; decide, fun _ => ?_⟩
      rw [e208, if_pos (no2 3 (by decide)), if_pos (no2 4 (by decide)), if_pos (no2 5 (by decide)), if_pos (no2 0 (by decide)), if_pos (no2 1 (by decide)), if_pos (no2 2 (by decide))]
  · exact Or.inr ⟨(nowT h hk).1, fun q => absurd q hk⟩
theorem g208 (h : NF en n r T t o st s I J L) : g_208 J :=
  ⟨gW h _ _ _ _ _ _ _, fun _ => ⟨gW h _ _ _ _ _ _ _, fun _ => ⟨gW h _ _ _ _ _ _ _, fun _ => ⟨gW h _ _ _ _ _ _ _, fun _ => ⟨gW h _ _ _ _ _ _ _, fun _ => gW h _ _ _ _ _ _ _⟩⟩⟩⟩⟩
end
end
