section
variable {I J I' J' : WI} {F G F' G' : WF}
/-! a run of items copied -/
def mv {α : Type} (A : Nat → α) (p q m k : Nat) : α := if q ≤ k ∧ k < q + m then A (p + (k - q)) else A k
theorem copyN {s o i j m : Nat} {x5 u : Int32} (hs : s < 4) (ho : o < 4) (hi : i + m ≤ 40) (hj : j + m ≤ 40) (hu : u = 0) (hd : s ≠ o ∨ j ≤ i) : ∀ k, k ≤ m →
    (∀ c q, (lp_275_121 J G (nI s) (nI i) (nI o) (nI j) x5 u k).1 c q = if c = 114 then mv (J 114) (40 * s + i) (40 * o + j) k q else if c = 116 then (if 40 * o + j ≤ q ∧ q < 40 * o + j + k then vp_nar (bT 0) (J 116 (40 * s + i + (q - (40 * o + j)))) else J 116 q) else J c q) ∧
    (∀ c q, (lp_275_121 J G (nI s) (nI i) (nI o) (nI j) x5 u k).2 c q = if c = 115 then mv (G 115) (40 * s + i) (40 * o + j) k q else G c q) := by
  intro k
  induction k with
  | zero =>
    intro _
    refine ⟨fun c q => ?_, fun c q => ?_⟩
    · show J c q = _
      unfold mv
      rw [if_neg (show ¬ (40 * o + j ≤ q ∧ q < 40 * o + j + 0) by omega), if_neg (show ¬ (40 * o + j ≤ q ∧ q < 40 * o + j + 0) by omega)]
      by_cases c1 : c = 114
      · rw [if_pos c1, c1]
      · rw [if_neg c1]
        by_cases c2 : c = 116
        · rw [if_pos c2, c2]
        · rw [if_neg c2]
    · show G c q = _
      unfold mv
      rw [if_neg (show ¬ (40 * o + j ≤ q ∧ q < 40 * o + j + 0) by omega)]
      by_cases c1 : c = 115
      · rw [if_pos c1, c1]
      · rw [if_neg c1]
  | succ k ih =>
    intro hk
    obtain ⟨h1, h2⟩ := ih (by omega)
    rw [lp_275_121]
    revert h1 h2
    generalize lp_275_121 J G (nI s) (nI i) (nI o) (nI j) x5 u k = p
    intro h1 h2
    simp only [bx]
    rw [if_pos hu, at40, at40, nI_add, nI_add, cl (show 40 * s + i + k < 2 ^ 31 by omega), cl (show 40 * o + j + k < 2 ^ 31 by omega)]
    have r1 : p.1 114 (40 * s + i + k) = J 114 (40 * s + i + k) := by
      rw [h1, if_pos rfl]; unfold mv; rw [if_neg (by omega)]
    have r2 : p.1 116 (40 * s + i + k) = J 116 (40 * s + i + k) := by
      rw [h1, if_neg (by decide), if_pos rfl, if_neg (by omega)]
    have r3 : p.2 115 (40 * s + i + k) = G 115 (40 * s + i + k) := by
      rw [h2, if_pos rfl]; unfold mv; rw [if_neg (by omega)]
    rw [r1, r2, r3]
    refine ⟨fun c q => ?_, fun c q => ?_⟩
    · by_cases c1 : c = 114
      · subst c1
        rw [up2_nk (by omega), if_pos rfl]
        by_cases y : q = 40 * o + j + k
        · subst y
          unfold mv
          rw [if_pos (by omega), show 40 * s + i + (40 * o + j + k - (40 * o + j)) = 40 * s + i + k by omega]
          simp [up2]
        · rw [up2_nk (by omega), h1, if_pos rfl]
          unfold mv
          by_cases z : 40 * o + j ≤ q ∧ q < 40 * o + j + k
          · rw [if_pos z, if_pos (by omega)]
          · rw [if_neg z, if_neg (by omega)]
      · rw [if_neg c1]
        by_cases c2 : c = 116
        · subst c2
          rw [if_pos rfl]
          by_cases y : q = 40 * o + j + k
          · subst y
            rw [if_pos (by omega), show 40 * s + i + (40 * o + j + k - (40 * o + j)) = 40 * s + i + k by omega]
            simp [up2]
          · rw [up2_nk (by omega), up2_nk (by omega), h1, if_neg (by decide), if_pos rfl]
            by_cases z : 40 * o + j ≤ q ∧ q < 40 * o + j + k
            · rw [if_pos z, if_pos (by omega)]
            · rw [if_neg z, if_neg (by omega)]
        · rw [if_neg c2, up2_nk (by omega), up2_nk (by omega), h1, if_neg c1, if_neg c2]
    · by_cases c1 : c = 115
      · subst c1
        rw [if_pos rfl]
        by_cases y : q = 40 * o + j + k
        · subst y
          unfold mv
          rw [if_pos (by omega), show 40 * s + i + (40 * o + j + k - (40 * o + j)) = 40 * s + i + k by omega]
          simp [up2]
        · rw [up2_nk (by omega), h2, if_pos rfl]
          unfold mv
          by_cases z : 40 * o + j ≤ q ∧ q < 40 * o + j + k
          · rw [if_pos z, if_pos (by omega)]
          · rw [if_neg z, if_neg (by omega)]
      · rw [if_neg c1, up2_nk (by omega), h2, if_neg c1]
theorem copyU {s i j m : Nat} {u : Int32} (hs : s < 4) (hi : i + m ≤ 40) (hj : j + m ≤ 40) (hu : ¬ u = 0) (hd : i ≤ j) : ∀ k, k ≤ m →
    (∀ c q, (lp_275_121 J G (nI s) (nI i) (nI s) (nI j) (nI m) u k).1 c q = if c = 114 then (if 40 * s + j + m - k ≤ q ∧ q < 40 * s + j + m then J 114 (40 * s + i + (q - (40 * s + j))) else J 114 q) else if c = 116 then (if 40 * s + j + m - k ≤ q ∧ q < 40 * s + j + m then vp_nar (bT 0) (J 116 (40 * s + i + (q - (40 * s + j)))) else J 116 q) else J c q) ∧
    (∀ c q, (lp_275_121 J G (nI s) (nI i) (nI s) (nI j) (nI m) u k).2 c q = if c = 115 then (if 40 * s + j + m - k ≤ q ∧ q < 40 * s + j + m then G 115 (40 * s + i + (q - (40 * s + j))) else G 115 q) else G c q) := by
  intro k
  induction k with
  | zero =>
    intro _
    refine ⟨fun c q => ?_, fun c q => ?_⟩
    · show J c q = _
      rw [if_neg (show ¬ (40 * s + j + m - 0 ≤ q ∧ q < 40 * s + j + m) by omega), if_neg (show ¬ (40 * s + j + m - 0 ≤ q ∧ q < 40 * s + j + m) by omega)]
      by_cases c1 : c = 114
      · rw [if_pos c1, c1]
      · rw [if_neg c1]
        by_cases c2 : c = 116
        · rw [if_pos c2, c2]
        · rw [if_neg c2]
    · show G c q = _
      rw [if_neg (show ¬ (40 * s + j + m - 0 ≤ q ∧ q < 40 * s + j + m) by omega)]
      by_cases c1 : c = 115
      · rw [if_pos c1, c1]
      · rw [if_neg c1]
  | succ k ih =>
    intro hk
    obtain ⟨h1, h2⟩ := ih (by omega)
    rw [lp_275_121]
    revert h1 h2
    generalize lp_275_121 J G (nI s) (nI i) (nI s) (nI j) (nI m) u k = p
    intro h1 h2
    simp only [bx]
    have em : nI m - 1 - nI k = nI (m - 1 - k) := by
      refine Int32.toInt_inj.mp ?_
      have t1 : (1 : Int32).toInt = 1 := by decide
      have e1 : (nI m - 1).toInt = m - 1 := by rw [ti_sub (by rw [nI_toInt (by omega)]; omega) (by rw [nI_toInt (by omega)]; omega), nI_toInt (by omega), t1]
      rw [ti_sub (by rw [e1, nI_toInt (by omega)]; omega) (by rw [e1, nI_toInt (by omega)]; omega), e1, nI_toInt (by omega), nI_toInt (by omega)]
      omega
    rw [if_neg hu, em, at40, at40, nI_add, nI_add, cl (show 40 * s + i + (m - 1 - k) < 2 ^ 31 by omega), cl (show 40 * s + j + (m - 1 - k) < 2 ^ 31 by omega)]
    have r1 : p.1 114 (40 * s + i + (m - 1 - k)) = J 114 (40 * s + i + (m - 1 - k)) := by
      rw [h1, if_pos rfl, if_neg (by omega)]
    have r2 : p.1 116 (40 * s + i + (m - 1 - k)) = J 116 (40 * s + i + (m - 1 - k)) := by
      rw [h1, if_neg (by decide), if_pos rfl, if_neg (by omega)]
    have r3 : p.2 115 (40 * s + i + (m - 1 - k)) = G 115 (40 * s + i + (m - 1 - k)) := by
      rw [h2, if_pos rfl, if_neg (by omega)]
    rw [r1, r2, r3]
    refine ⟨fun c q => ?_, fun c q => ?_⟩
    · by_cases c1 : c = 114
      · subst c1
        rw [up2_nk (by omega), if_pos rfl]
        by_cases y : q = 40 * s + j + (m - 1 - k)
        · subst y
          rw [if_pos (by omega), show 40 * s + i + (40 * s + j + (m - 1 - k) - (40 * s + j)) = 40 * s + i + (m - 1 - k) by omega]
          simp [up2]
        · rw [up2_nk (by omega), h1, if_pos rfl]
          by_cases z : 40 * s + j + m - k ≤ q ∧ q < 40 * s + j + m
          · rw [if_pos z, if_pos (by omega)]
          · rw [if_neg z, if_neg (by omega)]
      · rw [if_neg c1]
        by_cases c2 : c = 116
        · subst c2
          rw [if_pos rfl]
          by_cases y : q = 40 * s + j + (m - 1 - k)
          · subst y
            rw [if_pos (by omega), show 40 * s + i + (40 * s + j + (m - 1 - k) - (40 * s + j)) = 40 * s + i + (m - 1 - k) by omega]
            simp [up2]
          · rw [up2_nk (by omega), up2_nk (by omega), h1, if_neg (by decide), if_pos rfl]
            by_cases z : 40 * s + j + m - k ≤ q ∧ q < 40 * s + j + m
            · rw [if_pos z, if_pos (by omega)]
            · rw [if_neg z, if_neg (by omega)]
        · rw [if_neg c2, up2_nk (by omega), up2_nk (by omega), h1, if_neg c1, if_neg c2]
    · by_cases c1 : c = 115
      · subst c1
        rw [if_pos rfl]
        by_cases y : q = 40 * s + j + (m - 1 - k)
        · subst y
          rw [if_pos (by omega), show 40 * s + i + (40 * s + j + (m - 1 - k) - (40 * s + j)) = 40 * s + i + (m - 1 - k) by omega]
          simp [up2]
        · rw [up2_nk (by omega), h2, if_pos rfl]
          by_cases z : 40 * s + j + m - k ≤ q ∧ q < 40 * s + j + m
          · rw [if_pos z, if_pos (by omega)]
          · rw [if_neg z, if_neg (by omega)]
      · rw [if_neg c1, up2_nk (by omega), h2, if_neg c1]
/-- however it goes, the whole run comes as it was -/
def cpR (J : WI) (s o i j m : Nat) : WI := fun c q => if c = 114 then mv (J 114) (40 * s + i) (40 * o + j) m q else if c = 116 then (if 40 * o + j ≤ q ∧ q < 40 * o + j + m then vp_nar (bT 0) (J 116 (40 * s + i + (q - (40 * o + j)))) else J 116 q) else J c q
def cpG (G : WF) (s o i j m : Nat) : WF := fun c q => if c = 115 then mv (G 115) (40 * s + i) (40 * o + j) m q else G c q
theorem copy_all {s o i j m : Nat} (hs : s < 4) (ho : o < 4) (hi : i + m ≤ 40) (hj : j + m ≤ 40) : lp_275_121 J G (nI s) (nI i) (nI o) (nI j) (nI m) (if ¬ nI s = nI o then 0 else if nI j ≤ nI i then 0 else 1) m = (cpR J s o i j m, cpG G s o i j m) := by
  have hso : (nI s = nI o) ↔ s = o := nI_eq (by omega) (by omega)
  by_cases y : s = o
  · subst y
    rw [if_neg (fun q => q rfl)]
    by_cases z : j ≤ i
    · rw [if_pos (nI_le z (by omega))]
      obtain ⟨h1, h2⟩ := copyN (J := J) (G := G) (x5 := nI m) (u := 0) hs hs hi hj rfl (Or.inr z) m (Nat.le_refl _)
      exact Prod.ext (funext fun c => funext fun q => h1 c q) (funext fun c => funext fun q => h2 c q)
    · rw [if_neg (by rw [nI_leI (by omega) (by omega)]; exact z)]
      obtain ⟨h1, h2⟩ := copyU (J := J) (G := G) (u := 1) hs hi hj d10 (show i ≤ j by omega) m (Nat.le_refl _)
      refine Prod.ext (funext fun c => funext fun q => ?_) (funext fun c => funext fun q => ?_)
      · rw [h1 c q]
        unfold cpR mv
        rw [show 40 * s + j + m - m = 40 * s + j by omega]
      · rw [h2 c q]
        unfold cpG mv
        rw [show 40 * s + j + m - m = 40 * s + j by omega]
  · rw [if_pos (fun q => y (hso.mp q))]
    obtain ⟨h1, h2⟩ := copyN (J := J) (G := G) (x5 := nI m) (u := 0) hs ho hi hj rfl (Or.inl y) m (Nat.le_refl _)
    exact Prod.ext (funext fun c => funext fun q => h1 c q) (funext fun c => funext fun q => h2 c q)
theorem g_copy {s o i j m : Nat} (hs : s < 4) (ho : o < 4) (hi : i + m ≤ 40) (hj : j + m ≤ 40) (u : Int32) : gl_275_121 J G (nI s) (nI i) (nI o) (nI j) (nI m) u m := by
  intro k hk
  show _ ∧ _
  have em : (if u = 0 then nI k else nI m - 1 - nI k) = nI (if u = 0 then k else m - 1 - k) := by
    by_cases c : u = 0
    · rw [if_pos c, if_pos c]
    · rw [if_neg c, if_neg c]
      refine Int32.toInt_inj.mp ?_
      have t1 : (1 : Int32).toInt = 1 := by decide
      have e1 : (nI m - 1).toInt = m - 1 := by rw [ti_sub (by rw [nI_toInt (by omega)]; omega) (by rw [nI_toInt (by omega)]; omega), nI_toInt (by omega), t1]
      rw [ti_sub (by rw [e1, nI_toInt (by omega)]; omega) (by rw [e1, nI_toInt (by omega)]; omega), e1, nI_toInt (by omega), nI_toInt (by omega)]
      omega
  have hlt : (if u = 0 then k else m - 1 - k) < m := by split <;> omega
  rw [em, at40, at40, nI_add, nI_add]
  exact ⟨vin (by omega) (by omega), vin (by omega) (by omega)⟩
theorem fitB {x : Int32} (h : bt (-128) 127 x) : fits .byte (.int x) = true := by
  have t : (-128 : Int32).toInt = -128 ∧ (127 : Int32).toInt = 127 := by decide
  show (decide (-128 ≤ x) && decide (x ≤ 127)) = true
  rw [decide_eq_true (Int32.le_iff_toInt_le.mpr (by rw [t.1]; exact h.1)), decide_eq_true (Int32.le_iff_toInt_le.mpr (by rw [t.2]; exact h.2))]
  rfl
theorem fitS {x : Int32} (h : bt (-32768) 32767 x) : fits .short (.int x) = true := by
  have t : (-32768 : Int32).toInt = -32768 ∧ (32767 : Int32).toInt = 32767 := by decide
  show (decide (-32768 ≤ x) && decide (x ≤ 32767)) = true
  rw [decide_eq_true (Int32.le_iff_toInt_le.mpr (by rw [t.1]; exact h.1)), decide_eq_true (Int32.le_iff_toInt_le.mpr (by rw [t.2]; exact h.2))]
  rfl
theorem nneg {k : Nat} (h : k < 2 ^ 31) : ¬ nI k < 0 := by
  rw [show (0 : Int32) = nI 0 from rfl, nI_ltI h (by omega)]; omega
theorem upR_at {α : Type} {f : Nat → Nat → α} {c : Nat} {g : Nat → α} (k : Nat) : upR f c g c k = g k := by
  unfold upR; rw [if_pos rfl]
theorem copy_main {s o i j m n n' : Nat} (hs : s < 4) (ho : o < 4) (h : kHs I J F G) (k1 : J 111 o = 1) (hp : kHp s n I J F G) (hq : kHp o n' I J F G) (c : J 112 s = J 112 o) (hi : i + m ≤ n) (hj : j + m ≤ n') :
    g_50 I (58 + 4 * s) (nI i) (nI j) (nI m) ∧ kHs (v_50 I F (58 + 4 * s) (nI i) (58 + 4 * o) (nI j) (nI m)).1 (cpR J s o i j m) (v_50 I F (58 + 4 * s) (nI i) (58 + 4 * o) (nI j) (nI m)).2 (cpG G s o i j m) := by
  obtain ⟨hn, a2, a3, a4, a5⟩ := hp
  obtain ⟨hn', b2, b3, b4, b5⟩ := hq
  have hj111 : ∀ c k, c ≠ 114 → c ≠ 116 → cpR J s o i j m c k = J c k := fun c k h1 h2 => by unfold cpR; rw [if_neg h1, if_neg h2]
  have frJ : ∀ c k, ¬ ((c = 111 ∨ c = 112 ∨ c = 113) ∧ k = o) → ¬ ((c = 114 ∨ c = 116) ∧ 40 * o ≤ k ∧ k < 40 * o + 40) → cpR J s o i j m c k = J c k := fun c k h1 h2 => by
    unfold cpR mv
    by_cases c1 : c = 114
    · subst c1; rw [if_pos rfl, if_neg (by omega)]
    · rw [if_neg c1]
      by_cases c2 : c = 116
      · subst c2; rw [if_pos rfl, if_neg (by omega)]
      · rw [if_neg c2]
  have frG : ∀ c k, ¬ (c = 115 ∧ 40 * o ≤ k ∧ k < 40 * o + 40) → cpG G s o i j m c k = G c k := fun c k h1 => by
    unfold cpG mv
    by_cases c1 : c = 115
    · subst c1; rw [if_pos rfl, if_neg (by omega)]
    · rw [if_neg c1]
  have i114 : ∀ i', i' < n' → cpR J s o i j m 114 (40 * o + i') = if j ≤ i' ∧ i' < j + m then J 114 (40 * s + (i + (i' - j))) else J 114 (40 * o + i') := fun i' _ => by
    unfold cpR mv
    rw [if_pos rfl]
    by_cases y : j ≤ i' ∧ i' < j + m
    · rw [if_pos y, if_pos (by omega), show 40 * s + i + (40 * o + i' - (40 * o + j)) = 40 * s + (i + (i' - j)) by omega]
    · rw [if_neg y, if_neg (by omega)]
  have i116 : ∀ i', i' < n' → cpR J s o i j m 116 (40 * o + i') = if j ≤ i' ∧ i' < j + m then vp_nar (bT 0) (J 116 (40 * s + (i + (i' - j)))) else J 116 (40 * o + i') := fun i' _ => by
    unfold cpR
    rw [if_neg (by decide), if_pos rfl]
    by_cases y : j ≤ i' ∧ i' < j + m
    · rw [if_pos y, if_pos (by omega), show 40 * s + i + (40 * o + i' - (40 * o + j)) = 40 * s + (i + (i' - j)) by omega]
    · rw [if_neg y, if_neg (by omega)]
  have i115 : ∀ i', i' < n' → cpG G s o i j m 115 (40 * o + i') = if j ≤ i' ∧ i' < j + m then G 115 (40 * s + (i + (i' - j))) else G 115 (40 * o + i') := fun i' _ => by
    unfold cpG mv
    rw [if_pos rfl]
    by_cases y : j ≤ i' ∧ i' < j + m
    · rw [if_pos y, if_pos (by omega), show 40 * s + i + (40 * o + i' - (40 * o + j)) = 40 * s + (i + (i' - j)) by omega]
    · rw [if_neg y, if_neg (by omega)]
  have vc : ∀ {α : Type} (A B : Nat → α) (i' : Nat), va_cpy A B i j m i' = if j ≤ i' ∧ i' < j + m then A (i + (i' - j)) else B i' := fun A B i' => rfl
  have ni : ¬ nI i < 0 := nneg (by omega)
  have nj : ¬ nI j < 0 := nneg (by omega)
  have nm : ¬ nI m < 0 := nneg (by omega)
  have ci := cl (show i < 2 ^ 31 by omega)
  have cj := cl (show j < 2 ^ 31 by omega)
  have cm := cl (show m < 2 ^ 31 by omega)
  unfold g_50 v_50
  rw [ci, cj, cm, a4]
  rcases a5 with ⟨a5, a6⟩ | ⟨a5, a6⟩ | ⟨a5, a6⟩
  · have b5' : ∀ i, i < n' → q4 (G 115 (40 * o + i)) ∧ ((J 116 (40 * o + i) = 0 ∧ F (58 + 4 * o + 1) i = G 115 (40 * o + i)) ∨ (J 116 (40 * o + i) = 1 ∧ F (58 + 4 * o + 1) i = FP.fconst0)) := by
      rcases b5 with ⟨-, b6⟩ | ⟨q, -⟩ | ⟨q, -⟩
      · exact b6
      · rw [← c, a5] at q; exact absurd q (by decide)
      · rw [← c, a5] at q; exact absurd q (by decide)
    rw [a5, if_pos rfl]
    simp only [bx]
    refine ⟨⟨fun _ => ⟨ni, nj, nm, by omega, by omega⟩, fun q => absurd (by decide) q⟩, ?_⟩
    refine kHs_frame ho h (Or.inr ⟨?_, n', hn', b2, ?_, ?_, Or.inl ⟨?_, fun i' hi' => ?_⟩⟩) (fun _ _ _ => rfl) (fun q k hq => upR_nk (by omega)) frJ frG
    · rw [hj111 _ _ (by decide) (by decide)]; exact k1
    · rw [hj111 _ _ (by decide) (by decide)]; exact b3
    · rw [hj111 _ _ (by decide) (by decide)]; exact b4
    · rw [hj111 _ _ (by decide) (by decide), ← c, a5]
    · rw [i115 i' hi', i116 i' hi', upR_at, vc]
      by_cases y : j ≤ i' ∧ i' < j + m
      · rw [if_pos y, if_pos y, if_pos y]
        obtain ⟨u1, u2⟩ := a6 (i + (i' - j)) (by omega)
        refine ⟨u1, ?_⟩
        rcases u2 with ⟨u2, u3⟩ | ⟨u2, u3⟩
        · exact Or.inl ⟨by rw [u2]; exact nar0.1, u3⟩
        · exact Or.inr ⟨by rw [u2]; exact nar0.2, u3⟩
      · rw [if_neg y, if_neg y, if_neg y]
        exact b5' i' hi'
  · have b5' : ∀ i, i < n' → I (58 + 4 * o + 2) i = J 114 (40 * o + i) ∧ bt (-128) 127 (J 114 (40 * o + i)) := by
      rcases b5 with ⟨q, -⟩ | ⟨-, b6⟩ | ⟨q, -⟩
      · rw [← c, a5] at q; exact absurd q (by decide)
      · exact b6
      · rw [← c, a5] at q; exact absurd q (by decide)
    rw [a5, if_neg (by decide), if_pos rfl]
    simp only [bx]
    refine ⟨⟨fun q => absurd q (by decide), fun _ => ⟨fun _ => ⟨ni, nj, nm, by omega, by omega, fun k hk => ?_⟩, fun q => absurd (by decide) q⟩⟩, ?_⟩
    · rw [(a6 (i + k) (by omega)).1]; exact fitB (a6 (i + k) (by omega)).2
    refine kHs_frame ho h (Or.inr ⟨?_, n', hn', ?_, ?_, ?_, Or.inr (Or.inl ⟨?_, fun i' hi' => ?_⟩)⟩) (fun q k hq => upR_nk (by omega)) (fun _ _ _ => rfl) frJ frG
    · rw [hj111 _ _ (by decide) (by decide)]; exact k1
    · exact (upR_nk (by omega)).trans b2
    · rw [hj111 _ _ (by decide) (by decide)]; exact b3
    · rw [hj111 _ _ (by decide) (by decide)]; exact (upR_nk (by omega)).trans b4
    · rw [hj111 _ _ (by decide) (by decide), ← c, a5]
    · rw [i114 i' hi', upR_at, vc]
      by_cases y : j ≤ i' ∧ i' < j + m
      · rw [if_pos y, if_pos y]
        exact a6 (i + (i' - j)) (by omega)
      · rw [if_neg y, if_neg y]
        exact b5' i' hi'
  · have b5' : ∀ i, i < n' → I (58 + 4 * o + 3) i = J 114 (40 * o + i) ∧ bt (-32768) 32767 (J 114 (40 * o + i)) := by
      rcases b5 with ⟨q, -⟩ | ⟨q, -⟩ | ⟨-, b6⟩
      · rw [← c, a5] at q; exact absurd q (by decide)
      · rw [← c, a5] at q; exact absurd q (by decide)
      · exact b6
    rw [a5, if_neg (by decide), if_neg (by decide), if_pos rfl]
    simp only [bx]
    refine ⟨⟨fun q => absurd q (by decide), fun _ => ⟨fun q => absurd q (by decide), fun _ => ⟨fun _ => ⟨ni, nj, nm, by omega, by omega, fun k hk => ?_⟩, fun q => absurd (by decide) q⟩⟩⟩, ?_⟩
    · rw [(a6 (i + k) (by omega)).1]; exact fitS (a6 (i + k) (by omega)).2
    refine kHs_frame ho h (Or.inr ⟨?_, n', hn', ?_, ?_, ?_, Or.inr (Or.inr ⟨?_, fun i' hi' => ?_⟩)⟩) (fun q k hq => upR_nk (by omega)) (fun _ _ _ => rfl) frJ frG
    · rw [hj111 _ _ (by decide) (by decide)]; exact k1
    · exact (upR_nk (by omega)).trans b2
    · rw [hj111 _ _ (by decide) (by decide)]; exact b3
    · rw [hj111 _ _ (by decide) (by decide)]; exact (upR_nk (by omega)).trans b4
    · rw [hj111 _ _ (by decide) (by decide), ← c, a5]
    · rw [i114 i' hi', upR_at, vc]
      by_cases y : j ≤ i' ∧ i' < j + m
      · rw [if_pos y, if_pos y]
        exact a6 (i + (i' - j)) (by omega)
      · rw [if_neg y, if_neg y]
        exact b5' i' hi'
theorem op_copy (h : kHs I J F G) (x1 x2 x3 x4 x5 : Int32) : g_161 I x1 x2 x3 x4 x5 ∧ g_275 J G x1 x2 x3 x4 x5 ∧ (v_161 I F x1 x2 x3 x4 x5).1 = (v_275 J G x1 x2 x3 x4 x5).1 ∧ kHs (v_161 I F x1 x2 x3 x4 x5).2.1 (v_275 J G x1 x2 x3 x4 x5).2.1 (v_161 I F x1 x2 x3 x4 x5).2.2 (v_275 J G x1 x2 x3 x4 x5).2.2 := by
  have t0 : (0 : Int32).toInt = 0 := by decide
  unfold g_161 g_275 v_161 v_275
  rcases sh4 x1 with ⟨e, e', s, hs, rfl⟩ | ⟨e, e'⟩
  · have hs4 : vp_in (nI s) 4 := vin hs (by omega)
    rcases sh4 x3 with ⟨f, f', o, ho, rfl⟩ | ⟨f, f'⟩
    · have ho4 : vp_in (nI o) 4 := vin ho (by omega)
      rw [e, e', f, f', if_neg d10, if_neg d10, if_pos d10, if_pos d10, b58 hs, b58 ho, cl (show s < 2 ^ 31 by omega), cl (show o < 2 ^ 31 by omega)]
      simp only [bx]
      rcases kH_p (h s hs) with ⟨h1, h2, h3⟩ | ⟨h1, n, hp⟩
      · rw [v44_m h2, h1, if_pos d10, if_pos rfl]
        exact ⟨fun _ _ => ⟨hs4, ho4, fun q => absurd d10 q⟩, fun _ _ => ⟨hs4, fun q => absurd rfl q⟩, rfl, h⟩
      · have hne := kHp_ne hp
        rw [v44_p hne, h1, if_neg d00, if_neg d10]
        rcases kH_p (h o ho) with ⟨k1, k2, k3⟩ | ⟨k1, n', hq⟩
        · rw [v44_m k2, k1, if_neg d10, if_neg d00]
          exact ⟨fun _ _ => ⟨hs4, ho4, fun _ q => absurd q d10⟩, fun _ _ => ⟨hs4, fun _ => ⟨ho4, fun q => absurd rfl q⟩⟩, rfl, h⟩
        · have hne' := kHp_ne hq
          have hp2 := hp
          have hq2 := hq
          obtain ⟨hn, a2, a3, a4, a5⟩ := hp2
          obtain ⟨hn', b2, b3, b4, b5⟩ := hq2
          rw [v44_p hne', k1, if_pos rfl, if_pos d10, a4, b4]
          by_cases c : J 112 s = J 112 o
          · rw [if_pos c, if_pos c, a3, b3]
            have r1 := run_n a2 hn x2 x5
            have r2 := run_n b2 hn' x4 x5
            have en : (nI n).toInt = n := nI_toInt (by omega)
            have en' : (nI n').toInt = n' := nI_toInt (by omega)
            simp only [Int32.lt_iff_toInt_lt, Int32.le_iff_toInt_le, t0]
            by_cases c5 : x5.toInt < 0
            · rw [if_pos c5]
              rcases r1 with ⟨-, r1⟩ | ⟨r1, -⟩
              · omega
              · rw [r1, if_pos rfl]
                exact ⟨fun _ _ => ⟨hs4, ho4, fun _ _ _ q => absurd rfl q⟩, fun _ _ => ⟨hs4, fun _ => ⟨ho4, fun _ => ⟨hs4, ho4, fun _ q => absurd c5 q⟩⟩⟩, rfl, h⟩
            · have hb5 := Int32.toInt_lt x5
              have e1 : (nI n - x5).toInt = n - x5.toInt := by rw [ti_sub (by omega) (by omega), en]
              have e2 : (nI n' - x5).toInt = n' - x5.toInt := by rw [ti_sub (by omega) (by omega), en']
              rw [if_neg c5, e1, e2]
              by_cases c2 : x2.toInt < 0
              · rw [if_pos c2]
                rcases r1 with ⟨-, r1⟩ | ⟨r1, -⟩
                · omega
                · rw [r1, if_pos rfl]
                  exact ⟨fun _ _ => ⟨hs4, ho4, fun _ _ _ q => absurd rfl q⟩, fun _ _ => ⟨hs4, fun _ => ⟨ho4, fun _ => ⟨hs4, ho4, fun _ _ q => absurd c2 q⟩⟩⟩, rfl, h⟩
              · rw [if_neg c2]
                by_cases c4 : x4.toInt < 0
                · rw [if_pos c4]
                  rcases r2 with ⟨-, r2⟩ | ⟨r2, -⟩
                  · omega
                  · rw [r2, if_neg d00]
                    refine ⟨fun _ _ => ⟨hs4, ho4, fun _ _ _ _ q => absurd rfl q⟩, fun _ _ => ⟨hs4, fun _ => ⟨ho4, fun _ => ⟨hs4, ho4, fun _ _ _ q => absurd c4 q⟩⟩⟩, ?_, ?_⟩
                    · split <;> rfl
                    · split <;> exact h
                · rw [if_neg c4]
                  by_cases c6 : (n : Int) - x5.toInt < x2.toInt
                  · rw [if_pos c6]
                    rcases r1 with ⟨-, r1⟩ | ⟨r1, -⟩
                    · omega
                    · rw [r1, if_pos rfl]
                      exact ⟨fun _ _ => ⟨hs4, ho4, fun _ _ _ q => absurd rfl q⟩, fun _ _ => ⟨hs4, fun _ => ⟨ho4, fun _ => ⟨hs4, ho4, fun _ _ _ _ => ⟨hs4, fun q => absurd c6 q⟩⟩⟩⟩, rfl, h⟩
                  · rw [if_neg c6]
                    rcases r1 with ⟨r1, w1, w2, w3⟩ | ⟨-, r1⟩
                    · rw [r1, if_neg d10]
                      by_cases c7 : x4.toInt ≤ (n' : Int) - x5.toInt
                      · rw [if_pos c7]
                        rcases r2 with ⟨r2, y1, y2, y3⟩ | ⟨-, r2⟩
                        · rw [r2, if_pos d10]
                          obtain ⟨i, q2, rfl⟩ : ∃ i : Nat, (i : Int) = x2.toInt ∧ x2 = nI i := ⟨x2.toInt.toNat, by omega, ti_eq (by omega)⟩
                          obtain ⟨j, q4', rfl⟩ : ∃ j : Nat, (j : Int) = x4.toInt ∧ x4 = nI j := ⟨x4.toInt.toNat, by omega, ti_eq (by omega)⟩
                          obtain ⟨m, q5, rfl⟩ : ∃ m : Nat, (m : Int) = x5.toInt ∧ x5 = nI m := ⟨x5.toInt.toNat, by omega, ti_eq (by omega)⟩
                          have hm := copy_main hs ho h k1 hp hq c (i := i) (j := j) (m := m) (by omega) (by omega)
                          simp only [← Int32.le_iff_toInt_le]
                          rw [cl (show m < 2 ^ 31 by omega), copy_all hs ho (show i + m ≤ 40 by omega) (show j + m ≤ 40 by omega)]
                          exact ⟨fun _ _ => ⟨hs4, ho4, fun _ _ _ _ _ => hm.1⟩, fun _ _ => ⟨hs4, fun _ => ⟨ho4, fun _ => ⟨hs4, ho4, fun _ _ _ _ => ⟨hs4, fun _ => ⟨ho4, fun _ => g_copy hs ho (by omega) (by omega) _⟩⟩⟩⟩⟩, trivial, hm.2⟩
                        · omega
                      · rw [if_neg c7]
                        rcases r2 with ⟨-, r2⟩ | ⟨r2, -⟩
                        · omega
                        · rw [r2, if_neg d00]
                          exact ⟨fun _ _ => ⟨hs4, ho4, fun _ _ _ _ q => absurd rfl q⟩, fun _ _ => ⟨hs4, fun _ => ⟨ho4, fun _ => ⟨hs4, ho4, fun _ _ _ _ => ⟨hs4, fun _ => ⟨ho4, fun q => absurd q c7⟩⟩⟩⟩⟩, rfl, h⟩
                    · omega
          · rw [if_neg c, if_neg c]
            exact ⟨fun _ _ => ⟨hs4, ho4, fun _ _ q => absurd q c⟩, fun _ _ => ⟨hs4, fun _ => ⟨ho4, fun _ => ⟨hs4, ho4, fun q => absurd q c⟩⟩⟩, rfl, h⟩
    · rw [e, e', f, f', if_neg d10, if_neg d10, if_neg d00, if_neg d00]
      exact ⟨fun _ q => absurd rfl q, fun _ q => absurd rfl q, rfl, h⟩
  · rw [e, e', if_pos rfl, if_pos rfl]
    exact ⟨fun q => absurd rfl q, fun q => absurd rfl q, rfl, h⟩
end
