section
variable {I J I' J' : WI} {F G F' G' : WF}
/-! a sheet of the class's (cells 58 + 4 s ..) and the reference's (rows 111 .. 116) -/
def kH (s : Nat) (I J : WI) (F G : WF) : Prop := (J 111 s = 0 ∧ I (58 + 4 * s) 0 = -1 ∧ I (58 + 4 * s) 1 = 0) ∨
  (J 111 s = 1 ∧ ∃ n : Nat, n ≤ 40 ∧ I (58 + 4 * s) 1 = nI n ∧ J 113 s = nI n ∧ I (58 + 4 * s) 0 = J 112 s ∧
    ((J 112 s = 0 ∧ ∀ i, i < n → q4 (G 115 (40 * s + i)) ∧ ((J 116 (40 * s + i) = 0 ∧ F (58 + 4 * s + 1) i = G 115 (40 * s + i)) ∨ (J 116 (40 * s + i) = 1 ∧ F (58 + 4 * s + 1) i = FP.fconst0))) ∨
     (J 112 s = 1 ∧ ∀ i, i < n → I (58 + 4 * s + 2) i = J 114 (40 * s + i) ∧ bt (-128) 127 (J 114 (40 * s + i))) ∨
     (J 112 s = 2 ∧ ∀ i, i < n → I (58 + 4 * s + 3) i = J 114 (40 * s + i) ∧ bt (-32768) 32767 (J 114 (40 * s + i)))))
def kHs (I J : WI) (F G : WF) : Prop := ∀ s, s < 4 → kH s I J F G
theorem kH_cg {s : Nat} (h : kH s I J F G) (hI : ∀ c k, 58 + 4 * s ≤ c → c < 62 + 4 * s → I' c k = I c k) (hF : ∀ k, F' (58 + 4 * s + 1) k = F (58 + 4 * s + 1) k)
    (hJ : ∀ c k, ((c = 111 ∨ c = 112 ∨ c = 113) ∧ k = s) ∨ ((c = 114 ∨ c = 116) ∧ 40 * s ≤ k ∧ k < 40 * s + 40) → J' c k = J c k) (hG : ∀ k, 40 * s ≤ k → k < 40 * s + 40 → G' 115 k = G 115 k) : kH s I' J' F' G' := by
  rcases h with ⟨h1, h2, h3⟩ | ⟨h1, n, hn, h2, h3, h4, h5⟩
  · left
    rw [hJ _ _ (by omega), hI _ _ (by omega) (by omega), hI _ _ (by omega) (by omega)]
    exact ⟨h1, h2, h3⟩
  · right
    refine ⟨by rw [hJ _ _ (by omega)]; exact h1, n, hn, by rw [hI _ _ (by omega) (by omega)]; exact h2, by rw [hJ _ _ (by omega)]; exact h3, by rw [hJ _ _ (by omega), hI _ _ (by omega) (by omega)]; exact h4, ?_⟩
    rw [hJ 112 s (by omega)]
    rcases h5 with ⟨h5, h6⟩ | ⟨h5, h6⟩ | ⟨h5, h6⟩
    · refine Or.inl ⟨h5, fun i hi => ?_⟩
      rw [hG _ (by omega) (by omega), hJ _ _ (by omega), hF]
      exact h6 i hi
    · refine Or.inr (Or.inl ⟨h5, fun i hi => ?_⟩)
      rw [hI _ _ (by omega) (by omega), hJ _ _ (by omega)]
      exact h6 i hi
    · refine Or.inr (Or.inr ⟨h5, fun i hi => ?_⟩)
      rw [hI _ _ (by omega) (by omega), hJ _ _ (by omega)]
      exact h6 i hi
theorem kHs_cg (h : kHs I J F G) (hI : ∀ c k, 58 ≤ c → c < 74 → I' c k = I c k) (hF : ∀ c k, 58 ≤ c → c < 74 → F' c k = F c k) (hJ : ∀ c k, c = 111 ∨ c = 112 ∨ c = 113 ∨ c = 114 ∨ c = 116 → J' c k = J c k) (hG : ∀ k, G' 115 k = G 115 k) : kHs I' J' F' G' := fun s hs =>
  kH_cg (h s hs) (fun c k _ _ => hI c k (by omega) (by omega)) (fun k => hF _ k (by omega) (by omega)) (fun c k _ => hJ c k (by omega)) (fun k _ _ => hG k)
theorem sh4 (x : Int32) : (v_146 x = 1 ∧ v_262 x = 1 ∧ ∃ s, s < 4 ∧ x = nI s) ∨ (v_146 x = 0 ∧ v_262 x = 0) := by
  have e : v_262 x = v_146 x := by
    unfold v_262 v_146
    rw [show (0 : Int64) = Int32.toInt64 0 by decide, show (3 : Int64) = Int32.toInt64 3 by decide, v170_107]
  rw [e]
  have e3 : (nI 4 - 1 : Int32) = 3 := by decide
  rcases vnum (nv := 4) (by omega) x with ⟨h, s, hs, rfl⟩ | h
  · rw [e3] at h
    exact Or.inl ⟨h, h, s, hs, rfl⟩
  · rw [e3] at h
    exact Or.inr ⟨h, h⟩
theorem b58 {s : Nat} (hs : s < 4) : 58 + 4 * (nI s).toNatClampNeg = 58 + 4 * s := by rw [cl (by omega)]
theorem at40 {s : Nat} (i : Nat) : (40 * nI s + nI i : Int32) = nI (40 * s + i) := by rw [show (40 : Int32) = nI 40 from rfl, pk_mul, nI_add]
theorem in160 {s i : Nat} (hs : s < 4) (hi : i < 40) : vp_in (40 * nI s + nI i) 160 ∧ (40 * nI s + nI i).toNatClampNeg = 40 * s + i := by
  rw [at40]
  exact ⟨vin (by omega) (by omega), cl (by omega)⟩
/-- one item: within the size -/
theorem run1 {b n : Nat} (h : I b 1 = nI n) (hn : n ≤ 40) (x : Int32) : v_48 I b x 1 = v_107 x 0 (nI n - 1) := by
  have t : (0 : Int32).toInt = 0 ∧ (1 : Int32).toInt = 1 := by decide
  have b1 := Int32.toInt_lt x
  have b2 := Int32.le_toInt x
  have en : (nI n).toInt = n := nI_toInt (by omega)
  have e1 : (nI n - 1).toInt = n - 1 := by rw [ti_sub (by omega) (by omega), en, t.2]
  unfold v_48 v_107
  rw [h]
  simp only [Int32.lt_iff_toInt_lt, en, e1, t.1, t.2]
  by_cases c1 : x.toInt < 0
  · rw [if_pos c1, if_pos c1]
  · rw [if_neg c1, if_neg c1, if_neg (show ¬ (1 : Int) < 0 by omega)]
    by_cases c2 : (n : Int) < x.toInt
    · rw [if_pos c2, if_pos (by omega)]
    · have e2 : (nI n - x).toInt = n - x.toInt := by rw [ti_sub (by omega) (by omega), en]
      rw [if_neg c2, e2]
      by_cases c3 : (n : Int) - x.toInt < 1
      · rw [if_pos c3, if_pos (by omega)]
      · rw [if_neg c3, if_neg (by omega)]
/-- a run of items -/
theorem run_n {b n : Nat} (h : I b 1 = nI n) (hn : n ≤ 40) (x y : Int32) : (v_48 I b x y = 1 ∧ 0 ≤ x.toInt ∧ 0 ≤ y.toInt ∧ x.toInt + y.toInt ≤ n) ∨ (v_48 I b x y = 0 ∧ ¬ (0 ≤ x.toInt ∧ 0 ≤ y.toInt ∧ x.toInt + y.toInt ≤ n)) := by
  have t : (0 : Int32).toInt = 0 := by decide
  have en : (nI n).toInt = n := nI_toInt (by omega)
  unfold v_48
  rw [h]
  simp only [Int32.lt_iff_toInt_lt, en, t]
  by_cases c1 : x.toInt < 0
  · rw [if_pos c1]; exact Or.inr ⟨rfl, by omega⟩
  · rw [if_neg c1]
    by_cases c2 : y.toInt < 0
    · rw [if_pos c2]; exact Or.inr ⟨rfl, by omega⟩
    · rw [if_neg c2]
      by_cases c3 : (n : Int) < x.toInt
      · rw [if_pos c3]; exact Or.inr ⟨rfl, by omega⟩
      · have e2 : (nI n - x).toInt = n - x.toInt := by rw [ti_sub (by omega) (by omega), en]
        rw [if_neg c3, e2]
        by_cases c4 : (n : Int) - x.toInt < y.toInt
        · rw [if_pos c4]; exact Or.inr ⟨rfl, by omega⟩
        · rw [if_neg c4]; exact Or.inl ⟨rfl, by omega, by omega, by omega⟩
theorem v44_m {b : Nat} (h : I b 0 = -1) : v_44 I b = 1 := by
  unfold v_44
  rw [if_neg (fun q => q h)]
theorem v44_p {b : Nat} (h : ¬ I b 0 = -1) : v_44 I b = 0 := by
  unfold v_44
  rw [if_pos h]
theorem sort_ne {k : Int32} (h : k = 0 ∨ k = 1 ∨ k = 2) : ¬ k = -1 := by
  rcases h with rfl | rfl | rfl <;> decide
/-- why items are not to be had -/
theorem v158_m {s : Nat} (hs : s < 4) (e : v_146 (nI s) = 1) (h : I (58 + 4 * s) 0 = -1) (k x y : Int32) : v_158 I (nI s) k x y = -11 := by
  unfold v_158
  rw [e, if_pos d10, b58 hs]
  simp only [bx]
  rw [v44_m h, if_neg d10]
theorem v158_p {s : Nat} (hs : s < 4) (e : v_146 (nI s) = 1) (h : ¬ I (58 + 4 * s) 0 = -1) (k x y : Int32) : v_158 I (nI s) k x y = if k = 3 ∨ k = I (58 + 4 * s) 0 then (if v_48 I (58 + 4 * s) x y = 0 then -12 else 0) else -13 := by
  unfold v_158
  rw [e, if_pos d10, b58 hs]
  simp only [bx]
  rw [v44_p h, if_pos rfl]
  by_cases c : k = 3
  · rw [if_pos c, if_pos (Or.inl c)]
  · rw [if_neg c]
    by_cases c2 : k = I (58 + 4 * s) 0
    · rw [if_pos c2, if_pos (Or.inr c2)]
    · rw [if_neg c2, if_neg (fun q => q.elim c c2)]
theorem v158_n {x : Int32} (e : v_146 x = 0) (k y z : Int32) : v_158 I x k y z = -2 := by
  unfold v_158
  rw [e, if_neg d00]
theorem v272_eq {s n : Nat} (hs : s < 4) (h : J 113 s = nI n) (x : Int32) : v_272 J (nI s) x = v_107 x 0 (nI n - 1) := by
  unfold v_272
  rw [cl (by omega), h, show (0 : Int64) = Int32.toInt64 0 by decide, v170_107]
/-- what an item tells -/
theorem tell_eq {s n i : Nat} (hs : s < 4) (hi : i < n) (hn : n ≤ 40) (h4 : I (58 + 4 * s) 0 = J 112 s) (h5 : (J 112 s = 0 ∧ ∀ i, i < n → q4 (G 115 (40 * s + i)) ∧ ((J 116 (40 * s + i) = 0 ∧ F (58 + 4 * s + 1) i = G 115 (40 * s + i)) ∨ (J 116 (40 * s + i) = 1 ∧ F (58 + 4 * s + 1) i = FP.fconst0))) ∨
     (J 112 s = 1 ∧ ∀ i, i < n → I (58 + 4 * s + 2) i = J 114 (40 * s + i) ∧ bt (-128) 127 (J 114 (40 * s + i))) ∨
     (J 112 s = 2 ∧ ∀ i, i < n → I (58 + 4 * s + 3) i = J 114 (40 * s + i) ∧ bt (-32768) 32767 (J 114 (40 * s + i)))) :
    g_45 I F (58 + 4 * s) (nI i) ∧ g_264 J G (nI s) (nI i) ∧ v_45 I F (58 + 4 * s) (nI i) = v_264 J G (nI s) (nI i) := by
  have hin := in160 (s := s) (i := i) hs (by omega)
  have hi40 : vp_in (nI i) 40 := vin (by omega) (by omega)
  have hs4 : vp_in (nI s) 4 := vin hs (by omega)
  unfold g_45 g_264 v_45 v_264
  rw [hin.2, cl (show s < 2 ^ 31 by omega), cl (show i < 2 ^ 31 by omega), h4]
  rcases h5 with ⟨h5, h6⟩ | ⟨h5, h6⟩ | ⟨h5, h6⟩
  · obtain ⟨hq, hv⟩ := h6 i hi
    have hz : FP.fmul 1082130432 FP.fconst0 = 0 := by decide +kernel
    rw [h5]
    rcases hv with ⟨v1, v2⟩ | ⟨v1, v2⟩
    · rw [v1, v2]
      exact ⟨⟨fun _ => ⟨hi40, q4_n hq⟩, fun q => absurd rfl q⟩, ⟨hs4, fun _ => ⟨hin.1, fun _ => ⟨hin.1, q4_n hq⟩⟩, fun q => absurd rfl q⟩, rfl⟩
    · rw [v1, v2]
      refine ⟨⟨fun _ => ⟨hi40, q4_n q4_0⟩, fun q => absurd rfl q⟩, ⟨hs4, fun _ => ⟨hin.1, fun q => absurd q (by decide)⟩, fun q => absurd rfl q⟩, ?_⟩
      rw [if_pos rfl, if_pos rfl, if_neg (by decide), hz]
      decide +kernel
  · rw [h5]
    exact ⟨⟨fun q => absurd q (by decide), fun _ => ⟨fun _ => hi40, fun q => absurd rfl q⟩⟩, ⟨hs4, fun q => absurd q (by decide), fun _ => hin.1⟩, (h6 i hi).1⟩
  · rw [h5]
    exact ⟨⟨fun q => absurd q (by decide), fun _ => ⟨fun q => absurd q (by decide), fun _ => ⟨fun _ => hi40, fun q => absurd rfl q⟩⟩⟩, ⟨hs4, fun q => absurd q (by decide), fun _ => hin.1⟩, (h6 i hi).1⟩
theorem op_item (h : kHs I J F G) (x1 x2 : Int32) : g_160 I F x1 x2 ∧ g_274 J G x1 x2 ∧ v_160 I F x1 x2 = v_274 J G x1 x2 := by
  unfold g_160 g_274 v_160 v_274 g_158 g_272
  rcases sh4 x1 with ⟨e, e', s, hs, rfl⟩ | ⟨e, e'⟩
  · have hs4 : vp_in (nI s) 4 := vin hs (by omega)
    rcases h s hs with ⟨h1, h2, h3⟩ | ⟨h1, n, hn, h2, h3, h4, h5⟩
    · rw [v158_m hs e h2, e', if_pos (by decide), if_neg d10, cl (show s < 2 ^ 31 by omega), h1, if_pos rfl]
      exact ⟨⟨fun _ => hs4, fun q => absurd (by decide) q⟩, fun _ => ⟨hs4, fun q => absurd rfl q⟩, rfl⟩
    · have hne : ¬ I (58 + 4 * s) 0 = -1 := by rw [h4]; exact sort_ne (by rcases h5 with ⟨q, -⟩ | ⟨q, -⟩ | ⟨q, -⟩ <;> rw [q] <;> decide)
      rw [v158_p hs e hne, if_pos (Or.inl rfl), run1 h2 hn, v272_eq hs h3, e', if_neg d10, cl (show s < 2 ^ 31 by omega), h1, if_neg d10]
      rcases vnum (nv := n) hn x2 with ⟨e2, i, hi, rfl⟩ | e2
      · have ht := tell_eq hs hi hn h4 h5
        rw [e2, if_neg d10, if_neg d00, if_neg d10]
        exact ⟨⟨fun _ => hs4, fun _ => ⟨hs4, ht.1⟩⟩, fun _ => ⟨hs4, fun _ => ⟨hs4, fun _ => ht.2.1⟩⟩, ht.2.2⟩
      · rw [e2, if_pos rfl, if_pos (by decide), if_pos rfl]
        exact ⟨⟨fun _ => hs4, fun q => absurd (by decide) q⟩, fun _ => ⟨hs4, fun _ => ⟨hs4, fun q => absurd rfl q⟩⟩, rfl⟩
  · rw [v158_n e, e, e', if_pos (by decide), if_pos rfl]
    exact ⟨⟨fun q => absurd rfl q, fun q => absurd (by decide) q⟩, fun q => absurd rfl q, rfl⟩
theorem b8 (x : Int32) : bt (-128) 127 (Int8.toInt32 (Int32.toInt8 x)) := by
  unfold bt
  rw [Int8.toInt_toInt32]
  have h1 := Int8.toInt_lt (Int32.toInt8 x)
  have h2 := Int8.le_toInt (Int32.toInt8 x)
  omega
theorem b16 (x : Int32) : bt (-32768) 32767 (Int16.toInt32 (Int32.toInt16 x)) := by
  unfold bt
  rw [Int16.toInt_toInt32]
  have h1 := Int16.toInt_lt (Int32.toInt16 x)
  have h2 := Int16.le_toInt (Int32.toInt16 x)
  omega
theorem bT1 : bT 1 = .byte := rfl
theorem nar0 : vp_nar (bT 0) 0 = 0 ∧ vp_nar (bT 0) 1 = 1 := by decide
theorem op_rest (h : kHs I J F G) (x1 x2 x3 : Int32) : g_162 I F x1 x2 x3 ∧ g_276 J x1 x2 x3 ∧ v_162 I F x1 x2 x3 = v_276 J x1 x2 x3 := by
  unfold g_162 g_276 v_162 v_276 g_158 g_272
  rcases sh4 x1 with ⟨e, e', s, hs, rfl⟩ | ⟨e, e'⟩
  · have hs4 : vp_in (nI s) 4 := vin hs (by omega)
    rcases h s hs with ⟨h1, h2, h3⟩ | ⟨h1, n, hn, h2, h3, h4, h5⟩
    · rw [v158_m hs e h2, v158_m hs e h2, e', if_pos d10, cl (show s < 2 ^ 31 by omega), h1, if_neg d00]
      simp only [bx]
      rw [if_pos (by decide), if_neg (by decide)]
      exact ⟨⟨fun _ => hs4, fun q => absurd (by decide) q, fun q => absurd q (by decide)⟩, fun _ => ⟨hs4, fun q => absurd (by decide) q⟩, rfl⟩
    · have hne : ¬ I (58 + 4 * s) 0 = -1 := by rw [h4]; exact sort_ne (by rcases h5 with ⟨q, -⟩ | ⟨q, -⟩ | ⟨q, -⟩ <;> rw [q] <;> decide)
      rw [v158_p hs e hne, v158_p hs e hne, run1 h2 hn, run1 h2 hn, v272_eq hs h3, v272_eq hs h3, e', if_pos d10, cl (show s < 2 ^ 31 by omega), h1, if_pos d10]
      by_cases c : J 112 s = 1
      · have hc : (1 : Int32) = 3 ∨ 1 = I (58 + 4 * s) 0 := Or.inr (by rw [h4, c])
        have h6 : ∀ i, i < n → I (58 + 4 * s + 2) i = J 114 (40 * s + i) := by
          rcases h5 with ⟨q, -⟩ | ⟨q, r⟩ | ⟨q, -⟩
          · rw [c] at q; exact absurd q (by decide)
          · exact fun i hi => (r i hi).1
          · rw [c] at q; exact absurd q (by decide)
        have ev : ∀ i, i < n → v_45 I F (58 + 4 * s) (nI i) = J 114 (40 * nI s + nI i).toNatClampNeg := fun i hi => by
          unfold v_45
          rw [h4, c, if_neg (by decide), if_pos rfl, cl (show i < 2 ^ 31 by omega), h6 i hi, (in160 hs (show i < 40 by omega)).2]
        rw [if_pos hc, if_pos hc, if_pos c]
        rcases vnum (nv := n) hn x2 with ⟨e2, i, hi, rfl⟩ | e2
        · rw [e2, if_neg d10, if_neg d00, if_neg d10]
          rcases vnum (nv := n) hn x3 with ⟨e3, j, hj, rfl⟩ | e3
          · rw [e3, if_neg d10, if_pos d10]
            have g1 := (tell_eq hs hi hn h4 h5).1
            have g2 := (tell_eq hs hj hn h4 h5).1
            have i1 := (in160 hs (show i < 40 by omega)).1
            have i2 := (in160 hs (show j < 40 by omega)).1
            simp only [bx]
            rw [if_pos trivial, ev i hi, ev j hj]
            exact ⟨⟨fun _ => hs4, fun _ _ => hs4, fun _ => ⟨hs4, g2, fun q => ⟨hs4, g1, q⟩⟩⟩, fun _ => ⟨hs4, fun _ => ⟨hs4, fun _ => ⟨hs4, fun _ => ⟨hs4, fun _ => ⟨i2, fun q => ⟨i1, q⟩⟩⟩⟩⟩⟩, rfl⟩
          · rw [e3, if_pos rfl, if_neg d00]
            simp only [bx]
            rw [if_neg (by decide)]
            exact ⟨⟨fun _ => hs4, fun _ _ => hs4, fun q => absurd q (by decide)⟩, fun _ => ⟨hs4, fun _ => ⟨hs4, fun _ => ⟨hs4, fun _ => ⟨hs4, fun q => absurd (by decide) q⟩⟩⟩⟩, rfl⟩
        · rw [e2, if_pos rfl, if_pos (by decide), if_pos rfl]
          simp only [bx]
          rw [if_neg (by decide)]
          exact ⟨⟨fun _ => hs4, fun q => absurd (by decide) q, fun q => absurd q (by decide)⟩, fun _ => ⟨hs4, fun _ => ⟨hs4, fun _ => ⟨hs4, fun q => absurd (by decide) q⟩⟩⟩, rfl⟩
      · have hc : ¬ ((1 : Int32) = 3 ∨ 1 = I (58 + 4 * s) 0) := by
          rw [h4]
          rintro (q | q)
          · exact absurd q (by decide)
          · exact c q.symm
        rw [if_neg hc, if_neg hc, if_neg c, if_pos (by decide)]
        simp only [bx]
        rw [if_neg (by decide)]
        exact ⟨⟨fun _ => hs4, fun q => absurd (by decide) q, fun q => absurd q (by decide)⟩, fun _ => ⟨hs4, fun _ => ⟨hs4, fun q => absurd q c⟩⟩, rfl⟩
  · rw [v158_n e, v158_n e, e, e', if_pos (by decide), if_neg d00]
    simp only [bx]
    rw [if_neg (by decide)]
    exact ⟨⟨fun q => absurd (by decide) q, fun q => absurd (by decide) q, fun q => absurd q (by decide)⟩, fun q => absurd (by decide) q, rfl⟩
end
