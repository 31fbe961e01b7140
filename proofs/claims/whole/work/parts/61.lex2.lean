section
variable {I J : WI} {L : WL} {n r st e : Nat} {T : Nat → Int32}
theorem up_idL (f : WL) (c k : Nat) : up2 f c k (f c k) = f := by
  funext a b
  unfold up2
  split
  · rename_i h
    rw [h.1, h.2]
  · rfl
theorem up_upL {f : WL} {c k : Nat} {v w : Int64} : up2 (up2 f c k v) c k w = up2 f c k w := by
  funext a b
  unfold up2
  split
  · rfl
  · rfl
theorem l10 {v b : Int32} (hv : bt 0 999 v) (hb : dig b) : 10 * Int32.toInt64 v + Int32.toInt64 b - 48 = Int32.toInt64 (10 * v + b - 48) := by
  obtain ⟨v1, v2⟩ := hv
  obtain ⟨b1, b2⟩ := hb
  have t : (10 : Int32).toInt = 10 ∧ (48 : Int32).toInt = 48 ∧ (10 : Int64).toInt = 10 ∧ (48 : Int64).toInt = 48 := by decide
  have m : (10 * v).toInt = 10 * v.toInt := by rw [ti_mul (by rw [t.1]; omega) (by rw [t.1]; omega), t.1]
  have a : (10 * v + b).toInt = 10 * v.toInt + b.toInt := by rw [ti_add (by rw [m]; omega) (by rw [m]; omega), m]
  have s : (10 * v + b - 48).toInt = 10 * v.toInt + b.toInt - 48 := by rw [ti_sub (by rw [a, t.2.1]; omega) (by rw [a, t.2.1]; omega), a, t.2.1]
  have m' : (10 * Int32.toInt64 v).toInt = 10 * v.toInt := by
    rw [Int64.toInt_mul, Int32.toInt_toInt64, t.2.2.1]
    exact Int.bmod_eq_of_le (by omega) (by omega)
  have a' : (10 * Int32.toInt64 v + Int32.toInt64 b).toInt = 10 * v.toInt + b.toInt := by
    rw [Int64.toInt_add, m', Int32.toInt_toInt64]
    exact Int.bmod_eq_of_le (by omega) (by omega)
  refine Int64.toInt_inj.mp ?_
  rw [Int32.toInt_toInt64, s, Int64.toInt_sub, a', t.2.2.2]
  exact Int.bmod_eq_of_le (by omega) (by omega)
theorem cD_dig {p : Nat} (h : cD n T p = true) : p < n ∧ dig (T p) := by
  have h := of_decide_eq_true h
  by_cases c : p < n
  · have hb : BY n T p = T p := if_pos c
    rw [hb] at h
    rcases v107_cases (T p) 48 57 with ⟨-, h1, h2⟩ | ⟨q, -⟩
    · have t : (48 : Int32).toInt = 48 ∧ (57 : Int32).toInt = 57 := by decide
      exact ⟨c, by unfold dig; omega⟩
    · exact absurd q h
  · rw [BY_n (by omega)] at h
    exact absurd (by decide) h
theorem cW_let {p : Nat} (h : cW n T p = true) : p < n ∧ 97 ≤ (T p).toInt ∧ (T p).toInt ≤ 122 := by
  have h := of_decide_eq_true h
  by_cases c : p < n
  · have hb : BY n T p = T p := if_pos c
    rw [hb] at h
    rcases v107_cases (T p) 97 122 with ⟨-, h1, h2⟩ | ⟨q, -⟩
    · have t : (97 : Int32).toInt = 97 ∧ (122 : Int32).toInt = 122 := by decide
      exact ⟨c, by omega, by omega⟩
    · exact absurd q h
  · rw [BY_n (by omega)] at h
    exact absurd (by decide) h
theorem numR : ∀ d k f (J : WI) (L : WL), st + k + d = n → d < f → bR J r n T → J 74 27 = nI (st + k) → L 74 30 = Int32.toInt64 (nv T st k) → (∀ j, j < k → dig (T (st + j))) →
    ∃ e, lp_194_160 f (nI k) J L = (nI e, up2 J 74 27 (nI (st + e)), up2 L 74 30 (Int32.toInt64 (nv T st e))) ∧ st + e = scan (cD n T) d (st + k) ∧ gl_194_160 f (nI k) J L ∧ ∀ j, j < e → dig (T (st + j)) := by
  intro d
  induction d with
  | zero =>
    intro k f J L hp hf h h3 h5 hd
    have h160 := h.2.1
    obtain ⟨f, rfl⟩ : ∃ g, f = g + 1 := ⟨f - 1, by omega⟩
    have hb := v195 h (p := st + k) (by omega)
    rw [BY_n (by omega)] at hb
    rw [lp_194_160, gl_194_160, h3, hb.1, l97.2.2.1, l97.2.2.2, v170_107, if_pos (by decide)]
    refine ⟨k, ?_, rfl, ⟨hb.2, fun q => absurd (by decide) q⟩, hd⟩
    rw [← h3, up_id, ← h5, up_idL]
  | succ d ih =>
    intro k f J L hp hf h h3 h5 hd
    have h160 := h.2.1
    obtain ⟨f, rfl⟩ : ∃ g, f = g + 1 := ⟨f - 1, by omega⟩
    have hb := v195 h (p := st + k) (by omega)
    have e : scan (cD n T) (d + 1) (st + k) = if cD n T (st + k) = true then scan (cD n T) d (st + k + 1) else st + k := rfl
    have hv : v_107 (BY n T (st + k)) 48 57 = 0 ↔ ¬ cD n T (st + k) = true := by
      unfold cD
      rw [decide_eq_true_iff]
      exact Classical.not_not.symm
    have hby : BY n T (st + k) = T (st + k) := if_pos (by omega)
    rw [lp_194_160, gl_194_160, h3, hb.1, nI_1, nI_1]
    rw [l97.2.2.1, l97.2.2.2, v170_107]
    simp only [bx]
    by_cases z : cD n T (st + k) = true
    · have hdk := (cD_dig z).2
      have hd2 : ∀ j, j < k + 1 → dig (T (st + j)) := fun j hj => by
        by_cases y : j = k
        · subst y; exact hdk
        · exact hd j (by omega)
      have hval : (if (4 : Int32) ≤ nI k then L 74 30 else 10 * L 74 30 + Int32.toInt64 (BY n T (st + k)) - Int32.toInt64 48) = Int32.toInt64 (nv T st (k + 1)) := by
        have k4 : (4 : Int32) ≤ nI k ↔ 4 ≤ k := nI_leI (a := 4) (by omega) (by omega)
        have e2 : nv T st (k + 1) = if 4 ≤ k then nv T st k else 10 * nv T st k + T (st + k) - 48 := rfl
        rw [h5, hby, ← l97.2.2.1, e2]
        by_cases c : 4 ≤ k
        · rw [if_pos (k4.mpr c), if_pos c]
        · rw [if_neg (fun q => c (k4.mp q)), if_neg c]
          have := nv_bt k hd
          refine l10 ?_ hdk
          rcases (show k = 0 ∨ k = 1 ∨ k = 2 ∨ k = 3 by omega) with q | q | q | q
          · exact bt_w (this.2.2.2.2 q) (by omega) (by omega)
          · exact bt_w (this.2.1 q) (by omega) (by omega)
          · exact bt_w (this.2.2.1 q) (by omega) (by omega)
          · exact this.2.2.2.1 q
      rw [hval]
      have hs : bR (up2 J 74 27 (nI (st + k + 1))) r n T := bR_cg h (fun c k hh => up2_nk (by omega))
      obtain ⟨e', j1, j2, j3, j4⟩ := ih (k + 1) f (up2 J 74 27 (nI (st + k + 1))) (up2 L 74 30 (Int32.toInt64 (nv T st (k + 1)))) (by omega) (by omega) hs (by simp [up2, Nat.add_assoc]) (by simp [up2]) hd2
      rw [if_neg (fun q => hv.mp q z), e, if_pos z, j1, up_up, up_upL]
      exact ⟨e', rfl, j2, ⟨hb.2, fun _ => ⟨fun _ => hb.2, j3⟩⟩, j4⟩
    · rw [if_pos (hv.mpr z), e, if_neg z]
      refine ⟨k, ?_, rfl, ⟨hb.2, fun q => absurd (hv.mpr z) q⟩, hd⟩
      rw [← h3, up_id, ← h5, up_idL]
/-! words matched -/
def Wm (T : Nat → Int32) (st e : Nat) (l : List Int32) : Prop := e = st + l.length ∧ ∀ k, k < l.length → T (st + k) = l.getD k 0
theorem Wm_un {l m : List Int32} (h1 : Wm T st e l) (h2 : Wm T st e m) : l = m := by
  obtain ⟨a1, a2⟩ := h1
  obtain ⟨b1, b2⟩ := h2
  refine List.ext_getElem (by omega) fun k k1 k2 => ?_
  have x := a2 k k1
  have y := b2 k k2
  rw [List.getD_eq_getElem?_getD, List.getElem?_eq_getElem k1] at x
  rw [List.getD_eq_getElem?_getD, List.getElem?_eq_getElem k2] at y
  exact x.symm.trans y
theorem sLB : ∀ i, i < 11 → sLen.getD i 0 = (sByt.getD i []).length ∧ (sByt.getD i []).length ≤ 6 ∧ 0 < (sByt.getD i []).length := by decide
/-- isSpelt -/
theorem v91_eq (h : bC I n T) (h2 : I 31 2 = nI st) (h3 : I 31 3 = nI e) (hs : st < e) (he : e ≤ n) {i : Nat} (hi : i < 11) : (v_91 I (1000001 + i) = 1 ∧ Wm T st e (sByt.getD i [])) ∨ (v_91 I (1000001 + i) = 0 ∧ ¬ Wm T st e (sByt.getD i [])) := by
  have h160 := h.1
  have hl := sLB i hi
  have hsub : nI e - nI st = nI (e - st) := by
    refine Int32.toInt_inj.mp ?_
    rw [ti_sub (by rw [nI_toInt (by omega), nI_toInt (by omega)]; omega) (by rw [nI_toInt (by omega), nI_toInt (by omega)]; omega), nI_toInt (by omega), nI_toInt (by omega), nI_toInt (by omega)]
    omega
  have key : (I 31 3 - I 31 2 = nI (sLen.getD (1000001 + i - 1000001) 0) ∧ ((List.range (sLen.getD (1000001 + i - 1000001) 0)).all fun k => (I 31 2 + nI k) < 160 ∧ I 32 (I 31 2 + nI k).toNatClampNeg = (sByt.getD (1000001 + i - 1000001) []).getD k 0) = true) ↔ Wm T st e (sByt.getD i []) := by
    rw [show 1000001 + i - 1000001 = i by omega, h2, h3, hsub, hl.1, nI_eq (by omega) (by omega), List.all_eq_true]
    unfold Wm
    constructor
    · rintro ⟨a1, a2⟩
      refine ⟨by omega, fun k hk => ?_⟩
      have := of_decide_eq_true (a2 k (List.mem_range.mpr hk))
      rw [nI_add, cl (show st + k < 2 ^ 31 by omega), (h.2.2 (st + k) (by omega)).1] at this
      exact this.2
    · rintro ⟨a1, a2⟩
      refine ⟨by omega, fun k hk => ?_⟩
      have hk := List.mem_range.mp hk
      refine decide_eq_true ?_
      rw [nI_add, cl (show st + k < 2 ^ 31 by omega), (h.2.2 (st + k) (by omega)).1]
      exact ⟨by rw [show (160 : Int32) = nI 160 from rfl, nI_ltI (by omega) (by omega)]; omega, a2 k hk⟩
  unfold v_91
  by_cases c : Wm T st e (sByt.getD i [])
  · exact Or.inl ⟨if_pos (key.mpr c), c⟩
  · exact Or.inr ⟨if_neg (fun q => c (key.mp q)), c⟩
theorem g91 (h : I 31 2 = nI st) (hs : st ≤ 160) : g_91 I := by
  unfold g_91
  rw [h, show (160 : Int32) = nI 160 from rfl]
  exact ⟨nneg (by omega), nI_le hs (by omega)⟩
/-- isLetter -/
theorem v197 (h : bR J r n T) (h29 : J 74 29 = nI st) (h27 : J 74 27 = nI e) (hs : st < e) (he : e ≤ n) {i : Nat} (hi : i < 8) (a : Int32) : g_197 J (nI i) ∧ (v_197 J (nI i) a = 0 ↔ ¬ (if st + i < e then T (st + i) = a else a = 0)) := by
  have h160 := h.2.1
  unfold g_197 v_197
  have k1 : nI e ≤ nI (st + i) ↔ e ≤ st + i := nI_leI (by omega) (by omega)
  rw [h29, h27, nI_add]
  by_cases c : st + i < e
  · have hb := v195 h (p := st + i) (by omega)
    rw [if_neg (fun q => by have := k1.mp q; omega), if_pos c, hb.1, show BY n T (st + i) = T (st + i) from if_pos (by omega)]
    refine ⟨fun _ => hb.2, ?_⟩
    by_cases y : T (st + i) = a
    · rw [if_neg (fun q => q y)]; exact ⟨fun q => absurd q d10, fun q => absurd y q⟩
    · rw [if_pos y]; exact ⟨fun _ => y, fun _ => rfl⟩
  · rw [if_pos (k1.mpr (by omega)), if_neg c]
    refine ⟨fun q => absurd (k1.mpr (by omega)) q, ?_⟩
    by_cases y : a = 0
    · rw [if_neg (fun q => q y)]; exact ⟨fun q => absurd q d10, fun q => absurd y q⟩
    · rw [if_pos y]; exact ⟨fun _ => y, fun _ => rfl⟩
/-- isWord: at a word, no fault so far -/
theorem v196 (h : bR J r n T) (hb : J 74 32 = 0) (hk : J 74 28 = 1) (h29 : J 74 29 = nI st) (h27 : J 74 27 = nI e) (hs : st < e) (he : e ≤ n) (hl : ∀ q, st ≤ q → q < e → ¬ T q = 0) {l : List Int32} (hlen : l.length ≤ 7) (hnz : ∀ k, k < l.length → ¬ l.getD k 0 = 0) :
    ¬ v_196 J (l.getD 0 0) (l.getD 1 0) (l.getD 2 0) (l.getD 3 0) (l.getD 4 0) (l.getD 5 0) (l.getD 6 0) (l.getD 7 0) = 0 ↔ Wm T st e l := by
  have h160 := h.2.1
  have q := fun (i : Nat) (hi : i < 8) => (v197 h h29 h27 hs he hi (l.getD i 0)).2
  unfold v_196
  rw [hb, if_neg d00, hk, if_neg (fun z => z rfl), h29, h27, show (nI st + 8 : Int32) = nI (st + 8) from nI_add st 8]
  have k8 : nI (st + 8) < nI e ↔ st + 8 < e := nI_ltI (by omega) (by omega)
  have all : (e ≤ st + 8 ∧ ∀ i, i < 8 → (if st + i < e then T (st + i) = l.getD i 0 else l.getD i 0 = 0)) ↔ Wm T st e l := by
    constructor
    · rintro ⟨a1, a2⟩
      have hle : st + l.length ≤ e := by
        refine Nat.le_of_not_lt fun c => ?_
        have := a2 (e - st) (by omega)
        rw [if_neg (by omega)] at this
        exact hnz (e - st) (by omega) this
      have hge : e ≤ st + l.length := by
        refine Nat.le_of_not_lt fun c => ?_
        have := a2 l.length (by omega)
        rw [if_pos (by omega), List.getD_eq_getElem?_getD, List.getElem?_eq_none (Nat.le_refl _)] at this
        exact hl (st + l.length) (by omega) c this
      refine ⟨by omega, fun k hk => ?_⟩
      have := a2 k (by omega)
      rw [if_pos (by omega)] at this
      exact this
    · rintro ⟨a1, a2⟩
      refine ⟨by omega, fun i hi => ?_⟩
      by_cases c : st + i < e
      · rw [if_pos c]; exact a2 i (by omega)
      · rw [if_neg c, List.getD_eq_getElem?_getD, List.getElem?_eq_none (by omega)]; rfl
  rw [← all]
  by_cases c : st + 8 < e
  · rw [if_pos (k8.mpr c)]
    exact ⟨fun z => absurd rfl z, fun z => by omega⟩
  · rw [if_neg (fun z => c (k8.mp z))]
    have q0 := q 0 (by omega)
    have q1 := q 1 (by omega)
    have q2 := q 2 (by omega)
    have q3 := q 3 (by omega)
    have q4 := q 4 (by omega)
    have q5 := q 5 (by omega)
    have q6 := q 6 (by omega)
    have q7 := q 7 (by omega)
    have n0 : ∀ i, i < 8 → v_197 J (nI i) (l.getD i 0) = 0 → ¬ (e ≤ st + 8 ∧ ∀ i, i < 8 → (if st + i < e then T (st + i) = l.getD i 0 else l.getD i 0 = 0)) := fun i hi z y => (q i hi).mp z (y.2 i hi)
    by_cases z0 : v_197 J 0 (l.getD 0 0) = 0
    · rw [if_pos z0]; exact ⟨fun z => absurd rfl z, fun z => absurd z (n0 0 (by omega) z0)⟩
    rw [if_neg z0]
    by_cases z1 : v_197 J 1 (l.getD 1 0) = 0
    · rw [if_pos z1]; exact ⟨fun z => absurd rfl z, fun z => absurd z (n0 1 (by omega) z1)⟩
    rw [if_neg z1]
    by_cases z2 : v_197 J 2 (l.getD 2 0) = 0
    · rw [if_pos z2]; exact ⟨fun z => absurd rfl z, fun z => absurd z (n0 2 (by omega) z2)⟩
    rw [if_neg z2]
    by_cases z3 : v_197 J 3 (l.getD 3 0) = 0
    · rw [if_pos z3]; exact ⟨fun z => absurd rfl z, fun z => absurd z (n0 3 (by omega) z3)⟩
    rw [if_neg z3]
    by_cases z4 : v_197 J 4 (l.getD 4 0) = 0
    · rw [if_pos z4]; exact ⟨fun z => absurd rfl z, fun z => absurd z (n0 4 (by omega) z4)⟩
    rw [if_neg z4]
    by_cases z5 : v_197 J 5 (l.getD 5 0) = 0
    · rw [if_pos z5]; exact ⟨fun z => absurd rfl z, fun z => absurd z (n0 5 (by omega) z5)⟩
    rw [if_neg z5]
    by_cases z6 : v_197 J 6 (l.getD 6 0) = 0
    · rw [if_pos z6]; exact ⟨fun z => absurd rfl z, fun z => absurd z (n0 6 (by omega) z6)⟩
    rw [if_neg z6]
    by_cases z7 : v_197 J 7 (l.getD 7 0) = 0
    · rw [if_pos z7]; exact ⟨fun z => absurd rfl z, fun z => absurd z (n0 7 (by omega) z7)⟩
    rw [if_neg z7]
    refine ⟨fun _ => ⟨by omega, fun i hi => ?_⟩, fun _ => d10⟩
    match i, hi with
    | 0, _ => exact Classical.not_not.mp (fun y => z0 (q0.mpr y))
    | 1, _ => exact Classical.not_not.mp (fun y => z1 (q1.mpr y))
    | 2, _ => exact Classical.not_not.mp (fun y => z2 (q2.mpr y))
    | 3, _ => exact Classical.not_not.mp (fun y => z3 (q3.mpr y))
    | 4, _ => exact Classical.not_not.mp (fun y => z4 (q4.mpr y))
    | 5, _ => exact Classical.not_not.mp (fun y => z5 (q5.mpr y))
    | 6, _ => exact Classical.not_not.mp (fun y => z6 (q6.mpr y))
    | 7, _ => exact Classical.not_not.mp (fun y => z7 (q7.mpr y))
theorem g196 (h : bR J r n T) (h29 : J 74 29 = nI st) (h27 : J 74 28 = 1 → J 74 27 = nI e ∧ st < e ∧ e ≤ n) (a0 a1 a2 a3 a4 a5 a6 : Int32) : g_196 J a0 a1 a2 a3 a4 a5 a6 := by
  unfold g_196
  intro _ hk _
  obtain ⟨h1, h2, h3⟩ := h27 (Classical.not_not.mp hk)
  have g := fun (i : Nat) (hi : i < 8) => (v197 h h29 h1 h2 h3 hi 0).1
  exact ⟨g 0 (by omega), fun _ => ⟨g 1 (by omega), fun _ => ⟨g 2 (by omega), fun _ => ⟨g 3 (by omega), fun _ => ⟨g 4 (by omega), fun _ => ⟨g 5 (by omega), fun _ => ⟨g 6 (by omega), fun _ => g 7 (by omega)⟩⟩⟩⟩⟩⟩⟩
end
