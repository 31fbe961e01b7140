section
variable {en : Int32 → Int32} {n r t o : Nat} {T : Nat → Int32} {rc : RECTC} {okc : OKRTC} {rr : RECTR} {okr : OKRTR}
theorem bxd {α β : Type} (a : α) (f : α → β) : bx a f = f a := rfl
theorem NF_open {st s o' : Nat} {I J : WI} {L : WL} (h : NF en n r T t o st s I J L) {x : Int32} (hx : x = nI o') : NF en n r T t o' st s I (up2 J 74 31 x) L := by
  obtain ⟨h1, h2, h3, h4, h5, h6, h7, h8⟩ := h
  refine ⟨h1, bR_cg h2 (fun c k hh => up2_nk (by omega)), ?_, h4, (up2_nk (by omega)).trans h5, by rw [hx]; simp [up2], h7, enOK_cg h8 (fun k k1 k2 => up2_nk (by omega))⟩
  unfold Tk at h3 ⊢
  have e27 : up2 J 74 31 x 74 27 = J 74 27 := up2_nk (by omega)
  have e28 : up2 J 74 31 x 74 28 = J 74 28 := up2_nk (by omega)
  have e29 : up2 J 74 31 x 74 29 = J 74 29 := up2_nk (by omega)
  rw [e27, e28, e29]
  exact h3
theorem FTs_open {I J : WI} (h : FTs t I J) (x : Int32) : FTs t I (up2 J 74 31 x) := by
  obtain ⟨f, s, h1, h2, h3, h4, h5, h6, h7⟩ := h
  exact ⟨f, s, h1, h2, by rw [up2_nk (by omega)]; exact h3, by rw [up2_nk (by omega)]; exact h4, h5, h6, h7⟩
theorem AcS_open {I0 I J : WI} {L : WL} {s0 st0 st o' : Nat} {v x : Int32} (h : AcS en n r T t o I0 s0 st0 st I J L v) (hx : x = nI o') : AcS en n r T t o' I0 s0 st0 st I (up2 J 74 31 x) L v := by
  obtain ⟨s, cs, b1, b2⟩ := h
  exact ⟨s, cs, NF_open b1 hx, b2⟩
theorem AcS_un {I0 I1 I2 J2 : WI} {L2 : WL} {s st st1 st2 : Nat} {w u op : Int32} (ht : 45 ≤ t ∧ t ≤ 55) (hs : s ≤ st) (a3 : ∀ k, k < s → I1 (t + 1) k = I0 (t + 1) k) (hst : st < st1) (h : AcS en n r T t o I1 s st1 st2 I2 J2 L2 w) (hst2 : st1 < st2) (hop : ∀ R, stp1 en op (w :: R) = u :: R) :
    g_81 I2 t ∧ AcS en n r T t o I0 s st st2 (v_81 I2 t op) J2 L2 u := by
  obtain ⟨s2, cs2, b1, b2, b3, b4, b5, b6⟩ := h
  have hn := b1.2.2.1.1
  have h160 := b1.1.1
  obtain ⟨c1, c2, c3, c4⟩ := addS ht b1 (show s2 < 160 by omega) op
  refine ⟨c1, s2 + 1, cs2 ++ [op], c2, by omega, ?_, fun k hk => ?_, fun k hk => ?_, fun R => ?_⟩
  · rw [List.length_append]; show s2 + 1 = s + (cs2.length + 1); omega
  · rw [c3, if_neg (by omega), b4 k hk]; exact a3 k hk
  · rw [List.length_append] at hk
    have hk : k < cs2.length + 1 := hk
    rw [c3, getD_app]
    by_cases y : k < cs2.length
    · rw [if_neg (by omega), if_pos y]; exact b5 k y
    · rw [if_pos (by omega), if_neg y, show k - cs2.length = 0 by omega]; rfl
  · rw [runL_app, b6]
    exact hop R
/-- one step for what stands for itself, then onwards -/
theorem leaf {st s : Nat} {I J : WI} {L : WL} (ht : 45 ≤ t ∧ t ≤ 55) (h : NF en n r T t o st s I J L) (hs : s ≤ st) (hn : nxt n st I J) {x v : Int32} (hx : ∀ R, stp1 en x R = v :: R) :
    g_81 I t ∧ g_85 (v_81 I t x) ∧ g_194 J L ∧ Ac en n r T t o I s st (v_85 (v_81 I t x)) (v_194 J L).1 (v_194 J L).2 v := by
  obtain ⟨e, e1, e2, e3, e4⟩ := hn
  have h160 := h.1.1
  obtain ⟨c1, c2, c3, c4⟩ := addS ht h (show s < 160 by omega) x
  obtain ⟨g1, g2, st', s1, s2, s3⟩ := adv ht c2 ⟨e, e1, e2, (c4 3).trans e3, e4⟩
  refine ⟨c1, g1, g2, st', s1, s + 1, [x], s2, by omega, rfl, fun k hk => ?_, fun k hk => ?_, fun R => hx R⟩
  · rw [s3, c3, if_neg (by omega)]
  · have hk : k < 1 := hk
    rw [s3, c3, if_pos (by omega), show k = 0 by omega]; rfl
def RecS (en : Int32 → Int32) (n r : Nat) (T : Nat → Int32) (t o : Nat) (rc : RECTC) (okc : OKRTC) (rr : RECTR) (okr : OKRTR) : Prop :=
  Sim en n r T t o (fun I => rc 97 I t (nI o)) (fun I => okc 97 I t (nI o)) (rr 200) (okr 200) ∧ Sim en n r T t o (fun I => rc 99 I t (nI o)) (fun I => okc 99 I t (nI o)) (rr 202) (okr 202) ∧ Sim en n r T t o (fun I => rc 103 I t (nI o)) (fun I => okc 103 I t (nI o)) (rr 206) (okr 206)
theorem s45 : sgn8 45 := Or.inr (Or.inr (Or.inr (Or.inr (Or.inl rfl))))
theorem s40 : sgn8 40 := Or.inl rfl
theorem s41 : sgn8 41 := Or.inr (Or.inl rfl)
theorem s42 : sgn8 42 := Or.inr (Or.inr (Or.inr (Or.inr (Or.inr (Or.inl rfl)))))
theorem s43 : sgn8 43 := Or.inr (Or.inr (Or.inr (Or.inl rfl)))
theorem s59 : sgn8 59 := Or.inr (Or.inr (Or.inl rfl))
theorem s60 : sgn8 60 := Or.inr (Or.inr (Or.inr (Or.inr (Or.inr (Or.inr (Or.inl rfl))))))
theorem s61 : sgn8 61 := Or.inr (Or.inr (Or.inr (Or.inr (Or.inr (Or.inr (Or.inr rfl))))))
theorem v207_F {J : WI} (h : ¬ J 74 32 = 0) (L : WL) (c : Int32) : v_207 J L c = 0 := by
  unfold v_207
  rw [if_pos h]
theorem stp1_num {x : Int32} (h : 0 ≤ x.toInt) (R : List Int32) : stp1 en x R = x :: R := by
  have t0 : (0 : Int32).toInt = 0 := by decide
  unfold stp1
  rw [if_neg (by rw [Int32.lt_iff_toInt_lt, t0]; omega)]
theorem stp1_nam {x : Int32} (h : -6 ≤ x.toInt) (h2 : x.toInt < 0) (R : List Int32) : stp1 en x R = en x :: R := by
  have t0 : (0 : Int32).toInt = 0 ∧ (-6 : Int32).toInt = -6 := by decide
  unfold stp1
  rw [if_pos (by rw [Int32.lt_iff_toInt_lt, t0.1]; omega), if_neg (by rw [Int32.lt_iff_toInt_lt, t0.2]; omega)]
theorem s_num (ht : 45 ≤ t ∧ t ≤ 55) (ho : o ≤ 5) {I J : WI} {L : WL} {st s : Nat} (h : NF en n r T t o st s I J L) (hs : s ≤ st) (k1 : I 31 4 = 258) (k2 : J 74 28 = 2) (k3 : 0 ≤ (I 31 5).toInt) (k4 : Int64.toInt32 (L 74 30) = I 31 5) (k6 : nxt n st I J) : g_103 rc okc I t (nI o) ∧ g_206 rr okr J L ∧ Rs en n r T t o I s st (v_103 rc I t (nI o)) (v_206 rr J L) := by
  have hb := h.2.2.2.2.1
  have hb2 : ¬ ¬ J 74 32 = 0 := fun q => q hb
  have h31 := h.2.2.2.2.2.1
  have h160 := h.1.1
  have hstn := h.2.2.1.1
  have k5 : (5 : Int32) ≤ nI o ↔ 5 ≤ o := nI_leI (a := 5) (by omega) (by omega)
  have z45 : v_207 J L 45 = 0 := by
    rcases sgnT h s45 with ⟨q, -⟩ | ⟨-, q⟩
    · rw [k1] at q; exact absurd q (by decide)
    · exact q
  have z40 : v_207 J L 40 = 0 := by
    rcases sgnT h s40 with ⟨q, -⟩ | ⟨-, q⟩
    · rw [k1] at q; exact absurd q (by decide)
    · exact q
  obtain ⟨l1, l2, l3, l4⟩ := leaf ht h hs k6 (x := I 31 5) (v := I 31 5) (stp1_num k3)
  have ec : v_103 rc I t (nI o) = v_85 (v_81 I t (I 31 5)) := by
    unfold v_103
    rw [if_pos k1, bxd, bxd]
  have er : v_206 rr J L = (I 31 5, (v_194 J L).1, (v_194 J L).2) := by
    unfold v_206
    rw [if_pos z45, if_pos z40, if_neg hb2, if_neg (fun q => q k2), k4, bxd]
  refine ⟨?_, ?_, Or.inr ?_⟩
  · unfold g_103
    exact ⟨fun _ => ⟨l1, l2⟩, fun q => absurd k1 q⟩
  · unfold g_206
    exact ⟨fun _ => ⟨fun _ => ⟨fun q => absurd hb q, fun _ => ⟨fun q => absurd k2 q, fun _ => l3⟩⟩, fun q => absurd z40 q⟩, fun q => absurd z45 q⟩
  · rw [ec, er]; exact l4
theorem s_nam (ht : 45 ≤ t ∧ t ≤ 55) (ho : o ≤ 5) {I J : WI} {L : WL} {st s : Nat} (h : NF en n r T t o st s I J L) (hs : s ≤ st) (k1 : ¬ I 31 4 = 258) (k2 : ¬ J 74 28 = 2) (n1 : I 31 4 = 259) (n2 : J 74 28 = 1) (n3 : -6 ≤ (I 31 5).toInt) (n4 : (I 31 5).toInt < 0) (n5 : v_208 J = (en (I 31 5), J)) (n6 : nxt n st I J) : g_103 rc okc I t (nI o) ∧ g_206 rr okr J L ∧ Rs en n r T t o I s st (v_103 rc I t (nI o)) (v_206 rr J L) := by
  have hb := h.2.2.2.2.1
  have hb2 : ¬ ¬ J 74 32 = 0 := fun q => q hb
  have h31 := h.2.2.2.2.2.1
  have h160 := h.1.1
  have hstn := h.2.2.1.1
  have k5 : (5 : Int32) ≤ nI o ↔ 5 ≤ o := nI_leI (a := 5) (by omega) (by omega)
  have z45 : v_207 J L 45 = 0 := by
    rcases sgnT h s45 with ⟨q, -⟩ | ⟨-, q⟩
    · rw [n1] at q; exact absurd q (by decide)
    · exact q
  have z40 : v_207 J L 40 = 0 := by
    rcases sgnT h s40 with ⟨q, -⟩ | ⟨-, q⟩
    · rw [n1] at q; exact absurd q (by decide)
    · exact q
  obtain ⟨l1, l2, l3, l4⟩ := leaf ht h hs n6 (x := I 31 5) (v := en (I 31 5)) (stp1_nam n3 n4)
  have ec : v_103 rc I t (nI o) = v_85 (v_81 I t (I 31 5)) := by
    unfold v_103
    rw [if_neg k1, if_neg (fun q => q n1), bxd, bxd]
  have er : v_206 rr J L = (en (I 31 5), (v_194 J L).1, (v_194 J L).2) := by
    unfold v_206
    rw [if_pos z45, if_pos z40, if_neg hb2, if_pos k2, if_neg hb2, if_neg (fun q => q n2), n5, bxd, if_neg hb2, bxd]
  refine ⟨?_, ?_, Or.inr ?_⟩
  · unfold g_103
    exact ⟨fun q => absurd q k1, fun _ => ⟨fun q => absurd n1 q, fun _ => ⟨l1, l2⟩⟩⟩
  · unfold g_206
    rw [n5]
    exact ⟨fun _ => ⟨fun _ => ⟨fun q => absurd hb q, fun _ => ⟨fun _ _ _ => ⟨g208 h, fun _ => l3⟩, fun q => absurd q (fun w => w k2)⟩⟩, fun q => absurd z40 q⟩, fun q => absurd z45 q⟩
  · rw [ec, er]; exact l4
theorem s_min (ht : 45 ≤ t ∧ t ≤ 55) (ho : o ≤ 5) {I J : WI} {L : WL} {st s : Nat} (h : NF en n r T t o st s I J L) (hs : s ≤ st) (H : o < 5 → RecS en n r T t (o + 1) rc okc rr okr) (k1 : ¬ I 31 4 = 258) (k2 : ¬ J 74 28 = 2) (n1 : ¬ I 31 4 = 259) (n2 : J 74 28 = 1 → v_208 J = (0, v_199 J)) (m1 : I 31 4 = 45) (m2 : ¬ v_207 J L 45 = 0) (m4 : nxt n st I J) : g_103 rc okc I t (nI o) ∧ g_206 rr okr J L ∧ Rs en n r T t o I s st (v_103 rc I t (nI o)) (v_206 rr J L) := by
  have hb := h.2.2.2.2.1
  have hb2 : ¬ ¬ J 74 32 = 0 := fun q => q hb
  have h31 := h.2.2.2.2.2.1
  have h160 := h.1.1
  have hstn := h.2.2.1.1
  have k5 : (5 : Int32) ≤ nI o ↔ 5 ≤ o := nI_leI (a := 5) (by omega) (by omega)
  have n40 : ¬ I 31 4 = 40 := by rw [m1]; decide
  by_cases c5 : o = 5
  · have ec : v_103 rc I t (nI o) = v_96 I := by
      unfold v_103
      rw [if_neg k1, if_pos n1, if_neg (fun q => q m1), if_pos (k5.mpr (by omega)), if_pos n40]
      rfl
    have e203 : v_203 J L = (0, v_199 J, L) := by
      unfold v_203
      rw [if_neg (fun q => q (by rw [h31, c5]; rfl))]
      rfl
    have er : v_206 rr J L = (0, v_199 J, L) := by
      unfold v_206
      rw [if_neg m2, e203]
      dsimp only [bx]
      rw [if_pos rfl]
    have g203 : g_203 J L := fun q => absurd (by rw [h31, c5]; rfl) q
    refine ⟨?_, ?_, Or.inl ?_⟩
    · unfold g_103
      exact ⟨fun q => absurd q k1, fun _ => ⟨fun _ => ⟨fun q => absurd m1 q, fun _ => ⟨fun _ q => absurd n40 q, fun q => absurd (k5.mpr (by omega)) q⟩⟩, fun q => absurd n1 q⟩⟩
    · unfold g_206
      rw [e203]
      exact ⟨fun q => absurd q m2, fun _ => ⟨g203, fun q => absurd rfl q⟩⟩
    · rw [ec, er]; exact failS h ht (by omega)
  · have n5o : ¬ (5 : Int32) ≤ nI o := fun q => c5 (by have := k5.mp q; omega)
    have hO := NF_open (o' := o + 1) h (x := J 74 31 + 1) (by rw [h31, nI_1])
    have mO : nxt n st I (up2 J 74 31 (J 74 31 + 1)) := by
      obtain ⟨e, e1, e2, e3, e4⟩ := m4
      exact ⟨e, e1, e2, e3, (up2_nk (by omega)).trans e4⟩
    obtain ⟨g1, g2, st', s1, s2, s3⟩ := adv ht hO mO
    obtain ⟨r1, r2, r3⟩ := (H (by omega)).2.2 _ _ _ st' s s2 (by omega)
    have r3 : Rs en n r T t (o + 1) (v_85 I) s st' (rc 103 (v_85 I) t (nI (o + 1))) (rr 206 (v_194 (up2 J 74 31 (J 74 31 + 1)) L).1 (v_194 (up2 J 74 31 (J 74 31 + 1)) L).2) := r3
    have r1 : okc 103 (v_85 I) t (nI (o + 1)) := r1
    have ec : v_103 rc I t (nI o) = v_81 (rc 103 (v_85 I) t (nI (o + 1))) t (-7) := by
      unfold v_103
      rw [if_neg k1, if_pos n1, if_neg (fun q => q m1), if_neg n5o, nI_1]
      rfl
    have e203 : v_203 J L = (1, (v_194 (up2 J 74 31 (J 74 31 + 1)) L).1, (v_194 (up2 J 74 31 (J 74 31 + 1)) L).2) := by
      unfold v_203
      rw [if_pos (by rw [h31, show (5 : Int32) = nI 5 from rfl, nI_eq (by omega) (by omega)]; exact c5)]
      rfl
    have g203 : g_203 J L := fun _ => g2
    have er : v_206 rr J L = (-(rr 206 (v_194 (up2 J 74 31 (J 74 31 + 1)) L).1 (v_194 (up2 J 74 31 (J 74 31 + 1)) L).2).1, up2 (rr 206 (v_194 (up2 J 74 31 (J 74 31 + 1)) L).1 (v_194 (up2 J 74 31 (J 74 31 + 1)) L).2).2.1 74 31 ((rr 206 (v_194 (up2 J 74 31 (J 74 31 + 1)) L).1 (v_194 (up2 J 74 31 (J 74 31 + 1)) L).2).2.1 74 31 - 1), (rr 206 (v_194 (up2 J 74 31 (J 74 31 + 1)) L).1 (v_194 (up2 J 74 31 (J 74 31 + 1)) L).2).2.2) := by
      unfold v_206
      rw [if_neg m2, e203]
      dsimp only [bx]
      rw [if_neg d10]
    revert r3 er r2
    generalize rr 206 (v_194 (up2 J 74 31 (J 74 31 + 1)) L).1 (v_194 (up2 J 74 31 (J 74 31 + 1)) L).2 = q
    intro r2 r3 er
    have gc : g_81 (rc 103 (v_85 I) t (nI (o + 1))) t ∧ Rs en n r T t o I s st (v_103 rc I t (nI o)) (v_206 rr J L) := by
      rw [ec, er]
      rcases r3 with r3 | ⟨st'', u1, u2⟩
      · obtain ⟨w1, w2⟩ := addF ht r3 (-7)
        exact ⟨w1, Or.inl (FTs_open w2 _)⟩
      · obtain ⟨w1, w2⟩ := AcS_un (I0 := I) (u := -q.1) (op := -7) ht hs (fun k _ => s3 k) s1 u2 u1 (fun R => by
          unfold stp1 tv
          rw [if_pos (show (-7 : Int32) < 0 by decide), if_pos (show (-7 : Int32) < -6 by decide), if_neg (show ¬ (-7 : Int32) < -8 by decide)]
          dsimp only
          rw [if_neg (show ¬ ¬ (-7 : Int32) = -7 by decide)])
        obtain ⟨s2', cs2, b1, -⟩ := u2
        have hq31 := b1.2.2.2.2.2.1
        exact ⟨w1, Or.inr ⟨st'', by omega, AcS_open w2 (by rw [hq31, nI_pred])⟩⟩
    refine ⟨?_, ?_, gc.2⟩
    · unfold g_103
      rw [nI_1]
      exact ⟨fun q => absurd q k1, fun _ => ⟨fun _ => ⟨fun q => absurd m1 q, fun _ => ⟨fun q => absurd q n5o, fun _ => ⟨g1, r1, gc.1⟩⟩⟩, fun q => absurd n1 q⟩⟩
    · unfold g_206
      rw [e203]
      exact ⟨fun q => absurd q m2, fun _ => ⟨g203, fun _ => r2⟩⟩
theorem s_par (ht : 45 ≤ t ∧ t ≤ 55) (ho : o ≤ 5) {I J : WI} {L : WL} {st s : Nat} (h : NF en n r T t o st s I J L) (hs : s ≤ st) (H : o < 5 → RecS en n r T t (o + 1) rc okc rr okr) (k1 : ¬ I 31 4 = 258) (k2 : ¬ J 74 28 = 2) (n1 : ¬ I 31 4 = 259) (n2 : J 74 28 = 1 → v_208 J = (0, v_199 J)) (m1 : ¬ I 31 4 = 45) (m2 : v_207 J L 45 = 0) (p1 : I 31 4 = 40) (p2 : ¬ v_207 J L 40 = 0) (p4 : nxt n st I J) : g_103 rc okc I t (nI o) ∧ g_206 rr okr J L ∧ Rs en n r T t o I s st (v_103 rc I t (nI o)) (v_206 rr J L) := by
  have hb := h.2.2.2.2.1
  have hb2 : ¬ ¬ J 74 32 = 0 := fun q => q hb
  have h31 := h.2.2.2.2.2.1
  have h160 := h.1.1
  have hstn := h.2.2.1.1
  have k5 : (5 : Int32) ≤ nI o ↔ 5 ≤ o := nI_leI (a := 5) (by omega) (by omega)
  by_cases c5 : o = 5
  · have ec : v_103 rc I t (nI o) = v_96 I := by
      unfold v_103
      rw [if_neg k1, if_pos n1, if_pos m1, if_neg (fun q => q p1), if_pos (k5.mpr (by omega))]
      rfl
    have e203 : v_203 J L = (0, v_199 J, L) := by
      unfold v_203
      rw [if_neg (fun q => q (by rw [h31, c5]; rfl))]
      rfl
    have er : v_206 rr J L = (0, v_199 J, L) := by
      unfold v_206
      rw [if_pos m2, if_neg p2, e203]
      dsimp only [bx]
      rw [if_pos rfl]
    have g203 : g_203 J L := fun q => absurd (by rw [h31, c5]; rfl) q
    refine ⟨?_, ?_, Or.inl ?_⟩
    · unfold g_103
      exact ⟨fun q => absurd q k1, fun _ => ⟨fun _ => ⟨fun _ _ q => absurd (k5.mpr (by omega)) q, fun q => absurd m1 q⟩, fun q => absurd n1 q⟩⟩
    · unfold g_206
      rw [e203]
      exact ⟨fun _ => ⟨fun q => absurd q p2, fun _ => ⟨g203, fun q => absurd rfl q⟩⟩, fun q => absurd m2 q⟩
    · rw [ec, er]; exact failS h ht (by omega)
  · have n5o : ¬ (5 : Int32) ≤ nI o := fun q => c5 (by have := k5.mp q; omega)
    have hO := NF_open (o' := o + 1) h (x := J 74 31 + 1) (by rw [h31, nI_1])
    have mO : nxt n st I (up2 J 74 31 (J 74 31 + 1)) := by
      obtain ⟨e, e1, e2, e3, e4⟩ := p4
      exact ⟨e, e1, e2, e3, (up2_nk (by omega)).trans e4⟩
    obtain ⟨g1, g2, st', s1, s2, s3⟩ := adv ht hO mO
    obtain ⟨r1, r2, r3⟩ := (H (by omega)).1 _ _ _ st' s s2 (by omega)
    have r3 : Rs en n r T t (o + 1) (v_85 I) s st' (rc 97 (v_85 I) t (nI (o + 1))) (rr 200 (v_194 (up2 J 74 31 (J 74 31 + 1)) L).1 (v_194 (up2 J 74 31 (J 74 31 + 1)) L).2) := r3
    have r1 : okc 97 (v_85 I) t (nI (o + 1)) := r1
    have ec : v_103 rc I t (nI o) = v_95 (rc 97 (v_85 I) t (nI (o + 1))) 41 := by
      unfold v_103
      rw [if_neg k1, if_pos n1, if_pos m1, if_neg (fun q => q p1), if_neg n5o, nI_1]
      rfl
    have e203 : v_203 J L = (1, (v_194 (up2 J 74 31 (J 74 31 + 1)) L).1, (v_194 (up2 J 74 31 (J 74 31 + 1)) L).2) := by
      unfold v_203
      rw [if_pos (by rw [h31, show (5 : Int32) = nI 5 from rfl, nI_eq (by omega) (by omega)]; exact c5)]
      rfl
    have g203 : g_203 J L := fun _ => g2
    have er : v_206 rr J L = bx (rr 200 (v_194 (up2 J 74 31 (J 74 31 + 1)) L).1 (v_194 (up2 J 74 31 (J 74 31 + 1)) L).2) (fun p11 => bx (if ¬ v_207 p11.2.1 p11.2.2 41 = 0 then p11.2.1 else v_199 p11.2.1) (fun p13 => if ¬ p13 74 32 = 0 then (p11.1, up2 p13 74 31 (p13 74 31 - 1), p11.2.2) else (p11.1, (v_194 (up2 p13 74 31 (p13 74 31 - 1)) p11.2.2).1, (v_194 (up2 p13 74 31 (p13 74 31 - 1)) p11.2.2).2))) := by
      unfold v_206
      rw [if_pos m2, if_neg p2, e203]
      dsimp only [bx]
      rw [if_neg d10]
    have gr : g_206 rr okr J L ↔ (okr 200 (v_194 (up2 J 74 31 (J 74 31 + 1)) L).1 (v_194 (up2 J 74 31 (J 74 31 + 1)) L).2 ∧ bx (rr 200 (v_194 (up2 J 74 31 (J 74 31 + 1)) L).1 (v_194 (up2 J 74 31 (J 74 31 + 1)) L).2) (fun p11 => bx (if ¬ v_207 p11.2.1 p11.2.2 41 = 0 then p11.2.1 else v_199 p11.2.1) (fun p13 => ¬ ¬ p13 74 32 = 0 → g_194 (up2 p13 74 31 (p13 74 31 - 1)) p11.2.2))) := by
      unfold g_206
      rw [e203]
      exact ⟨fun q => (q.1 m2).2 p2 |>.2 d10, fun q => ⟨fun _ => ⟨fun w => absurd w p2, fun _ => ⟨g203, fun _ => q⟩⟩, fun w => absurd m2 w⟩⟩
    have gcl : (okc 97 (v_85 I) t (nI (o + 1)) ∧ g_95 (rc 97 (v_85 I) t (nI (o + 1))) 41) → g_103 rc okc I t (nI o) := by
      intro q
      unfold g_103
      rw [nI_1]
      exact ⟨fun w => absurd w k1, fun _ => ⟨fun _ => ⟨fun _ _ _ => ⟨g1, q⟩, fun w => absurd m1 w⟩, fun w => absurd n1 w⟩⟩
    rw [er, gr]
    revert r3 r2
    generalize rr 200 (v_194 (up2 J 74 31 (J 74 31 + 1)) L).1 (v_194 (up2 J 74 31 (J 74 31 + 1)) L).2 = q
    intro r2 r3
    revert ec gcl r3
    generalize rc 97 (v_85 I) t (nI (o + 1)) = Q
    intro ec gcl r3
    rw [ec]
    have r3 : Rs en n r T t (o + 1) (v_85 I) s st' Q q := r3
    dsimp only [bx]
    rcases r3 with r3 | ⟨st'', u1, u2⟩
    · -- a fault within
      obtain ⟨i1, i2⟩ := v96F r3
      have r3' := r3
      obtain ⟨f, s', -, -, f3, -, f5, -, -⟩ := r3'
      have n41 : ¬ Q 31 4 = 41 := by rw [f5]; decide
      rw [v207_F f3, if_neg d00, i2, if_pos f3]
      have e95 : v_95 Q 41 = Q := by
        unfold v_95
        rw [if_pos n41]
        exact i1
      rw [e95]
      exact ⟨gcl ⟨r1, fun w => absurd n41 w⟩, ⟨r2, fun w => absurd f3 w⟩, Or.inl (FTs_open r3 _)⟩
    · obtain ⟨s2', cs2, b1, b2, b3, b4, b5, b6⟩ := u2
      have hq31 := b1.2.2.2.2.2.1
      have hq32 := b1.2.2.2.2.1
      rcases sgnT b1 s41 with ⟨x1, x2, x3, x4⟩ | ⟨x1, x2⟩
      · have hO2 := NF_open (o' := o) b1 (x := q.2.1 74 31 - 1) (by rw [hq31, nI_pred])
        have mO2 : nxt n st'' Q (up2 q.2.1 74 31 (q.2.1 74 31 - 1)) := by
          obtain ⟨e, e1, e2, e3, e4⟩ := x4
          exact ⟨e, e1, e2, e3, (up2_nk (by omega)).trans e4⟩
        obtain ⟨y1, y2, st3, y3, y4, y5⟩ := adv ht hO2 mO2
        have e95 : v_95 Q 41 = v_85 Q := by
          unfold v_95
          rw [if_neg (fun w => w x1)]
          rfl
        rw [e95, if_pos x2, if_neg (fun w => w hq32)]
        refine ⟨gcl ⟨r1, fun _ => y1⟩, ⟨r2, fun _ => y2⟩, Or.inr ⟨st3, by omega, s2', cs2, y4, by omega, b3, fun k hk => ?_, fun k hk => ?_, b6⟩⟩
        · rw [y5, b4 k hk, s3]
        · rw [y5]; exact b5 k hk
      · have hf := failS b1 ht (by have := b1.2.2.1.1; omega)
        have hf' := hf
        obtain ⟨f, s', -, -, f3, -, -, -, -⟩ := hf'
        have e95 : v_95 Q 41 = v_96 Q := by
          unfold v_95
          rw [if_pos x1]
          rfl
        rw [e95, if_neg (fun w => w x2), if_pos f3]
        exact ⟨gcl ⟨r1, fun w => absurd x1 w⟩, ⟨r2, fun w => absurd f3 w⟩, Or.inl (FTs_open hf _)⟩
theorem s_no (ht : 45 ≤ t ∧ t ≤ 55) (ho : o ≤ 5) {I J : WI} {L : WL} {st s : Nat} (h : NF en n r T t o st s I J L) (hs : s ≤ st) (k1 : ¬ I 31 4 = 258) (k2 : ¬ J 74 28 = 2) (n1 : ¬ I 31 4 = 259) (n2 : J 74 28 = 1 → v_208 J = (0, v_199 J)) (m1 : ¬ I 31 4 = 45) (m2 : v_207 J L 45 = 0) (p1 : ¬ I 31 4 = 40) (p2 : v_207 J L 40 = 0) : g_103 rc okc I t (nI o) ∧ g_206 rr okr J L ∧ Rs en n r T t o I s st (v_103 rc I t (nI o)) (v_206 rr J L) := by
  have hb := h.2.2.2.2.1
  have hb2 : ¬ ¬ J 74 32 = 0 := fun q => q hb
  have h31 := h.2.2.2.2.2.1
  have h160 := h.1.1
  have hstn := h.2.2.1.1
  have k5 : (5 : Int32) ≤ nI o ↔ 5 ≤ o := nI_leI (a := 5) (by omega) (by omega)
  have ec : v_103 rc I t (nI o) = v_96 I := by
    unfold v_103
    rw [if_neg k1, if_pos n1, if_pos m1, if_pos p1]
    rfl
  have hf := failS h ht (show s ≤ 160 by omega)
  have hf' := hf
  obtain ⟨f, s', -, -, f3, -, -, -, -⟩ := hf'
  have er : v_206 rr J L = (0, v_199 J, L) := by
    unfold v_206
    rw [if_pos m2, if_pos p2, if_neg hb2, if_pos k2, if_neg hb2]
    by_cases w1 : J 74 28 = 1
    · rw [if_neg (fun q => q w1), n2 w1]
      dsimp only [bx]
      rw [if_pos f3]
    · rw [if_pos w1]
      rfl
  refine ⟨?_, ?_, Or.inl ?_⟩
  · unfold g_103
    exact ⟨fun q => absurd q k1, fun _ => ⟨fun _ => ⟨fun _ q => absurd p1 q, fun q => absurd m1 q⟩, fun q => absurd n1 q⟩⟩
  · unfold g_206
    refine ⟨fun _ => ⟨fun _ => ⟨fun q => absurd hb q, fun _ => ⟨fun _ _ w => ⟨g208 h, ?_⟩, fun q => absurd k2 q⟩⟩, fun q => absurd p2 q⟩, fun q => absurd m2 q⟩
    rw [n2 (Classical.not_not.mp w)]
    exact fun q => absurd f3 q
  · rw [ec, er]; exact hf
theorem singleS (ht : 45 ≤ t ∧ t ≤ 55) (ho : o ≤ 5) (H : o < 5 → RecS en n r T t (o + 1) rc okc rr okr) : Sim en n r T t o (fun I => v_103 rc I t (nI o)) (fun I => g_103 rc okc I t (nI o)) (v_206 rr) (g_206 rr okr) := by
  intro I J L st s h hs
  rcases numT h with ⟨k1, k2, k3, k4, k6⟩ | ⟨k1, k2⟩
  · exact s_num ht ho h hs k1 k2 k3 k4 k6
  · rcases nameT h with ⟨n1, n2, n3, n4, n5, n6⟩ | ⟨n1, n2⟩
    · exact s_nam ht ho h hs k1 k2 n1 n2 n3 n4 n5 n6
    · rcases sgnT h s45 with ⟨m1, m2, m3, m4⟩ | ⟨m1, m2⟩
      · exact s_min ht ho h hs H k1 k2 n1 n2 m1 m2 m4
      · rcases sgnT h s40 with ⟨p1, p2, p3, p4⟩ | ⟨p1, p2⟩
        · exact s_par ht ho h hs H k1 k2 n1 n2 m1 m2 p1 p2 p4
        · exact s_no ht ho h hs k1 k2 n1 n2 m1 m2 p1 p2
end
