section
variable {en : Int32 → Int32} {n r t o : Nat} {T : Nat → Int32} {rc : RECTC} {okc : OKRTC} {rr : RECTR} {okr : OKRTR}
/-! what is compared, what is denied -/
theorem Rs_more {I0 I1 C : WI} {W : Int32 × WI × WL} {s0 st0 st st1 s1 : Nat} {v u op : Int32} {cs1 : List Int32} (ht : 45 ≤ t ∧ t ≤ 55) (h0 : s0 ≤ st0)
    (a1 : s1 + st0 ≤ st + s0) (a2 : s1 = s0 + cs1.length) (a3 : ∀ k, k < s0 → I1 (t + 1) k = I0 (t + 1) k) (a4 : ∀ k, k < cs1.length → I1 (t + 1) (s0 + k) = cs1.getD k 0) (a5 : ∀ R, runL en cs1 R = v :: R)
    (hst : st < st1) (h00 : st0 ≤ st) (h : Rs en n r T t o I1 s1 st1 C W) (hop : ∀ R, stp1 en op (W.1 :: v :: R) = u :: R) : g_81 C t ∧ Rs en n r T t o I0 s0 st0 (v_81 C t op) (u, W.2.1, W.2.2) := by
  rcases h with h | ⟨st2, w1, w2⟩
  · obtain ⟨x1, x2⟩ := addF ht h op
    exact ⟨x1, Or.inl x2⟩
  · obtain ⟨x1, x2⟩ := AcS_more (I0 := I0) (op := op) ht h0 a1 a2 a3 a4 a5 hst w2 w1 hop
    exact ⟨x1, Or.inr ⟨st2, by omega, x2⟩⟩
theorem v19_12 (a b : Int32) : v_19 (-12) a b = if b ≤ a then 0 else 1 := by
  unfold v_19
  rw [if_neg (by decide), if_neg (by decide), if_pos rfl, bxd]
  unfold v_17
  by_cases z : b ≤ a
  · rw [if_pos z, if_pos rfl]
  · rw [if_neg z, if_neg d10]
theorem v19_13 (a b : Int32) : v_19 (-13) a b = if a = b then 1 else 0 := by
  unfold v_19
  rw [if_neg (by decide), if_pos rfl, bxd]
  unfold v_17
  by_cases z : a = b
  · rw [if_neg (show ¬ ¬ a = b from fun q => q z), if_neg d10, if_pos z]
  · rw [if_pos (show ¬ a = b from z), if_pos rfl, if_neg z]
theorem e60 : (60 : Int64) = Int32.toInt64 60 := by decide
theorem v100_lt {I : WI} {x : Int32} (h : v_101 rc I t x 31 4 = 60) : v_100 rc I t x = v_81 (v_101 rc (v_85 (v_101 rc I t x)) t x) t (-12) := by
  unfold v_100
  rw [bxd, if_pos h, bxd, bxd, bxd, bxd, if_neg (fun w => w h)]
theorem v100_eq {I : WI} {x : Int32} (h : v_101 rc I t x 31 4 = 61) : v_100 rc I t x = v_81 (v_101 rc (v_85 (v_101 rc I t x)) t x) t (-13) := by
  have h0 : ¬ v_101 rc I t x 31 4 = 60 := by rw [h]; decide
  unfold v_100
  rw [bxd, if_neg h0, if_neg (fun w => w h), bxd, bxd, bxd, bxd, if_pos h0]
theorem v100_no {I : WI} {x : Int32} (h : ¬ v_101 rc I t x 31 4 = 60) (h2 : ¬ v_101 rc I t x 31 4 = 61) : v_100 rc I t x = v_101 rc I t x := by
  unfold v_100
  rw [bxd, if_neg h, if_pos h2]
theorem g100 {I : WI} {x : Int32} (h : g_101 rc okc I t x) (h2 : v_101 rc I t x 31 4 = 60 ∨ v_101 rc I t x 31 4 = 61 → g_85 (v_101 rc I t x) ∧ g_101 rc okc (v_85 (v_101 rc I t x)) t x ∧ g_81 (v_101 rc (v_85 (v_101 rc I t x)) t x) t) : g_100 rc okc I t x := by
  unfold g_100
  refine ⟨h, ?_⟩
  rw [bxp]
  refine ⟨fun w => ?_, fun _ w => ?_⟩
  · obtain ⟨a1, a2, a3⟩ := h2 (Or.inl w)
    rw [bxp]
    refine ⟨a1, ?_⟩
    rw [bxp]
    refine ⟨a2, ?_⟩
    rw [bxp]
    exact a3
  · obtain ⟨a1, a2, a3⟩ := h2 (Or.inr (Classical.not_not.mp w))
    rw [bxp]
    refine ⟨a1, ?_⟩
    rw [bxp]
    refine ⟨a2, ?_⟩
    rw [bxp]
    exact a3
theorem qnot (J : WI) : v_196 J 110 111 116 0 0 0 0 0 = qW J (sByt.getD 10 []) := rfl
theorem v202_lt {J : WI} {L : WL} {P W : Int32 × WI × WL} (hq : qW J (sByt.getD 10 []) = 0) (hP : v_204 rr J L = P) (h : ¬ v_207 P.2.1 P.2.2 60 = 0) (hl : lg_cmp (P.2.2 74 30) 60 = 0) (hW : v_204 rr (v_194 P.2.1 P.2.2).1 (v_194 P.2.1 P.2.2).2 = W) : v_202 rr J L = ((if W.1 ≤ P.1 then 0 else 1), W.2.1, W.2.2) := by
  unfold v_202
  rw [qnot, if_pos hq, bxd, hP, if_pos h, bxd, bxd, bxd, hW, if_neg (show ¬ ¬ lg_cmp (P.2.2 74 30) 60 = 0 from fun w => w hl), if_neg d10]
  split <;> rfl
theorem v202_eq {J : WI} {L : WL} {P W : Int32 × WI × WL} (hq : qW J (sByt.getD 10 []) = 0) (hP : v_204 rr J L = P) (h : v_207 P.2.1 P.2.2 60 = 0) (h2 : ¬ v_207 P.2.1 P.2.2 61 = 0) (hl : ¬ lg_cmp (P.2.2 74 30) 60 = 0) (hW : v_204 rr (v_194 P.2.1 P.2.2).1 (v_194 P.2.1 P.2.2).2 = W) : v_202 rr J L = ((if P.1 = W.1 then 1 else 0), W.2.1, W.2.2) := by
  unfold v_202
  rw [qnot, if_pos hq, bxd, hP, if_neg (fun w => w h), if_pos h2, bxd, bxd, bxd, hW, if_pos hl, if_pos rfl]
  by_cases z : P.1 = W.1
  · rw [if_neg (fun q => q z), if_pos z]
  · rw [if_pos z, if_neg z]
theorem v202_no {J : WI} {L : WL} {P : Int32 × WI × WL} (hq : qW J (sByt.getD 10 []) = 0) (hP : v_204 rr J L = P) (h : v_207 P.2.1 P.2.2 60 = 0) (h2 : v_207 P.2.1 P.2.2 61 = 0) : v_202 rr J L = (P.1, P.2.1, P.2.2) := by
  unfold v_202
  rw [qnot, if_pos hq, bxd, hP, if_neg (fun w => w h), if_neg (fun w => w h2)]
theorem g202 {J : WI} {L : WL} {P : Int32 × WI × WL} (hg : g_196 J 110 111 116 0 0 0 0) (hq : qW J (sByt.getD 10 []) = 0) (h : g_204 rr okr J L) (hP : v_204 rr J L = P) (h2 : ¬ v_207 P.2.1 P.2.2 60 = 0 ∨ ¬ v_207 P.2.1 P.2.2 61 = 0 → g_194 P.2.1 P.2.2 ∧ g_204 rr okr (v_194 P.2.1 P.2.2).1 (v_194 P.2.1 P.2.2).2) : g_202 rr okr J L := by
  unfold g_202
  rw [qnot]
  refine ⟨hg, fun _ => ⟨h, ?_⟩, fun w => absurd hq w⟩
  rw [hP, bxp]
  refine ⟨fun w => ?_, fun _ w => ?_⟩
  · obtain ⟨a1, a2⟩ := h2 (Or.inl w)
    rw [bxp]
    refine ⟨a1, ?_⟩
    rw [bxp]
    exact a2
  · obtain ⟨a1, a2⟩ := h2 (Or.inr w)
    rw [bxp]
    refine ⟨a1, ?_⟩
    rw [bxp]
    exact a2
theorem cmpS (ht : 45 ≤ t ∧ t ≤ 55) (sim : Sim en n r T t o (fun I => v_101 rc I t (nI o)) (fun I => g_101 rc okc I t (nI o)) (v_204 rr) (g_204 rr okr)) {I J : WI} {L : WL} {st s : Nat} (h : NF en n r T t o st s I J L) (hs : s ≤ st) (hq : qW J (sByt.getD 10 []) = 0) :
    g_100 rc okc I t (nI o) ∧ g_202 rr okr J L ∧ Rs en n r T t o I s st (v_100 rc I t (nI o)) (v_202 rr J L) := by
  obtain ⟨m1, m2, m3⟩ := sim I J L st s h hs
  have m1 : g_101 rc okc I t (nI o) := m1
  have m3 : Rs en n r T t o I s st (v_101 rc I t (nI o)) (v_204 rr J L) := m3
  have hgw := gW h 110 111 116 0 0 0 0
  obtain ⟨q, hP⟩ : ∃ q, v_204 rr J L = q := ⟨_, rfl⟩
  rw [hP] at m3
  rcases m3 with m3 | ⟨st', u1, u2⟩
  · have t60 := FT_tok m3 (c := 60) (by decide)
    have t61 := FT_tok m3 (c := 61) (by decide)
    have v60 := v207_F (FT_bad m3) q.2.2 60
    have v61 := v207_F (FT_bad m3) q.2.2 61
    rw [v100_no t60 t61, v202_no hq hP v60 v61]
    exact ⟨g100 m1 (fun w => w.elim (fun w => absurd w t60) (fun w => absurd w t61)), g202 hgw hq m2 hP (fun w => w.elim (fun w => absurd v60 w) (fun w => absurd v61 w)), Or.inl m3⟩
  · have u2' := u2
    obtain ⟨s', cs, b1, b2, b3, b4, b5, b6⟩ := u2
    have second : nxt n st' (v_101 rc I t (nI o)) q.2.1 → ∃ st2, st' < st2 ∧ g_85 (v_101 rc I t (nI o)) ∧ g_101 rc okc (v_85 (v_101 rc I t (nI o))) t (nI o) ∧ g_194 q.2.1 q.2.2 ∧ g_204 rr okr (v_194 q.2.1 q.2.2).1 (v_194 q.2.1 q.2.2).2 ∧
        Rs en n r T t o (v_85 (v_101 rc I t (nI o))) s' st2 (v_101 rc (v_85 (v_101 rc I t (nI o))) t (nI o)) (v_204 rr (v_194 q.2.1 q.2.2).1 (v_194 q.2.1 q.2.2).2) ∧ ∀ k, v_85 (v_101 rc I t (nI o)) (t + 1) k = v_101 rc I t (nI o) (t + 1) k := by
      intro hn
      obtain ⟨g1, g2, st2, s1, s2, s3⟩ := adv ht b1 hn
      obtain ⟨r1, r2, r3⟩ := sim _ _ _ st2 s' s2 (by omega)
      exact ⟨st2, s1, g1, r1, g2, r2, r3, s3⟩
    obtain ⟨W, hW⟩ : ∃ W, v_204 rr (v_194 q.2.1 q.2.2).1 (v_194 q.2.1 q.2.2).2 = W := ⟨_, rfl⟩
    rcases sgnT b1 s60 with ⟨p1, p2, p3, p4⟩ | ⟨p1, p2⟩
    · have c1 : lg_cmp (q.2.2 74 30) 60 = 0 := (lg0 _ _).mpr (by rw [p3, e60])
      obtain ⟨st2, y0, y1, y2, y4, y5, y6, y7⟩ := second p4
      rw [v100_lt p1, v202_lt hq hP p2 c1 hW]
      rw [hW] at y6
      obtain ⟨z1, z2⟩ := Rs_more (I0 := I) (v := q.1) (op := -12) (u := if W.1 ≤ q.1 then 0 else 1) ht hs b2 b3 (fun k hk => (y7 k).trans (b4 k hk)) (fun k hk => (y7 _).trans (b5 k hk)) b6 y0 (by omega) y6 (fun R => st_join (by decide) (v19_12 _ _) R)
      exact ⟨g100 m1 (fun _ => ⟨y1, y2, z1⟩), g202 hgw hq m2 hP (fun _ => ⟨y4, y5⟩), z2⟩
    · rcases sgnT b1 s61 with ⟨k1, k2, k3, k4⟩ | ⟨k1, k2⟩
      · have c1 : ¬ lg_cmp (q.2.2 74 30) 60 = 0 := fun w => by
          have := (lg0 _ _).mp w
          rw [k3, e60] at this
          exact absurd (t64.mp this) (by decide)
        obtain ⟨st2, y0, y1, y2, y4, y5, y6, y7⟩ := second k4
        rw [v100_eq k1, v202_eq hq hP p2 k2 c1 hW]
        rw [hW] at y6
        obtain ⟨z1, z2⟩ := Rs_more (I0 := I) (v := q.1) (op := -13) (u := if q.1 = W.1 then 1 else 0) ht hs b2 b3 (fun k hk => (y7 k).trans (b4 k hk)) (fun k hk => (y7 _).trans (b5 k hk)) b6 y0 (by omega) y6 (fun R => st_join (by decide) (v19_13 _ _) R)
        exact ⟨g100 m1 (fun _ => ⟨y1, y2, z1⟩), g202 hgw hq m2 hP (fun _ => ⟨y4, y5⟩), z2⟩
      · rw [v100_no p1 k1, v202_no hq hP p2 k2]
        exact ⟨g100 m1 (fun w => w.elim (fun w => absurd w p1) (fun w => absurd w k1)), g202 hgw hq m2 hP (fun w => w.elim (fun w => absurd p2 w) (fun w => absurd k2 w)), Or.inr ⟨st', u1, u2'⟩⟩
theorem v202_n {J : WI} {L : WL} {P : Int32 × WI × WL} (hq : ¬ qW J (sByt.getD 10 []) = 0) (h : v_203 J L = (1, P.2.1, P.2.2)) {W : Int32 × WI × WL} (hW : rr 202 P.2.1 P.2.2 = W) : v_202 rr J L = ((if W.1 = 0 then 1 else 0), up2 W.2.1 74 31 (W.2.1 74 31 - 1), W.2.2) := by
  unfold v_202
  rw [qnot, if_neg hq, bxd, h, if_pos d10, bxd, hW]
  by_cases z : W.1 = 0
  · rw [if_neg (fun q => q z), if_pos z]
  · rw [if_pos z, if_neg z]
theorem tv8 (en : Int32 → Int32) (w : Int32) (R : List Int32) : stp1 en (-8) (w :: R) = (if w = 0 then 1 else 0) :: R := by
  unfold stp1 tv
  rw [if_pos (show (-8 : Int32) < 0 by decide), if_pos (show (-8 : Int32) < -6 by decide), if_neg (show ¬ (-8 : Int32) < -8 by decide)]
  dsimp only
  rw [if_pos (show ¬ (-8 : Int32) = -7 by decide)]
  unfold v_17
  by_cases z : w = 0
  · rw [if_neg (show ¬ ¬ w = 0 from fun q => q z), if_neg d10, if_pos z]
  · rw [if_pos (show ¬ w = 0 from z), if_pos rfl, if_neg z]
theorem notS (ht : 45 ≤ t ∧ t ≤ 55) (ho : o ≤ 5) (H : o < 5 → RecS en n r T t (o + 1) rc okc rr okr) (sim : Sim en n r T t o (fun I => v_101 rc I t (nI o)) (fun I => g_101 rc okc I t (nI o)) (v_204 rr) (g_204 rr okr)) :
    Sim en n r T t o (fun I => v_99 rc I t (nI o)) (fun I => g_99 rc okc I t (nI o)) (v_202 rr) (g_202 rr okr) := by
  intro I J L st s h hs
  show g_99 rc okc I t (nI o) ∧ g_202 rr okr J L ∧ Rs en n r T t o I s st (v_99 rc I t (nI o)) (v_202 rr J L)
  have h31 := h.2.2.2.2.2.1
  have h160 := h.1.1
  have hstn := h.2.2.1.1
  have hgw := gW h 110 111 116 0 0 0 0
  have k5 : nI o < 5 ↔ o < 5 := nI_ltI (b := 5) (by omega) (by omega)
  rcases keyT h (i := 10) (by decide) (by decide) with ⟨k1, k2, k3⟩ | ⟨k1, k2⟩
  · have k1 : I 31 4 = 264 := k1
    by_cases c : o < 5
    · have hO := NF_open (o' := o + 1) h (x := J 74 31 + 1) (by rw [h31, nI_1])
      have mO : nxt n st I (up2 J 74 31 (J 74 31 + 1)) := by
        obtain ⟨e, e1, e2, e3, e4⟩ := k3
        exact ⟨e, e1, e2, e3, (up2_nk (by omega)).trans e4⟩
      obtain ⟨g1, g2, st', s1, s2, s3⟩ := adv ht hO mO
      obtain ⟨r1, r2, r3⟩ := (H c).2.1 _ _ _ st' s s2 (by omega)
      have r1 : okc 99 (v_85 I) t (nI (o + 1)) := r1
      have r3 : Rs en n r T t (o + 1) (v_85 I) s st' (rc 99 (v_85 I) t (nI (o + 1))) (rr 202 (v_194 (up2 J 74 31 (J 74 31 + 1)) L).1 (v_194 (up2 J 74 31 (J 74 31 + 1)) L).2) := r3
      have e203 : v_203 J L = (1, (v_194 (up2 J 74 31 (J 74 31 + 1)) L).1, (v_194 (up2 J 74 31 (J 74 31 + 1)) L).2) := by
        unfold v_203
        rw [if_pos (by rw [h31, show (5 : Int32) = nI 5 from rfl, nI_eq (by omega) (by omega)]; omega), bxd]
      obtain ⟨P1, hP1⟩ : ∃ P, v_194 (up2 J 74 31 (J 74 31 + 1)) L = P := ⟨_, rfl⟩
      rw [hP1] at e203 r2 r3
      obtain ⟨W, hW⟩ : ∃ W, rr 202 P1.1 P1.2 = W := ⟨_, rfl⟩
      rw [hW] at r3
      have e99 : v_99 rc I t (nI o) = v_81 (rc 99 (v_85 I) t (nI (o + 1))) t (-8) := by
        unfold v_99
        rw [if_pos k1, if_pos (k5.mpr c), bxd, bxd, bxd, nI_1]
      have fin : g_81 (rc 99 (v_85 I) t (nI (o + 1))) t ∧ Rs en n r T t o I s st (v_81 (rc 99 (v_85 I) t (nI (o + 1))) t (-8)) ((if W.1 = 0 then 1 else 0), up2 W.2.1 74 31 (W.2.1 74 31 - 1), W.2.2) := by
        rcases r3 with r3 | ⟨st'', u1, u2⟩
        · obtain ⟨w1, w2⟩ := addF ht r3 (-8)
          exact ⟨w1, Or.inl (FTs_open w2 _)⟩
        · obtain ⟨w1, w2⟩ := AcS_un (I0 := I) (u := if W.1 = 0 then 1 else 0) (op := -8) ht hs (fun k _ => s3 k) s1 u2 u1 (fun R => tv8 en _ R)
          obtain ⟨s2', cs2, b1, -⟩ := u2
          have hq31 := b1.2.2.2.2.2.1
          exact ⟨w1, Or.inr ⟨st'', by omega, AcS_open w2 (by rw [hq31, nI_pred])⟩⟩
      rw [e99, v202_n (P := (0, P1.1, P1.2)) k2 e203 hW]
      refine ⟨?_, ?_, fin.2⟩
      · unfold g_99
        refine ⟨fun _ _ => ⟨g1, ?_⟩, fun q => absurd k1 q⟩
        rw [bxp, nI_1]
        refine ⟨r1, ?_⟩
        rw [bxp]
        exact fin.1
      · unfold g_202
        rw [qnot]
        refine ⟨hgw, fun q => absurd q k2, fun _ => ⟨fun _ => g2, ?_⟩⟩
        rw [e203, bxp]
        exact fun _ => r2
    · have c5 : o = 5 := by omega
      have e99 : v_99 rc I t (nI o) = v_96 I := by
        unfold v_99
        rw [if_pos k1, if_neg (fun q => c (k5.mp q)), bxd]
      have e203 : v_203 J L = (0, v_199 J, L) := by
        unfold v_203
        rw [if_neg (fun q => q (by rw [h31, c5]; rfl)), bxd]
      have e202 : v_202 rr J L = (0, v_199 J, L) := by
        unfold v_202
        rw [qnot, if_neg k2, bxd, e203, if_neg d00]
      rw [e99, e202]
      refine ⟨?_, ?_, Or.inl (failS h ht (by omega))⟩
      · unfold g_99
        exact ⟨fun _ q => absurd (k5.mp q) c, fun q => absurd k1 q⟩
      · unfold g_202
        rw [qnot]
        refine ⟨hgw, fun q => absurd q k2, fun _ => ⟨fun q => absurd (by rw [h31, c5]; rfl) q, ?_⟩⟩
        rw [e203, bxp]
        exact fun q => absurd rfl q
  · have k1 : ¬ I 31 4 = 264 := k1
    obtain ⟨y1, y2, y3⟩ := cmpS ht sim h hs k2
    have e99 : v_99 rc I t (nI o) = v_100 rc I t (nI o) := by
      unfold v_99
      rw [if_neg k1, bxd]
    rw [e99]
    refine ⟨?_, y2, y3⟩
    unfold g_99
    exact ⟨fun q => absurd q k1, fun _ => y1⟩
/-! and, or -/
theorem v19_14 (a b : Int32) : v_19 (-14) a b = if a = 0 then 0 else if b = 0 then 0 else 1 := by
  unfold v_19
  rw [if_pos rfl, bxd]
  unfold v_17
  by_cases z : a = 0
  · rw [if_pos z, if_pos rfl]
  · rw [if_neg z]
    by_cases y : b = 0
    · rw [if_pos y, if_pos rfl]
    · rw [if_neg y, if_neg d10]
theorem v19_15 (a b : Int32) : v_19 (-15) a b = if ¬ a = 0 then 1 else if b = 0 then 0 else 1 := by
  unfold v_19
  rw [if_neg (by decide), if_neg (by decide), if_neg (by decide), if_neg (by decide), if_neg (by decide), if_neg (by decide), bxd]
  unfold v_17
  by_cases z : a = 0
  · rw [if_neg (show ¬ ¬ a = 0 from fun q => q z)]
    by_cases y : b = 0
    · rw [if_pos y, if_pos rfl]
    · rw [if_neg y, if_neg d10]
  · rw [if_pos (show ¬ a = 0 from z), if_neg d10]
theorem qand (J : WI) : v_196 J 97 110 100 0 0 0 0 0 = qW J (sByt.getD 9 []) := rfl
theorem qor (J : WI) : v_196 J 111 114 0 0 0 0 0 0 = qW J (sByt.getD 8 []) := rfl
theorem bothS (ht : 45 ≤ t ∧ t ≤ 55) (sim : Sim en n r T t o (fun I => v_99 rc I t (nI o)) (fun I => g_99 rc okc I t (nI o)) (v_202 rr) (g_202 rr okr)) : Sim en n r T t o (fun I => v_98 rc I t (nI o)) (fun I => g_98 rc okc I t (nI o)) (v_201 rr) (g_201 rr okr) := by
  have key := chainS ht sim (lc := lp_98_7 rc t (nI o)) (glc := gl_98_7 rc okc t (nI o)) (lr := lp_201_5 rr) (glr := gl_201_5 rr okr) (fun I => I 31 4 = 263) (fun J L => ¬ qW J (sByt.getD 9 []) = 0) (fun J _ => g_196 J 97 110 100 0 0 0 0) (fun _ => -14) (fun _ a b => if a = 0 then 0 else if b = 0 then 0 else 1)
    (fun k x I h1 h2 => by rw [lp_98_7, if_neg h1, if_neg (fun q => q h2), bxd, bxd, bxd])
    (fun k x I h1 => by rw [lp_98_7, if_pos h1]; split <;> rfl)
    (fun k x I h1 => by
      rw [gl_98_7]
      intro _ q
      obtain ⟨a1, a2, a3, a4⟩ := h1 (Classical.not_not.mp q)
      exact ⟨a1, a2, a3, a4⟩)
    (fun k v J L h1 => by rw [lp_201_5, qand, if_neg h1, bxd, bxd, bxd])
    (fun k v J L h1 => by rw [lp_201_5, qand, if_pos (Classical.not_not.mp h1)])
    (fun k v J L h0 h1 => by
      rw [gl_201_5, qand]
      refine ⟨h0, fun q => ?_⟩
      obtain ⟨a1, a2, a3⟩ := h1 q
      exact ⟨a1, a2, a3⟩)
    (fun st s I J L h => by
      rcases keyT h (i := 9) (by decide) (by decide) with ⟨m1, m2, m4⟩ | ⟨m1, m2⟩
      · exact Or.inl ⟨m1, m2, m4, fun a b R => st_join (by decide) (v19_14 a b) R⟩
      · exact Or.inr ⟨m1, fun q => q m2⟩)
    (fun I J L h => ⟨FT_tok h (by decide), fun q => q (qW_F (FT_bad h) _), gW_F (FT_bad h) _ _ _ _ _ _ _⟩) (fun _ _ _ _ _ h => gW h _ _ _ _ _ _ _)
  exact Sim_eq key (fun I => by unfold v_98; rw [bxd, bxd]) (fun I => by unfold g_98; rw [bxp]) (fun J L => by unfold v_201; rw [bxd, bxd]) (fun J L => by unfold g_201; rw [bxp])
theorem eitherS (ht : 45 ≤ t ∧ t ≤ 55) (sim : Sim en n r T t o (fun I => v_98 rc I t (nI o)) (fun I => g_98 rc okc I t (nI o)) (v_201 rr) (g_201 rr okr)) : Sim en n r T t o (fun I => v_97 rc I t (nI o)) (fun I => g_97 rc okc I t (nI o)) (v_200 rr) (g_200 rr okr) := by
  have key := chainS ht sim (lc := lp_97_7 rc t (nI o)) (glc := gl_97_7 rc okc t (nI o)) (lr := lp_200_5 rr) (glr := gl_200_5 rr okr) (fun I => I 31 4 = 262) (fun J L => ¬ qW J (sByt.getD 8 []) = 0) (fun J _ => g_196 J 111 114 0 0 0 0 0) (fun _ => -15) (fun _ a b => if ¬ a = 0 then 1 else if b = 0 then 0 else 1)
    (fun k x I h1 h2 => by rw [lp_97_7, if_neg h1, if_neg (fun q => q h2), bxd, bxd, bxd])
    (fun k x I h1 => by rw [lp_97_7, if_pos h1]; split <;> rfl)
    (fun k x I h1 => by
      rw [gl_97_7]
      intro _ q
      obtain ⟨a1, a2, a3, a4⟩ := h1 (Classical.not_not.mp q)
      exact ⟨a1, a2, a3, a4⟩)
    (fun k v J L h1 => by rw [lp_200_5, qor, if_neg h1, bxd, bxd, bxd])
    (fun k v J L h1 => by rw [lp_200_5, qor, if_pos (Classical.not_not.mp h1)])
    (fun k v J L h0 h1 => by
      rw [gl_200_5, qor]
      refine ⟨h0, fun q => ?_⟩
      obtain ⟨a1, a2, a3⟩ := h1 q
      exact ⟨a1, a2, a3⟩)
    (fun st s I J L h => by
      rcases keyT h (i := 8) (by decide) (by decide) with ⟨m1, m2, m4⟩ | ⟨m1, m2⟩
      · exact Or.inl ⟨m1, m2, m4, fun a b R => st_join (by decide) (v19_15 a b) R⟩
      · exact Or.inr ⟨m1, fun q => q m2⟩)
    (fun I J L h => ⟨FT_tok h (by decide), fun q => q (qW_F (FT_bad h) _), gW_F (FT_bad h) _ _ _ _ _ _ _⟩) (fun _ _ _ _ _ h => gW h _ _ _ _ _ _ _)
  exact Sim_eq key (fun I => by unfold v_97; rw [bxd, bxd]) (fun I => by unfold g_97; rw [bxp]) (fun J L => by unfold v_200; rw [bxd, bxd]) (fun J L => by unfold g_200; rw [bxp])
/-- both readers, at every depth -/
theorem allS (ht : 45 ≤ t ∧ t ≤ 55) : ∀ m o, o ≤ 5 → 6 ≤ o + m → RecS en n r T t o (pcl m) (okcl m) (prl m) (okrl m) := by
  intro m
  induction m with
  | zero => intro o h1 h2; omega
  | succ m ih =>
    intro o h1 h2
    have H : o < 5 → RecS en n r T t (o + 1) (pcl m) (okcl m) (prl m) (okrl m) := fun h => ih (o + 1) (by omega) (by omega)
    have a1 := singleS (rc := pcl m) (okc := okcl m) (rr := prl m) (okr := okrl m) ht h1 H
    have a2 := prodS ht a1
    have a3 := sumS ht a2
    have a4 := notS ht h1 H a3
    have a5 := bothS ht a4
    have a6 := eitherS ht a5
    exact ⟨a6, a4, a1⟩
end
