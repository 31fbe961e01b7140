section
variable {en : Int32 → Int32} {n r t o : Nat} {T : Nat → Int32}
/-! after a fault the class's reader reads nothing more -/
theorem ft97 {I J : WI} (h : FTs t I J) (rc : RECTC) (okc : OKRTC) (x : Int32) : v_97 rc I t x = I ∧ g_97 rc okc I t x := by
  have hi := (v96F h).1
  have tk : ∀ c : Int32, ¬ c = 257 → ¬ I 31 4 = c := fun c hc => FT_tok h hc
  have a1 : v_103 rc I t x = I ∧ g_103 rc okc I t x := by
    constructor
    · unfold v_103
      rw [if_neg (tk 258 (by decide)), if_pos (tk 259 (by decide)), if_pos (tk 45 (by decide)), if_pos (tk 40 (by decide)), bxd]
      exact hi
    · unfold g_103
      exact ⟨fun q => absurd q (tk 258 (by decide)), fun _ => ⟨fun _ => ⟨fun _ q => absurd (tk 40 (by decide)) q, fun q => absurd (tk 45 (by decide)) q⟩, fun q => absurd (tk 259 (by decide)) q⟩⟩
  have a2 : v_102 rc I t x = I ∧ g_102 rc okc I t x := by
    constructor
    · unfold v_102
      rw [bxd, bxd, a1.1, show 400 = 399 + 1 from rfl, lp_102_7, if_pos (tk 42 (by decide))]
      split <;> rfl
    · unfold g_102
      rw [bxp, a1.1, show 400 = 399 + 1 from rfl, gl_102_7]
      exact ⟨a1.2, fun _ q => absurd (tk 42 (by decide)) q⟩
  have a3 : v_101 rc I t x = I ∧ g_101 rc okc I t x := by
    constructor
    · unfold v_101
      rw [bxd, bxd, a2.1, show 400 = 399 + 1 from rfl, lp_101_7, if_neg (tk 43 (by decide)), if_pos (tk 45 (by decide))]
      split <;> rfl
    · unfold g_101
      rw [bxp, a2.1, show 400 = 399 + 1 from rfl, gl_101_7]
      exact ⟨a2.2, fun _ => ⟨fun q => absurd q (tk 43 (by decide)), fun _ q => absurd (tk 45 (by decide)) q⟩⟩
  have a4 : v_100 rc I t x = I ∧ g_100 rc okc I t x := by
    refine ⟨?_, g100 a3.2 (fun q => ?_)⟩
    · rw [v100_no (by rw [a3.1]; exact tk 60 (by decide)) (by rw [a3.1]; exact tk 61 (by decide))]
      exact a3.1
    · rw [a3.1] at q
      exact q.elim (fun q => absurd q (tk 60 (by decide))) (fun q => absurd q (tk 61 (by decide)))
  have a5 : v_99 rc I t x = I ∧ g_99 rc okc I t x := by
    constructor
    · unfold v_99
      rw [if_neg (tk 264 (by decide)), bxd]
      exact a4.1
    · unfold g_99
      exact ⟨fun q => absurd q (tk 264 (by decide)), fun _ => a4.2⟩
  have a6 : v_98 rc I t x = I ∧ g_98 rc okc I t x := by
    constructor
    · unfold v_98
      rw [bxd, bxd, a5.1, show 400 = 399 + 1 from rfl, lp_98_7, if_pos (tk 263 (by decide))]
      split <;> rfl
    · unfold g_98
      rw [bxp, a5.1, show 400 = 399 + 1 from rfl, gl_98_7]
      exact ⟨a5.2, fun _ q => absurd (tk 263 (by decide)) q⟩
  constructor
  · unfold v_97
    rw [bxd, bxd, a6.1, show 400 = 399 + 1 from rfl, lp_97_7, if_pos (tk 262 (by decide))]
    split <;> rfl
  · unfold g_97
    rw [bxp, a6.1, show 400 = 399 + 1 from rfl, gl_97_7]
    exact ⟨a6.2, fun _ q => absurd (tk 262 (by decide)) q⟩
theorem bxv {α β : Type} {a a' : α} (h : a = a') (f : α → β) : bx a f = f a' := by rw [h]; rfl
theorem bxw {α : Type} {a a' : α} (h : a = a') (f : α → Prop) : bx a f = f a' := by rw [h]; rfl
theorem ftP {I J : WI} (h : FTs t I J) : pcc I t 0 = I ∧ okcc I t 0 := by
  rw [pcc_eq, okcc_eq]
  exact ft97 h (pcl 7) (okcl 7) 0
theorem ftE {I J : WI} (h : FTs t I J) {x : Int32} (hx : ¬ x = 257) : v_95 I x = I ∧ g_95 I x := by
  have tk : ¬ I 31 4 = x := FT_tok h hx
  constructor
  · unfold v_95
    rw [if_pos tk, bxd]
    exact (v96F h).1
  · exact fun q => absurd tk q
/-- one of the two parts of a text -/
theorem partS (ht : 45 ≤ t ∧ t ≤ 55) {i : Nat} (h6 : 6 ≤ i) (hi : i < 11) {I J : WI} {L : WL} {st s : Nat} (h : NF en n r T t 0 st s I J L) (hs : s ≤ st) :
    g_95 I (nI (254 + i)) ∧ okcc (v_95 I (nI (254 + i))) t 0 ∧ g_95 (pcc (v_95 I (nI (254 + i))) t 0) 59 ∧ g_198 J L (qW J (sByt.getD i [])) ∧ Rs en n r T t 0 I s st (v_95 (pcc (v_95 I (nI (254 + i))) t 0) 59) (v_198 J L (qW J (sByt.getD i []))) := by
  have h160 := h.1.1
  have hstn := h.2.2.1.1
  have hb := h.2.2.2.2.1
  have hx257 : ¬ nI (254 + i) = 257 := by
    match i, h6, hi with
    | 6, _, _ | 7, _, _ | 8, _, _ | 9, _, _ | 10, _, _ => decide
  rcases keyT h h6 hi with ⟨k1, k2, k3⟩ | ⟨k1, k2⟩
  · obtain ⟨g1, g2, st1, s1, s2, s3⟩ := adv ht h k3
    obtain ⟨r1, r2, r3⟩ := (allS ht 8 0 (by omega) (by omega)).1 _ _ _ st1 s s2 (by omega)
    have r1 : okcl 8 97 (v_85 I) t 0 := r1
    have r3 : Rs en n r T t 0 (v_85 I) s st1 (pcl 8 97 (v_85 I) t 0) (prl 8 200 (v_194 J L).1 (v_194 J L).2) := r3
    rw [← okcc_eq] at r1
    rw [← pcc_eq, ← prc_eq] at r3
    rw [← okrc_eq] at r2
    have e95 : v_95 I (nI (254 + i)) = v_85 I := by
      unfold v_95
      rw [if_neg (show ¬ ¬ I 31 4 = nI (254 + i) from fun q => q k1), bxd]
    have hb2 := s2.2.2.2.2.1
    obtain ⟨W, hW⟩ : ∃ W, prc (v_194 J L).1 (v_194 J L).2 = W := ⟨_, rfl⟩
    have e198 : v_198 J L (qW J (sByt.getD i [])) = bx (if ¬ v_207 W.2.1 W.2.2 59 = 0 then W.2.1 else v_199 W.2.1) (fun p8 => if ¬ p8 74 32 = 0 then (W.1, p8, W.2.2) else (W.1, (v_194 p8 W.2.2).1, (v_194 p8 W.2.2).2)) := by
      have h1 : (if ¬ qW J (sByt.getD i []) = 0 then J else bx (v_199 J) (fun p1 => p1)) = J := if_pos k2
      have h2 : (if ¬ J 74 32 = 0 then (J, L) else bx (v_194 J L) (fun p3 => (p3.1, p3.2))) = v_194 J L := by
        rw [if_neg (show ¬ ¬ J 74 32 = 0 from fun q => q hb), bxd]
      have h3 : (if (v_194 J L).1 74 32 = 0 then bx (prc (v_194 J L).1 (v_194 J L).2) (fun p5 => (p5.1, p5.2.1, p5.2.2)) else (0, (v_194 J L).1, (v_194 J L).2)) = W := by
        rw [if_pos hb2, bxd, hW]
      unfold v_198
      rw [bxv h1, bxv h2, bxv h3]
      rfl
    have gg : (bx (if ¬ v_207 W.2.1 W.2.2 59 = 0 then W.2.1 else v_199 W.2.1) (fun p8 => ¬ ¬ p8 74 32 = 0 → g_194 p8 W.2.2)) → g_198 J L (qW J (sByt.getD i [])) := by
      intro q
      have h1 : (if ¬ qW J (sByt.getD i []) = 0 then J else bx (v_199 J) (fun p1 => p1)) = J := if_pos k2
      have h2 : (if ¬ J 74 32 = 0 then (J, L) else bx (v_194 J L) (fun p3 => (p3.1, p3.2))) = v_194 J L := by
        rw [if_neg (show ¬ ¬ J 74 32 = 0 from fun q => q hb), bxd]
      have h3 : (if (v_194 J L).1 74 32 = 0 then bx (prc (v_194 J L).1 (v_194 J L).2) (fun p5 => (p5.1, p5.2.1, p5.2.2)) else (0, (v_194 J L).1, (v_194 J L).2)) = W := by
        rw [if_pos hb2, bxd, hW]
      unfold g_198
      rw [bxw h1]
      refine ⟨fun _ => g2, ?_⟩
      rw [bxw h2]
      refine ⟨fun _ => r2, ?_⟩
      rw [bxw h3]
      exact q
    rw [e95, e198]
    rw [hW] at r3
    refine ⟨fun _ => g1, r1, ?_⟩
    rcases r3 with r3 | ⟨st2, u1, u2⟩
    · have f3 := FT_bad r3
      have fe := ftE r3 (x := 59) (by decide)
      have v0 := v207_F f3 W.2.2 59
      have gn := (v96F r3).2
      rw [fe.1]
      rw [if_neg (show ¬ ¬ v_207 W.2.1 W.2.2 59 = 0 from fun q => q v0), gn] at gg ⊢
      rw [bxp] at gg
      rw [bxd, if_pos f3]
      exact ⟨fe.2, gg (fun q => absurd f3 q), Or.inl r3⟩
    · obtain ⟨s2', cs2, b1, b2, b3, b4, b5, b6⟩ := u2
      have hq32 := b1.2.2.2.2.1
      rcases sgnT b1 s59 with ⟨x1, x2, x3, x4⟩ | ⟨x1, x2⟩
      · obtain ⟨y1, y2, st3, y3, y4, y5⟩ := adv ht b1 x4
        have e59 : v_95 (pcc (v_85 I) t 0) 59 = v_85 (pcc (v_85 I) t 0) := by
          unfold v_95
          rw [if_neg (show ¬ ¬ pcc (v_85 I) t 0 31 4 = 59 from fun q => q x1), bxd]
        rw [e59]
        rw [if_pos x2] at gg ⊢
        rw [bxp] at gg
        rw [bxd, if_neg (show ¬ ¬ W.2.1 74 32 = 0 from fun q => q hq32)]
        refine ⟨fun _ => y1, gg (fun _ => y2), Or.inr ⟨st3, by omega, s2', cs2, y4, by omega, b3, fun k hk => ?_, fun k hk => ?_, b6⟩⟩
        · rw [y5, b4 k hk, s3]
        · rw [y5]; exact b5 k hk
      · have hf := failS b1 ht (by have := b1.2.2.1.1; omega)
        have f3 := FT_bad hf
        have e59 : v_95 (pcc (v_85 I) t 0) 59 = v_96 (pcc (v_85 I) t 0) := by
          unfold v_95
          rw [if_pos x1, bxd]
        rw [e59]
        rw [if_neg (show ¬ ¬ v_207 W.2.1 W.2.2 59 = 0 from fun q => q x2)] at gg ⊢
        rw [bxp] at gg
        rw [bxd, if_pos f3]
        exact ⟨fun q => absurd x1 q, gg (fun q => absurd f3 q), Or.inl hf⟩
  · have hf := failS h ht (by omega)
    have f3 := FT_bad hf
    have e95 : v_95 I (nI (254 + i)) = v_96 I := by
      unfold v_95
      rw [if_pos k1, bxd]
    have p := ftP hf
    have fe := ftE hf (x := 59) (by decide)
    have v0 := v207_F f3 L 59
    have w1 : (if ¬ qW J (sByt.getD i []) = 0 then J else bx (v_199 J) (fun p1 => p1)) = v_199 J := by
      rw [if_neg (show ¬ ¬ qW J (sByt.getD i []) = 0 from fun q => q k2), bxd]
    have w2 : (if ¬ v_199 J 74 32 = 0 then (v_199 J, L) else bx (v_194 (v_199 J) L) (fun p3 => (p3.1, p3.2))) = (v_199 J, L) := if_pos f3
    have w3 : (if (v_199 J, L).1 74 32 = 0 then bx (prc (v_199 J, L).1 (v_199 J, L).2) (fun p5 => (p5.1, p5.2.1, p5.2.2)) else (0, (v_199 J, L).1, (v_199 J, L).2)) = (0, v_199 J, L) := if_neg f3
    have w4 : (if ¬ v_207 (v_199 J) L 59 = 0 then v_199 J else bx (v_199 (v_199 J)) (fun p7 => p7)) = v_199 J := by
      rw [if_neg (show ¬ ¬ v_207 (v_199 J) L 59 = 0 from fun q => q v0), bxd, (v96F hf).2]
    have e198 : v_198 J L (qW J (sByt.getD i [])) = (0, v_199 J, L) := by
      unfold v_198
      rw [bxv w1, bxv w2, bxv w3, bxv w4, if_pos f3]
    rw [e95, p.1, fe.1, e198]
    refine ⟨fun q => absurd k1 q, p.2, fe.2, ?_, Or.inl hf⟩
    unfold g_198
    rw [bxw w1]
    refine ⟨fun q => absurd f3 q, ?_⟩
    rw [bxw w2]
    refine ⟨fun q => absurd q f3, ?_⟩
    rw [bxw w3]
    show bx (if ¬ v_207 (v_199 J) L 59 = 0 then v_199 J else bx (v_199 (v_199 J)) (fun p7 => p7)) _
    rw [bxw w4]
    exact fun q => absurd f3 q
end
