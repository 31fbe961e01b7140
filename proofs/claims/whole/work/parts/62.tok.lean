section
variable {I J : WI} {L : WL} {n r st e : Nat} {T : Nat → Int32}
/-! the token at hand: what the class keeps of it and what the reference keeps -/
def sgn8 (c : Int32) : Prop := c = 40 ∨ c = 41 ∨ c = 59 ∨ c = 43 ∨ c = 45 ∨ c = 42 ∨ c = 60 ∨ c = 61
def nmv : Nat → Int32
  | 0 => -4
  | 1 => -5
  | 2 => -6
  | 3 => -1
  | 4 => -2
  | _ => -3
def Wdd (tk val : Int32) (T : Nat → Int32) (st e : Nat) : Prop := (tk = 259 ∧ ∃ i, i < 6 ∧ Wm T st e (sByt.getD i []) ∧ val = nmv i) ∨ (∃ i, 6 ≤ i ∧ i < 11 ∧ Wm T st e (sByt.getD i []) ∧ tk = nI (254 + i)) ∨ (tk = 257 ∧ ∀ i, i < 11 → ¬ Wm T st e (sByt.getD i []))
def Tk (n : Nat) (T : Nat → Int32) (st : Nat) (I J : WI) (L : WL) : Prop := st ≤ n ∧ I 31 2 = nI st ∧ J 74 29 = nI st ∧
  ((st = n ∧ I 31 4 = 256 ∧ J 74 28 = 0) ∨
   (∃ e, st < e ∧ e ≤ n ∧ I 31 3 = nI e ∧ J 74 27 = nI e ∧ I 31 4 = 258 ∧ J 74 28 = 2 ∧ 0 ≤ (I 31 5).toInt ∧ L 74 30 = Int32.toInt64 (I 31 5)) ∨
   (∃ e, st < e ∧ e ≤ n ∧ I 31 3 = nI e ∧ J 74 27 = nI e ∧ J 74 28 = 1 ∧ (∀ q, st ≤ q → q < e → ¬ T q = 0) ∧ Wdd (I 31 4) (I 31 5) T st e) ∨
   (st < n ∧ sgn8 (T st) ∧ I 31 3 = nI (st + 1) ∧ J 74 27 = nI (st + 1) ∧ I 31 4 = T st ∧ J 74 28 = 3 ∧ L 74 30 = Int32.toInt64 (T st)) ∨
   (st < n ∧ J 74 28 = 4 ∧ (I 31 4 = 257 ∨ (0 ≤ (I 31 4).toInt ∧ (I 31 4).toInt ≤ 255 ∧ ¬ sgn8 (I 31 4)))))
theorem v90_eq (h : bC I n T) (h2 : I 31 2 = nI st) (h3 : I 31 3 = nI e) (hs : st < e) (he : e ≤ n) : (∃ i, i < 6 ∧ Wm T st e (sByt.getD i []) ∧ v_90 I = nmv i ∧ ¬ v_90 I = 0) ∨ (v_90 I = 0 ∧ ∀ i, i < 6 → ¬ Wm T st e (sByt.getD i [])) := by
  have q0 : (v_91 I 1000001 = 1 ∧ Wm T st e (sByt.getD 0 [])) ∨ (v_91 I 1000001 = 0 ∧ ¬ Wm T st e (sByt.getD 0 [])) := v91_eq h h2 h3 hs he (i := 0) (by decide)
  have q1 : (v_91 I 1000002 = 1 ∧ Wm T st e (sByt.getD 1 [])) ∨ (v_91 I 1000002 = 0 ∧ ¬ Wm T st e (sByt.getD 1 [])) := v91_eq h h2 h3 hs he (i := 1) (by decide)
  have q2 : (v_91 I 1000003 = 1 ∧ Wm T st e (sByt.getD 2 [])) ∨ (v_91 I 1000003 = 0 ∧ ¬ Wm T st e (sByt.getD 2 [])) := v91_eq h h2 h3 hs he (i := 2) (by decide)
  have q3 : (v_91 I 1000004 = 1 ∧ Wm T st e (sByt.getD 3 [])) ∨ (v_91 I 1000004 = 0 ∧ ¬ Wm T st e (sByt.getD 3 [])) := v91_eq h h2 h3 hs he (i := 3) (by decide)
  have q4 : (v_91 I 1000005 = 1 ∧ Wm T st e (sByt.getD 4 [])) ∨ (v_91 I 1000005 = 0 ∧ ¬ Wm T st e (sByt.getD 4 [])) := v91_eq h h2 h3 hs he (i := 4) (by decide)
  have q5 : (v_91 I 1000006 = 1 ∧ Wm T st e (sByt.getD 5 [])) ∨ (v_91 I 1000006 = 0 ∧ ¬ Wm T st e (sByt.getD 5 [])) := v91_eq h h2 h3 hs he (i := 5) (by decide)
  unfold v_90
  rcases q0 with ⟨a, b⟩ | ⟨a, b0⟩
  · rw [a, if_neg d10]; exact Or.inl ⟨0, by decide, b, rfl, by decide⟩
  rw [a, if_pos rfl]
  rcases q1 with ⟨a, b⟩ | ⟨a, b1⟩
  · rw [a, if_neg d10]; exact Or.inl ⟨1, by decide, b, rfl, by decide⟩
  rw [a, if_pos rfl]
  rcases q2 with ⟨a, b⟩ | ⟨a, b2⟩
  · rw [a, if_neg d10]; exact Or.inl ⟨2, by decide, b, rfl, by decide⟩
  rw [a, if_pos rfl]
  rcases q3 with ⟨a, b⟩ | ⟨a, b3⟩
  · rw [a, if_neg d10]; exact Or.inl ⟨3, by decide, b, rfl, by decide⟩
  rw [a, if_pos rfl]
  rcases q4 with ⟨a, b⟩ | ⟨a, b4⟩
  · rw [a, if_neg d10]; exact Or.inl ⟨4, by decide, b, rfl, by decide⟩
  rw [a, if_pos rfl]
  rcases q5 with ⟨a, b⟩ | ⟨a, b5⟩
  · rw [a, if_neg d10]; exact Or.inl ⟨5, by decide, b, rfl, by decide⟩
  rw [a, if_pos rfl]
  refine Or.inr ⟨rfl, fun i hi => ?_⟩
  match i, hi with
  | 0, _ => exact b0
  | 1, _ => exact b1
  | 2, _ => exact b2
  | 3, _ => exact b3
  | 4, _ => exact b4
  | 5, _ => exact b5
theorem v92_eq (h : bC I n T) (h2 : I 31 2 = nI st) (h3 : I 31 3 = nI e) (hs : st < e) (he : e ≤ n) : (∃ i, 6 ≤ i ∧ i < 11 ∧ Wm T st e (sByt.getD i []) ∧ v_92 I = nI (254 + i)) ∨ (v_92 I = 257 ∧ ∀ i, 6 ≤ i → i < 11 → ¬ Wm T st e (sByt.getD i [])) := by
  have q0 : (v_91 I 1000007 = 1 ∧ Wm T st e (sByt.getD 6 [])) ∨ (v_91 I 1000007 = 0 ∧ ¬ Wm T st e (sByt.getD 6 [])) := v91_eq h h2 h3 hs he (i := 6) (by decide)
  have q1 : (v_91 I 1000008 = 1 ∧ Wm T st e (sByt.getD 7 [])) ∨ (v_91 I 1000008 = 0 ∧ ¬ Wm T st e (sByt.getD 7 [])) := v91_eq h h2 h3 hs he (i := 7) (by decide)
  have q2 : (v_91 I 1000009 = 1 ∧ Wm T st e (sByt.getD 8 [])) ∨ (v_91 I 1000009 = 0 ∧ ¬ Wm T st e (sByt.getD 8 [])) := v91_eq h h2 h3 hs he (i := 8) (by decide)
  have q3 : (v_91 I 1000010 = 1 ∧ Wm T st e (sByt.getD 9 [])) ∨ (v_91 I 1000010 = 0 ∧ ¬ Wm T st e (sByt.getD 9 [])) := v91_eq h h2 h3 hs he (i := 9) (by decide)
  have q4 : (v_91 I 1000011 = 1 ∧ Wm T st e (sByt.getD 10 [])) ∨ (v_91 I 1000011 = 0 ∧ ¬ Wm T st e (sByt.getD 10 [])) := v91_eq h h2 h3 hs he (i := 10) (by decide)
  unfold v_92
  rcases q0 with ⟨a, b⟩ | ⟨a, b0⟩
  · rw [a, if_neg d10]; exact Or.inl ⟨6, by decide, by decide, b, rfl⟩
  rw [a, if_pos rfl]
  rcases q1 with ⟨a, b⟩ | ⟨a, b1⟩
  · rw [a, if_neg d10]; exact Or.inl ⟨7, by decide, by decide, b, rfl⟩
  rw [a, if_pos rfl]
  rcases q2 with ⟨a, b⟩ | ⟨a, b2⟩
  · rw [a, if_neg d10]; exact Or.inl ⟨8, by decide, by decide, b, rfl⟩
  rw [a, if_pos rfl]
  rcases q3 with ⟨a, b⟩ | ⟨a, b3⟩
  · rw [a, if_neg d10]; exact Or.inl ⟨9, by decide, by decide, b, rfl⟩
  rw [a, if_pos rfl]
  rcases q4 with ⟨a, b⟩ | ⟨a, b4⟩
  · rw [a, if_neg d10]; exact Or.inl ⟨10, by decide, by decide, b, rfl⟩
  rw [a, if_pos rfl]
  refine Or.inr ⟨rfl, fun i h1 hi => ?_⟩
  match i, h1, hi with
  | 6, _, _ => exact b0
  | 7, _, _ => exact b1
  | 8, _, _ => exact b2
  | 9, _, _ => exact b3
  | 10, _, _ => exact b4
theorem g_90_92 (h : I 31 2 = nI st) (hs : st ≤ 160) : g_90 I ∧ g_92 I := by
  have g := g91 h hs
  exact ⟨⟨g, fun _ => ⟨g, fun _ => ⟨g, fun _ => ⟨g, fun _ => ⟨g, fun _ => g⟩⟩⟩⟩⟩, ⟨g, fun _ => ⟨g, fun _ => ⟨g, fun _ => ⟨g, fun _ => g⟩⟩⟩⟩⟩
theorem scan_1 {c : Nat → Bool} {d p : Nat} (h : c p = true) (hd : 0 < d) : p < scan c d p := by
  obtain ⟨d, rfl⟩ : ∃ q, d = q + 1 := ⟨d - 1, by omega⟩
  have e : scan c (d + 1) p = if c p = true then scan c d (p + 1) else p := rfl
  rw [e, if_pos h]
  have := (scan_le c d (p + 1)).1
  omega
/-- the next token, of both -/
theorem lex {p : Nat} (hC : bC I n T) (hR : bR J r n T) (h3 : I 31 3 = nI p) (h27 : J 74 27 = nI p) (hp : p ≤ n) : g_85 I ∧ g_194 J L ∧ ∃ st, p ≤ st ∧ Tk n T st (v_85 I) (v_194 J L).1 (v_194 J L).2 := by
  have h160 := hC.1
  obtain ⟨sc1, sg1⟩ := skipC (n - p) p 400 I (by omega) (by omega) hC h3
  obtain ⟨sr1, sg2⟩ := skipR (n - p) p 400 J (by omega) (by omega) hR h27
  have hst := scan_le (cB n T) (n - p) p
  have hend := scan_end (cB n T) (n - p) p
  obtain ⟨st, est⟩ : ∃ st, st = scan (cB n T) (n - p) p := ⟨_, rfl⟩
  rw [← est] at sc1 sr1 hst hend
  obtain ⟨A, hA⟩ : ∃ A, A = up2 (up2 I 31 3 (nI st)) 31 2 (nI st) := ⟨_, rfl⟩
  obtain ⟨B, hB⟩ : ∃ B, B = up2 (up2 J 74 27 (nI st)) 74 29 (nI st) := ⟨_, rfl⟩
  have hAC : bC A n T := by rw [hA]; exact bC_cg hC (fun c k hh => (up2_nk (by omega)).trans (up2_nk (by omega)))
  have hBR : bR B r n T := by rw [hB]; exact bR_cg hR (fun c k hh => (up2_nk (by omega)).trans (up2_nk (by omega)))
  have a2 : A 31 2 = nI st := by rw [hA]; simp [up2]
  have a3 : A 31 3 = nI st := by rw [hA]; exact (up2_nk (by omega)).trans (by simp [up2])
  have b29 : B 74 29 = nI st := by rw [hB]; simp [up2]
  have b27 : B 74 27 = nI st := by rw [hB]; exact (up2_nk (by omega)).trans (by simp [up2])
  have hvA := v86 hAC (p := st) (by omega)
  have hvB := v195 hBR (p := st) (by omega)
  have e3 : up2 I 31 3 (nI st) 31 3 = nI st := by simp [up2]
  have e27 : up2 J 74 27 (nI st) 74 27 = nI st := by simp [up2]
  have bu : ∀ x, bR (up2 B 74 28 x) r n T := fun x => bR_cg hBR (fun c k hh => up2_nk (by omega))
  have bu2 : ∀ x y, bR (up2 (up2 B 74 28 x) 74 28 y) r n T := fun x y => bR_cg (bu x) (fun c k hh => up2_nk (by omega))
  have eC : v_85 I = if ¬ v_86 A (nI st) = (-1) then (if v_88 (v_86 A (nI st)) = 0 then (if v_93 (v_86 A (nI st)) = 0 then up2 (up2 A 31 3 (nI st + 1)) 31 4 (v_86 A (nI st)) else v_94 A) else v_89 A) else up2 A 31 4 256 := by
    unfold v_85
    rw [sc1]
    dsimp only [bx]
    rw [e3, ← hA, a3]
  have gC : g_85 I = (gl_85_0 400 I ∧ g_86 A (nI st) ∧ (¬ v_86 A (nI st) = (-1) → ((v_88 (v_86 A (nI st)) = 0 → (¬ v_93 (v_86 A (nI st)) = 0 → g_94 A)) ∧ (¬ v_88 (v_86 A (nI st)) = 0 → g_89 A)))) := by
    unfold g_85
    rw [sc1]
    dsimp only [bx]
    rw [e3, ← hA]
  rw [eC, gC]
  have gR : g_194 J L = (gl_194_0 400 J ∧ g_195 B (nI st) ∧ ((0 ≤ v_195 B (nI st)) → (((v_170 (Int32.toInt64 (v_195 B (nI st))) 97 122 = 0) → (¬ v_170 (Int32.toInt64 (v_195 B (nI st))) 48 57 = 0 → gl_194_160 400 0 (up2 (up2 B 74 28 4) 74 28 2) (up2 L 74 30 0))) ∧ (¬ v_170 (Int32.toInt64 (v_195 B (nI st))) 97 122 = 0 → gl_194_100 400 (up2 (up2 B 74 28 4) 74 28 1))))) := by
    unfold g_194
    rw [sr1]
    dsimp only [bx]
    rw [e27, ← hB]
  rw [gR, hvA.1, hvB.1, l97.1, l97.2.1, l97.2.2.1, l97.2.2.2, v170_107, v170_107]
  have eR : v_194 J L = if 0 ≤ v_195 B (nI st) then (if v_170 (Int32.toInt64 (v_195 B (nI st))) 97 122 = 0 then (if v_170 (Int32.toInt64 (v_195 B (nI st))) 48 57 = 0 then
      (if v_195 B (nI st) = 40 then (up2 (up2 (up2 B 74 28 4) 74 28 3) 74 27 (up2 B 74 28 4 74 27 + 1), up2 L 74 30 (Int32.toInt64 (v_195 B (nI st)))) else
       if v_195 B (nI st) = 41 then (up2 (up2 (up2 B 74 28 4) 74 28 3) 74 27 (up2 B 74 28 4 74 27 + 1), up2 L 74 30 (Int32.toInt64 (v_195 B (nI st)))) else
       if v_195 B (nI st) = 59 then (up2 (up2 (up2 B 74 28 4) 74 28 3) 74 27 (up2 B 74 28 4 74 27 + 1), up2 L 74 30 (Int32.toInt64 (v_195 B (nI st)))) else
       if v_195 B (nI st) = 43 then (up2 (up2 (up2 B 74 28 4) 74 28 3) 74 27 (up2 B 74 28 4 74 27 + 1), up2 L 74 30 (Int32.toInt64 (v_195 B (nI st)))) else
       if v_195 B (nI st) = 45 then (up2 (up2 (up2 B 74 28 4) 74 28 3) 74 27 (up2 B 74 28 4 74 27 + 1), up2 L 74 30 (Int32.toInt64 (v_195 B (nI st)))) else
       if v_195 B (nI st) = 42 then (up2 (up2 (up2 B 74 28 4) 74 28 3) 74 27 (up2 B 74 28 4 74 27 + 1), up2 L 74 30 (Int32.toInt64 (v_195 B (nI st)))) else
       if v_195 B (nI st) = 60 then (up2 (up2 (up2 B 74 28 4) 74 28 3) 74 27 (up2 B 74 28 4 74 27 + 1), up2 L 74 30 (Int32.toInt64 (v_195 B (nI st)))) else
       if ¬ v_195 B (nI st) = 61 then (up2 B 74 28 4, L) else (up2 (up2 (up2 B 74 28 4) 74 28 3) 74 27 (up2 B 74 28 4 74 27 + 1), up2 L 74 30 (Int32.toInt64 (v_195 B (nI st)))))
      else bx (lp_194_160 400 0 (up2 (up2 B 74 28 4) 74 28 2) (up2 L 74 30 0)) (fun p3 => bx ((if p3.1 ≤ 4 then 2 else 4) : Int32) (fun p4 => (up2 p3.2.1 74 28 p4, p3.2.2))))
     else bx (lp_194_100 400 (up2 (up2 B 74 28 4) 74 28 1)) (fun p5 => (p5, L)))
    else (up2 (up2 (up2 B 74 28 4) 74 28 0) 74 29 (up2 B 74 28 4 74 26), L) := by
    unfold v_194
    rw [sr1]
    dsimp only [bx]
    rw [e27, ← hB]
  rw [eR, hvB.1, l97.1, l97.2.1, l97.2.2.1, l97.2.2.2, v170_107, v170_107]
  by_cases hn : st = n
  · -- the end
    have hb : BY n T st = -1 := BY_n (by omega)
    rw [hb, if_neg (fun q => q rfl), if_neg (show ¬ (0 : Int32) ≤ -1 by decide)]
    refine ⟨⟨sg1, hvA.2, fun q => absurd rfl q⟩, ⟨sg2, hvB.2, fun q => absurd q (by decide)⟩, st, hst.1, by omega, (up2_nk (by omega)).trans a2, ?_, Or.inl ⟨hn, by simp [up2], ?_⟩⟩
    · show up2 (up2 (up2 B 74 28 4) 74 28 0) 74 29 (up2 B 74 28 4 74 26) 74 29 = _
      rw [show up2 B 74 28 4 74 26 = nI n from (up2_nk (by omega)).trans hBR.2.2.2.1, hn]
      simp [up2]
    · show up2 (up2 (up2 B 74 28 4) 74 28 0) 74 29 (up2 B 74 28 4 74 26) 74 28 = 0
      exact (up2_nk (by omega)).trans (by simp [up2])
  · have hlt : st < n := by omega
    have hb : BY n T st = T st := if_pos hlt
    have hbt := (hC.2.2 st hlt).2
    have t0 : (0 : Int32).toInt = 0 ∧ (-1 : Int32).toInt = -1 := by decide
    have hge : (0 : Int32) ≤ T st := by rw [Int32.le_iff_toInt_le, t0.1]; exact hbt.1
    have hne : ¬ T st = -1 := fun q => by
      have := hbt.1
      rw [q, t0.2] at this
      omega
    rw [hb, if_pos hne, if_pos hge]
    have hv88 : v_88 (T st) = v_107 (T st) 97 122 := rfl
    have hv93 : v_93 (T st) = v_107 (T st) 48 57 := rfl
    rw [hv88, hv93]
    by_cases cw : v_107 (T st) 97 122 = 0
    · rw [if_pos cw, if_pos cw]
      by_cases cd : v_107 (T st) 48 57 = 0
      · -- a sign, or nothing
        rw [if_pos cd, if_pos cd]
        refine ⟨⟨sg1, hvA.2, fun _ => ⟨fun _ q => absurd cd q, fun q => absurd cw q⟩⟩, ⟨sg2, hvB.2, fun _ => ⟨fun _ q => absurd cd q, fun q => absurd cw q⟩⟩, st, hst.1, by omega, (up2_nk (by omega)).trans ((up2_nk (by omega)).trans a2), ?_⟩
        have x29 : ∀ a b : Int32, up2 (up2 (up2 B 74 28 4) 74 28 a) 74 27 b 74 29 = nI st := fun a b => (up2_nk (by omega)).trans ((up2_nk (by omega)).trans ((up2_nk (by omega)).trans b29))
        have x27 : up2 B 74 28 4 74 27 + 1 = nI (st + 1) := by rw [show up2 B 74 28 4 74 27 = nI st from (up2_nk (by omega)).trans b27, nI_1]
        have y3 : ∀ x, up2 (up2 A 31 3 (nI st + 1)) 31 4 x 31 3 = nI (st + 1) := fun x => (up2_nk (by omega)).trans (by simp [up2, nI_1])
        have y4 : ∀ x, up2 (up2 A 31 3 (nI st + 1)) 31 4 x 31 4 = x := fun x => by simp [up2]
        by_cases hs : sgn8 (T st)
        · have hr : (if T st = 40 then (up2 (up2 (up2 B 74 28 4) 74 28 3) 74 27 (up2 B 74 28 4 74 27 + 1), up2 L 74 30 (Int32.toInt64 (T st))) else
       if T st = 41 then (up2 (up2 (up2 B 74 28 4) 74 28 3) 74 27 (up2 B 74 28 4 74 27 + 1), up2 L 74 30 (Int32.toInt64 (T st))) else
       if T st = 59 then (up2 (up2 (up2 B 74 28 4) 74 28 3) 74 27 (up2 B 74 28 4 74 27 + 1), up2 L 74 30 (Int32.toInt64 (T st))) else
       if T st = 43 then (up2 (up2 (up2 B 74 28 4) 74 28 3) 74 27 (up2 B 74 28 4 74 27 + 1), up2 L 74 30 (Int32.toInt64 (T st))) else
       if T st = 45 then (up2 (up2 (up2 B 74 28 4) 74 28 3) 74 27 (up2 B 74 28 4 74 27 + 1), up2 L 74 30 (Int32.toInt64 (T st))) else
       if T st = 42 then (up2 (up2 (up2 B 74 28 4) 74 28 3) 74 27 (up2 B 74 28 4 74 27 + 1), up2 L 74 30 (Int32.toInt64 (T st))) else
       if T st = 60 then (up2 (up2 (up2 B 74 28 4) 74 28 3) 74 27 (up2 B 74 28 4 74 27 + 1), up2 L 74 30 (Int32.toInt64 (T st))) else
       if ¬ T st = 61 then (up2 B 74 28 4, L) else (up2 (up2 (up2 B 74 28 4) 74 28 3) 74 27 (up2 B 74 28 4 74 27 + 1), up2 L 74 30 (Int32.toInt64 (T st)))) = (up2 (up2 (up2 B 74 28 4) 74 28 3) 74 27 (nI (st + 1)), up2 L 74 30 (Int32.toInt64 (T st))) := by
            rw [x27]
            rcases hs with q | q | q | q | q | q | q | q <;> rw [q] <;> rfl
          rw [hr]
          refine ⟨x29 3 (nI (st + 1)), Or.inr (Or.inr (Or.inr (Or.inl ⟨hlt, hs, y3 _, ?_, y4 _, ?_, ?_⟩)))⟩
          · simp [up2]
          · show up2 (up2 (up2 B 74 28 4) 74 28 3) 74 27 (nI (st + 1)) 74 28 = 3
            exact (up2_nk (by omega)).trans (by simp [up2])
          · simp [up2]
        · have s1 : ¬ T st = 40 := fun q => hs (Or.inl q)
          have s2 : ¬ T st = 41 := fun q => hs (Or.inr (Or.inl q))
          have s3 : ¬ T st = 59 := fun q => hs (Or.inr (Or.inr (Or.inl q)))
          have s4 : ¬ T st = 43 := fun q => hs (Or.inr (Or.inr (Or.inr (Or.inl q))))
          have s5 : ¬ T st = 45 := fun q => hs (Or.inr (Or.inr (Or.inr (Or.inr (Or.inl q)))))
          have s6 : ¬ T st = 42 := fun q => hs (Or.inr (Or.inr (Or.inr (Or.inr (Or.inr (Or.inl q))))))
          have s7 : ¬ T st = 60 := fun q => hs (Or.inr (Or.inr (Or.inr (Or.inr (Or.inr (Or.inr (Or.inl q)))))))
          have s8 : ¬ T st = 61 := fun q => hs (Or.inr (Or.inr (Or.inr (Or.inr (Or.inr (Or.inr (Or.inr q)))))))
          rw [if_neg s1, if_neg s2, if_neg s3, if_neg s4, if_neg s5, if_neg s6, if_neg s7, if_pos s8]
          refine ⟨show up2 B 74 28 4 74 29 = nI st from (up2_nk (by omega)).trans b29, Or.inr (Or.inr (Or.inr (Or.inr ⟨hlt, by simp [up2], Or.inr ?_⟩)))⟩
          rw [y4]
          exact ⟨hbt.1, hbt.2, hs⟩
      · -- a number
        rw [if_neg cd, if_neg cd]
        have cdt : cD n T st = true := decide_eq_true (by rw [hb]; exact cd)
        have hA5 : bC (up2 A 31 5 0) n T := bC_cg hAC (fun c k hh => up2_nk (by omega))
        obtain ⟨e, c1, c2, c3⟩ := numC (st := st) (n - st) 0 400 (up2 A 31 5 0) (by omega) (by omega) hA5 ((up2_nk (by omega)).trans a2) ((up2_nk (by omega)).trans a3) (by simp [up2]; rfl)
        obtain ⟨e', r1, r2, r3, r4⟩ := numR (st := st) (n - st) 0 400 (up2 (up2 B 74 28 4) 74 28 2) (up2 L 74 30 0) (by omega) (by omega) (bu2 4 2) ((up2_nk (by omega)).trans ((up2_nk (by omega)).trans b27)) (by simp [up2]; rfl) (fun j hj => by omega)
        have ee : e' = e := by omega
        subst ee
        have hgt := scan_1 (c := cD n T) (d := n - st) (p := st) cdt (by omega)
        have hle := scan_le (cD n T) (n - st) st
        rw [Nat.add_zero] at c2
        rw [← c2] at hgt hle
        have hsub : nI (st + e') - nI st = nI e' := by
          refine Int32.toInt_inj.mp ?_
          rw [ti_sub (by rw [nI_toInt (by omega), nI_toInt (by omega)]; omega) (by rw [nI_toInt (by omega), nI_toInt (by omega)]; omega), nI_toInt (by omega), nI_toInt (by omega), nI_toInt (by omega)]
          omega
        have k4 : nI e' ≤ 4 ↔ e' ≤ 4 := nI_leI (b := 4) (by omega) (by omega)
        have e94 : v_94 A = up2 (up2 (up2 (up2 A 31 5 0) 31 5 (nv T st e')) 31 3 (nI (st + e'))) 31 4 (if nI e' ≤ 4 then 258 else 257) := by
          unfold v_94
          rw [c1]
          dsimp only [bx]
          have z3 : up2 (up2 (up2 A 31 5 0) 31 5 (nv T st e')) 31 3 (nI (st + e')) 31 3 = nI (st + e') := by simp [up2]
          have z2 : up2 (up2 (up2 A 31 5 0) 31 5 (nv T st e')) 31 3 (nI (st + e')) 31 2 = nI st := (up2_nk (by omega)).trans ((up2_nk (by omega)).trans ((up2_nk (by omega)).trans a2))
          rw [z3, z2, hsub]
        have hnv := nv_bt e' r4
        rw [show nI 0 = (0 : Int32) from rfl] at r1 r3
        rw [e94, r1]
        dsimp only [bx]
        refine ⟨⟨sg1, hvA.2, fun _ => ⟨fun _ _ => c3, fun q => absurd cw q⟩⟩, ⟨sg2, hvB.2, fun _ => ⟨fun _ _ => r3, fun q => absurd cw q⟩⟩, st, hst.1, by omega, ?_, ?_, ?_⟩
        · exact (up2_nk (by omega)).trans ((up2_nk (by omega)).trans ((up2_nk (by omega)).trans ((up2_nk (by omega)).trans a2)))
        · exact (up2_nk (by omega)).trans ((up2_nk (by omega)).trans ((up2_nk (by omega)).trans ((up2_nk (by omega)).trans b29)))
        · by_cases c : e' ≤ 4
          · rw [if_pos (k4.mpr c), if_pos (k4.mpr c)]
            refine Or.inr (Or.inl ⟨st + e', hgt, by omega, ?_, ?_, by simp [up2], by simp [up2], ?_, ?_⟩)
            · exact (up2_nk (by omega)).trans (by simp [up2])
            · exact (up2_nk (by omega)).trans (by simp [up2])
            · have : up2 (up2 (up2 (up2 A 31 5 0) 31 5 (nv T st e')) 31 3 (nI (st + e'))) 31 4 258 31 5 = nv T st e' := (up2_nk (by omega)).trans ((up2_nk (by omega)).trans (by simp [up2]))
              rw [this]
              exact hnv.1.1
            · have : up2 (up2 (up2 (up2 A 31 5 0) 31 5 (nv T st e')) 31 3 (nI (st + e'))) 31 4 258 31 5 = nv T st e' := (up2_nk (by omega)).trans ((up2_nk (by omega)).trans (by simp [up2]))
              rw [this]
              simp [up2]
          · rw [if_neg (fun q => c (k4.mp q)), if_neg (fun q => c (k4.mp q))]
            exact Or.inr (Or.inr (Or.inr (Or.inr ⟨hlt, by simp [up2], Or.inl (by simp [up2])⟩)))
    · -- a word
      rw [if_neg cw, if_neg cw]
      have cwt : cW n T st = true := decide_eq_true (by rw [hb]; exact cw)
      obtain ⟨c1, c3⟩ := wordC (n - st) st 400 A (by omega) (by omega) hAC a3
      obtain ⟨r1, r3⟩ := wordR (n - st) st 400 (up2 (up2 B 74 28 4) 74 28 1) (by omega) (by omega) (bu2 4 1) ((up2_nk (by omega)).trans ((up2_nk (by omega)).trans b27))
      have hgt := scan_1 (c := cW n T) (d := n - st) (p := st) cwt (by omega)
      have hle := scan_le (cW n T) (n - st) st
      have hall := scan_all (cW n T) (n - st) st
      obtain ⟨e, ee⟩ : ∃ e, e = scan (cW n T) (n - st) st := ⟨_, rfl⟩
      rw [← ee] at c1 r1 hgt hle hall
      obtain ⟨D, hD⟩ : ∃ D, D = up2 A 31 3 (nI e) := ⟨_, rfl⟩
      have hDC : bC D n T := by rw [hD]; exact bC_cg hAC (fun c k hh => up2_nk (by omega))
      have d2 : D 31 2 = nI st := by rw [hD]; exact (up2_nk (by omega)).trans a2
      have d3 : D 31 3 = nI e := by rw [hD]; simp [up2]
      have e89 : v_89 A = up2 (up2 D 31 5 (v_90 D)) 31 4 (if ¬ v_90 D = 0 then 259 else v_92 (up2 D 31 5 (v_90 D))) := by
        unfold v_89
        rw [c1, ← hD]
        rfl
      have g89 : g_89 A := by
        unfold g_89
        refine ⟨c3, ?_⟩
        rw [c1, ← hD]
        dsimp only [bx]
        exact ⟨(g_90_92 d2 (by omega)).1, fun _ => (g_90_92 (I := up2 D 31 5 (v_90 D)) ((up2_nk (by omega)).trans d2) (by omega)).2⟩
      rw [e89, r1]
      dsimp only [bx]
      refine ⟨⟨sg1, hvA.2, fun _ => ⟨fun q => absurd q cw, fun _ => g89⟩⟩, ⟨sg2, hvB.2, fun _ => ⟨fun q => absurd q cw, fun _ => r3⟩⟩, st, hst.1, by omega, ?_, ?_, Or.inr (Or.inr (Or.inl ⟨e, hgt, by omega, ?_, by simp [up2], ?_, fun q q1 q2 z => ?_, ?_⟩))⟩
      · exact (up2_nk (by omega)).trans ((up2_nk (by omega)).trans d2)
      · exact (up2_nk (by omega)).trans ((up2_nk (by omega)).trans ((up2_nk (by omega)).trans b29))
      · exact (up2_nk (by omega)).trans ((up2_nk (by omega)).trans d3)
      · exact (up2_nk (by omega)).trans (by simp [up2])
      · have := (cW_let (hall q q1 q2)).2.1
        rw [z, t0.1] at this
        omega
      · have z4 : ∀ x, up2 (up2 D 31 5 (v_90 D)) 31 4 x 31 4 = x := fun x => by simp [up2]
        have z5 : ∀ x, up2 (up2 D 31 5 (v_90 D)) 31 4 x 31 5 = v_90 D := fun x => (up2_nk (by omega)).trans (by simp [up2])
        rw [z4, z5]
        rcases v90_eq hDC d2 d3 hgt (by omega) with ⟨i, i1, i2, i3, i4⟩ | ⟨i1, i2⟩
        · rw [if_pos i4]
          exact Or.inl ⟨rfl, i, i1, i2, i3⟩
        · rw [if_neg (fun q => q i1)]
          rcases v92_eq (I := up2 D 31 5 (v_90 D)) (bC_cg hDC (fun c k hh => up2_nk (by omega))) ((up2_nk (by omega)).trans d2) ((up2_nk (by omega)).trans d3) hgt (by omega) with ⟨i, j1, j2, j3, j4⟩ | ⟨j1, j2⟩
          · exact Or.inr (Or.inl ⟨i, j1, j2, j3, j4⟩)
          · refine Or.inr (Or.inr ⟨j1, fun i hi => ?_⟩)
            by_cases c : i < 6
            · exact i2 i c
            · exact j2 i (by omega) hi
end
