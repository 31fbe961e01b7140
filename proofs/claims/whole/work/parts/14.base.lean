section
abbrev WI : Type := Nat → Nat → Int32
abbrev WF : Type := Nat → Nat → UInt32
abbrev WL : Type := Nat → Nat → Int64
/-- a value that is named -/
def bx {α : Type} {β : Sort _} (a : α) (f : α → β) : β := f a
theorem bx_eq {α β : Type} {r a : α} {f : α → β} {T : β} (hr : r = a) (he : bx a f = T) : f r = T := by subst hr; exact he
theorem bx_un {α : Type} {r a : α} {f : α → Prop} (hr : r = a) (hg : bx a f) : f r := by subst hr; exact hg
theorem ite_p {α : Type} {c : Prop} [Decidable c] {a b T : α} (h : c) (he : (if c then a else b) = T) : a = T := by rw [if_pos h] at he; exact he
theorem ite_n {α : Type} {c : Prop} [Decidable c] {a b T : α} (h : ¬ c) (he : (if c then a else b) = T) : b = T := by rw [if_neg h] at he; exact he
theorem Wp_eq {α : Type} {l : LX} {id d mc ms : Nat} {post : α → RP} {a b : α} {cc ss pc : Nat} {lv : List (Nat × Value)} {st : List Value} {sh : List Sh} {w : Wd} (he : a = b) (k : Wp l id d mc ms (post a) cc ss pc lv st sh w) : Wp l id d mc ms (post b) cc ss pc lv st sh w := by subst he; exact k
theorem isH_at {x : Int32} (h : vp_in x 4) : isH (58 + 4 * x.toNatClampNeg) := by
  have h2 : x.toNatClampNeg < 4 := Nat.lt_of_not_le fun e => h (Or.inr e)
  unfold isH; omega
theorem isT_at {x : Int32} (h : vp_in x 6) : isT (45 + 2 * x.toNatClampNeg) := by
  have h2 : x.toNatClampNeg < 6 := Nat.lt_of_not_le fun e => h (Or.inr e)
  unfold isT; omega
theorem RT_at57 {t : Nat} {x : Int32} (h : vp_in x 4) : RT t 57 x.toNatClampNeg = some (58 + 4 * x.toNatClampNeg) := by
  have h2 : x.toNatClampNeg < 4 := Nat.lt_of_not_le fun e => h (Or.inr e)
  unfold RT rtab
  simp [h2]
theorem RT_at44 {t : Nat} {x : Int32} (h : vp_in x 6) : RT t 44 x.toNatClampNeg = some (45 + 2 * x.toNatClampNeg) := by
  have h2 : x.toNatClampNeg < 6 := Nat.lt_of_not_le fun e => h (Or.inr e)
  unfold RT rtab
  simp [h2]
theorem rl_p_I {z T : Int32} {w : Wd} (he : z = T) : rI T w (some (.int z)) SH w := ⟨by rw [he], rfl, rfl⟩
theorem rl_p_J {z T : Int64} {w : Wd} (he : z = T) : rL T w (some (.long z)) SH w := ⟨by rw [he], rfl, rfl⟩
theorem rl_p_F {z T : UInt32} {w : Wd} (he : z = T) : rF T w (some (.float z)) SH w := ⟨by rw [he], rfl, rfl⟩
theorem rl_p_R {z T : Nat} {w : Wd} (he : z = T) : rR T w (some (.ref z)) SH w := ⟨by rw [he], rfl, rfl⟩
/-- a counted loop's test, from another beginning, or up to the bound -/
theorem aI_toInt {a : Int32} {k : Nat} (h : a.toInt + (k : Int) < 2 ^ 31) : (a + nI k).toInt = a.toInt + k := by
  have h2 := Int32.le_toInt a
  show (a + Int32.ofNat k).toInt = _
  rw [Int32.toInt_add, Int32.toInt_ofNat', show Int32.size = 2 ^ 32 from rfl, Int.add_bmod_bmod]
  exact Int.bmod_eq_of_le (by omega) (by omega)
theorem cl_ge {E a : Int32} {k : Nat} (hk : k ≤ (E.toInt - a.toInt).toNat) : E ≤ a + nI k ↔ k = (E.toInt - a.toInt).toNat := by
  have h1 := Int32.toInt_lt E
  have h2 := Int32.le_toInt a
  have h3 := Int32.toInt_lt a
  have h4 := Int32.le_toInt E
  rw [Int32.le_iff_toInt_le, aI_toInt (by omega)]
  omega
theorem cl_gt {E a : Int32} {k : Nat} (hE : E.toInt < 2147483647) (hk : k ≤ (E.toInt + 1 - a.toInt).toNat) : E < a + nI k ↔ k = (E.toInt + 1 - a.toInt).toNat := by
  have h1 := Int32.toInt_lt E
  have h2 := Int32.le_toInt a
  have h3 := Int32.toInt_lt a
  have h4 := Int32.le_toInt E
  rw [Int32.lt_iff_toInt_lt, aI_toInt (by omega)]
  omega
theorem cl_gt0 {E : Int32} {k : Nat} (hE : E.toInt < 2147483647) (hk : k ≤ (E.toInt + 1 - (0 : Int32).toInt).toNat) : E < nI k ↔ k = (E.toInt + 1 - (0 : Int32).toInt).toNat := by
  have h := cl_gt hE hk
  rw [Int32.zero_add] at h
  exact h
def po_I_F (I : WI) (L : WL) (t : Nat) (r : Int32 × WF) : RP := rI r.1 (I, r.2, L, RT t)
theorem rl_I_F {z : Int32} {F1 : WF} {I : WI} {L : WL} {t : Nat} {T : Int32 × WF} (he : (z, F1) = T) : po_I_F I L t T (some (.int z)) SH (I, F1, L, RT t) := by subst he; exact ⟨rfl, rfl, rfl⟩
theorem cq_I_F {l : LX} {k d : Nat} {as : List Value} {w : Wd} {I : WI} {L : WL} {t : Nat} {r0 : Int32 × WF} (h : Con l k d 0 0 as SH w (po_I_F I L t r0)) : Con l k d 0 0 as SH w (rIQ (fun z I1 F1 L1 t1 => ∃ r : Int32 × WF, r = r0 ∧ r.1 = z ∧ I = I1 ∧ r.2 = F1 ∧ L = L1 ∧ t = t1)) :=
  Con_mono (fun v s1 w1 h => ⟨r0.1, I, r0.2, L, t, h.1, h.2.1, h.2.2, r0, rfl, rfl, rfl, rfl, rfl, rfl⟩) h
def po_I_I (F : WF) (L : WL) (t : Nat) (r : Int32 × WI) : RP := rI r.1 (r.2, F, L, RT t)
theorem rl_I_I {z : Int32} {I1 : WI} {F : WF} {L : WL} {t : Nat} {T : Int32 × WI} (he : (z, I1) = T) : po_I_I F L t T (some (.int z)) SH (I1, F, L, RT t) := by subst he; exact ⟨rfl, rfl, rfl⟩
theorem cq_I_I {l : LX} {k d : Nat} {as : List Value} {w : Wd} {F : WF} {L : WL} {t : Nat} {r0 : Int32 × WI} (h : Con l k d 0 0 as SH w (po_I_I F L t r0)) : Con l k d 0 0 as SH w (rIQ (fun z I1 F1 L1 t1 => ∃ r : Int32 × WI, r = r0 ∧ r.1 = z ∧ r.2 = I1 ∧ F = F1 ∧ L = L1 ∧ t = t1)) :=
  Con_mono (fun v s1 w1 h => ⟨r0.1, r0.2, F, L, t, h.1, h.2.1, h.2.2, r0, rfl, rfl, rfl, rfl, rfl, rfl⟩) h
def po_I_IF (L : WL) (t : Nat) (r : Int32 × WI × WF) : RP := rI r.1 (r.2.1, r.2.2, L, RT t)
theorem rl_I_IF {z : Int32} {I1 : WI} {F1 : WF} {L : WL} {t : Nat} {T : Int32 × WI × WF} (he : (z, I1, F1) = T) : po_I_IF L t T (some (.int z)) SH (I1, F1, L, RT t) := by subst he; exact ⟨rfl, rfl, rfl⟩
theorem cq_I_IF {l : LX} {k d : Nat} {as : List Value} {w : Wd} {L : WL} {t : Nat} {r0 : Int32 × WI × WF} (h : Con l k d 0 0 as SH w (po_I_IF L t r0)) : Con l k d 0 0 as SH w (rIQ (fun z I1 F1 L1 t1 => ∃ r : Int32 × WI × WF, r = r0 ∧ r.1 = z ∧ r.2.1 = I1 ∧ r.2.2 = F1 ∧ L = L1 ∧ t = t1)) :=
  Con_mono (fun v s1 w1 h => ⟨r0.1, r0.2.1, r0.2.2, L, t, h.1, h.2.1, h.2.2, r0, rfl, rfl, rfl, rfl, rfl, rfl⟩) h
def po_I_IFL (t : Nat) (r : Int32 × WI × WF × WL) : RP := rI r.1 (r.2.1, r.2.2.1, r.2.2.2, RT t)
theorem rl_I_IFL {z : Int32} {I1 : WI} {F1 : WF} {L1 : WL} {t : Nat} {T : Int32 × WI × WF × WL} (he : (z, I1, F1, L1) = T) : po_I_IFL t T (some (.int z)) SH (I1, F1, L1, RT t) := by subst he; exact ⟨rfl, rfl, rfl⟩
theorem cq_I_IFL {l : LX} {k d : Nat} {as : List Value} {w : Wd} {t : Nat} {r0 : Int32 × WI × WF × WL} (h : Con l k d 0 0 as SH w (po_I_IFL t r0)) : Con l k d 0 0 as SH w (rIQ (fun z I1 F1 L1 t1 => ∃ r : Int32 × WI × WF × WL, r = r0 ∧ r.1 = z ∧ r.2.1 = I1 ∧ r.2.2.1 = F1 ∧ r.2.2.2 = L1 ∧ t = t1)) :=
  Con_mono (fun v s1 w1 h => ⟨r0.1, r0.2.1, r0.2.2.1, r0.2.2.2, t, h.1, h.2.1, h.2.2, r0, rfl, rfl, rfl, rfl, rfl, rfl⟩) h
def po_I_IL (F : WF) (t : Nat) (r : Int32 × WI × WL) : RP := rI r.1 (r.2.1, F, r.2.2, RT t)
theorem rl_I_IL {z : Int32} {I1 : WI} {L1 : WL} {F : WF} {t : Nat} {T : Int32 × WI × WL} (he : (z, I1, L1) = T) : po_I_IL F t T (some (.int z)) SH (I1, F, L1, RT t) := by subst he; exact ⟨rfl, rfl, rfl⟩
theorem cq_I_IL {l : LX} {k d : Nat} {as : List Value} {w : Wd} {F : WF} {t : Nat} {r0 : Int32 × WI × WL} (h : Con l k d 0 0 as SH w (po_I_IL F t r0)) : Con l k d 0 0 as SH w (rIQ (fun z I1 F1 L1 t1 => ∃ r : Int32 × WI × WL, r = r0 ∧ r.1 = z ∧ r.2.1 = I1 ∧ F = F1 ∧ r.2.2 = L1 ∧ t = t1)) :=
  Con_mono (fun v s1 w1 h => ⟨r0.1, r0.2.1, F, r0.2.2, t, h.1, h.2.1, h.2.2, r0, rfl, rfl, rfl, rfl, rfl, rfl⟩) h
def po_I_It (F : WF) (L : WL) (r : Int32 × WI × Nat) : RP := rI r.1 (r.2.1, F, L, RT r.2.2)
theorem rl_I_It {z : Int32} {I1 : WI} {t1 : Nat} {F : WF} {L : WL} {T : Int32 × WI × Nat} (he : (z, I1, t1) = T) : po_I_It F L T (some (.int z)) SH (I1, F, L, RT t1) := by subst he; exact ⟨rfl, rfl, rfl⟩
theorem cq_I_It {l : LX} {k d : Nat} {as : List Value} {w : Wd} {F : WF} {L : WL} {r0 : Int32 × WI × Nat} (h : Con l k d 0 0 as SH w (po_I_It F L r0)) : Con l k d 0 0 as SH w (rIQ (fun z I1 F1 L1 t1 => ∃ r : Int32 × WI × Nat, r = r0 ∧ r.1 = z ∧ r.2.1 = I1 ∧ F = F1 ∧ L = L1 ∧ r.2.2 = t1)) :=
  Con_mono (fun v s1 w1 h => ⟨r0.1, r0.2.1, F, L, r0.2.2, h.1, h.2.1, h.2.2, r0, rfl, rfl, rfl, rfl, rfl, rfl⟩) h
def po_J_IF (L : WL) (t : Nat) (r : Int64 × WI × WF) : RP := rL r.1 (r.2.1, r.2.2, L, RT t)
theorem rl_J_IF {z : Int64} {I1 : WI} {F1 : WF} {L : WL} {t : Nat} {T : Int64 × WI × WF} (he : (z, I1, F1) = T) : po_J_IF L t T (some (.long z)) SH (I1, F1, L, RT t) := by subst he; exact ⟨rfl, rfl, rfl⟩
theorem cq_J_IF {l : LX} {k d : Nat} {as : List Value} {w : Wd} {L : WL} {t : Nat} {r0 : Int64 × WI × WF} (h : Con l k d 0 0 as SH w (po_J_IF L t r0)) : Con l k d 0 0 as SH w (rLQ (fun z I1 F1 L1 t1 => ∃ r : Int64 × WI × WF, r = r0 ∧ r.1 = z ∧ r.2.1 = I1 ∧ r.2.2 = F1 ∧ L = L1 ∧ t = t1)) :=
  Con_mono (fun v s1 w1 h => ⟨r0.1, r0.2.1, r0.2.2, L, t, h.1, h.2.1, h.2.2, r0, rfl, rfl, rfl, rfl, rfl, rfl⟩) h
def po_J_IL (F : WF) (t : Nat) (r : Int64 × WI × WL) : RP := rL r.1 (r.2.1, F, r.2.2, RT t)
theorem rl_J_IL {z : Int64} {I1 : WI} {L1 : WL} {F : WF} {t : Nat} {T : Int64 × WI × WL} (he : (z, I1, L1) = T) : po_J_IL F t T (some (.long z)) SH (I1, F, L1, RT t) := by subst he; exact ⟨rfl, rfl, rfl⟩
theorem cq_J_IL {l : LX} {k d : Nat} {as : List Value} {w : Wd} {F : WF} {t : Nat} {r0 : Int64 × WI × WL} (h : Con l k d 0 0 as SH w (po_J_IL F t r0)) : Con l k d 0 0 as SH w (rLQ (fun z I1 F1 L1 t1 => ∃ r : Int64 × WI × WL, r = r0 ∧ r.1 = z ∧ r.2.1 = I1 ∧ F = F1 ∧ r.2.2 = L1 ∧ t = t1)) :=
  Con_mono (fun v s1 w1 h => ⟨r0.1, r0.2.1, F, r0.2.2, t, h.1, h.2.1, h.2.2, r0, rfl, rfl, rfl, rfl, rfl, rfl⟩) h
def po_V_F (I : WI) (L : WL) (t : Nat) (r : WF) : RP := rV (I, r, L, RT t)
theorem rl_V_F {F1 : WF} {I : WI} {L : WL} {t : Nat} {T : WF} (he : F1 = T) : po_V_F I L t T none SH (I, F1, L, RT t) := by subst he; exact ⟨rfl, rfl, rfl⟩
theorem cq_V_F {l : LX} {k d : Nat} {as : List Value} {w : Wd} {I : WI} {L : WL} {t : Nat} {r0 : WF} (h : Con l k d 0 0 as SH w (po_V_F I L t r0)) : Con l k d 0 0 as SH w (rVQ (fun I1 F1 L1 t1 => ∃ r : WF, r = r0 ∧ I = I1 ∧ r = F1 ∧ L = L1 ∧ t = t1)) :=
  Con_mono (fun v s1 w1 h => ⟨I, r0, L, t, h.1, h.2.1, h.2.2, r0, rfl, rfl, rfl, rfl, rfl⟩) h
def po_V_I (F : WF) (L : WL) (t : Nat) (r : WI) : RP := rV (r, F, L, RT t)
theorem rl_V_I {I1 : WI} {F : WF} {L : WL} {t : Nat} {T : WI} (he : I1 = T) : po_V_I F L t T none SH (I1, F, L, RT t) := by subst he; exact ⟨rfl, rfl, rfl⟩
theorem cq_V_I {l : LX} {k d : Nat} {as : List Value} {w : Wd} {F : WF} {L : WL} {t : Nat} {r0 : WI} (h : Con l k d 0 0 as SH w (po_V_I F L t r0)) : Con l k d 0 0 as SH w (rVQ (fun I1 F1 L1 t1 => ∃ r : WI, r = r0 ∧ r = I1 ∧ F = F1 ∧ L = L1 ∧ t = t1)) :=
  Con_mono (fun v s1 w1 h => ⟨r0, F, L, t, h.1, h.2.1, h.2.2, r0, rfl, rfl, rfl, rfl, rfl⟩) h
def po_V_IF (L : WL) (t : Nat) (r : WI × WF) : RP := rV (r.1, r.2, L, RT t)
theorem rl_V_IF {I1 : WI} {F1 : WF} {L : WL} {t : Nat} {T : WI × WF} (he : (I1, F1) = T) : po_V_IF L t T none SH (I1, F1, L, RT t) := by subst he; exact ⟨rfl, rfl, rfl⟩
theorem cq_V_IF {l : LX} {k d : Nat} {as : List Value} {w : Wd} {L : WL} {t : Nat} {r0 : WI × WF} (h : Con l k d 0 0 as SH w (po_V_IF L t r0)) : Con l k d 0 0 as SH w (rVQ (fun I1 F1 L1 t1 => ∃ r : WI × WF, r = r0 ∧ r.1 = I1 ∧ r.2 = F1 ∧ L = L1 ∧ t = t1)) :=
  Con_mono (fun v s1 w1 h => ⟨r0.1, r0.2, L, t, h.1, h.2.1, h.2.2, r0, rfl, rfl, rfl, rfl, rfl⟩) h
def po_V_IL (F : WF) (t : Nat) (r : WI × WL) : RP := rV (r.1, F, r.2, RT t)
theorem rl_V_IL {I1 : WI} {L1 : WL} {F : WF} {t : Nat} {T : WI × WL} (he : (I1, L1) = T) : po_V_IL F t T none SH (I1, F, L1, RT t) := by subst he; exact ⟨rfl, rfl, rfl⟩
theorem cq_V_IL {l : LX} {k d : Nat} {as : List Value} {w : Wd} {F : WF} {t : Nat} {r0 : WI × WL} (h : Con l k d 0 0 as SH w (po_V_IL F t r0)) : Con l k d 0 0 as SH w (rVQ (fun I1 F1 L1 t1 => ∃ r : WI × WL, r = r0 ∧ r.1 = I1 ∧ F = F1 ∧ r.2 = L1 ∧ t = t1)) :=
  Con_mono (fun v s1 w1 h => ⟨r0.1, F, r0.2, t, h.1, h.2.1, h.2.2, r0, rfl, rfl, rfl, rfl, rfl⟩) h
theorem bk2_161_23 {l : LX} {d : Nat} {P : RP} {I : Nat → Nat → Int32} {F : Nat → Nat → UInt32} {L : Nat → Nat → Int64} {t : Nat} {q0 s0 : Nat} {x2 : Int32} {x3 : Int32} {x4 : Int32} {x5 : Int32}
    (g1 : vp_in x3 4) (g2 : RT t 57 x3.toNatClampNeg = some q0) (k : Wp l 161 d 0 0 P 0 0 31 [(2, .int x2), (4, .int x4), (5, .int x5), (6, .ref s0)] [.ref q0] SH (I, F, L, RT t)) :
    Wp l 161 d 0 0 P 0 0 23 [(0, .ref 0), (2, .int x2), (3, .int x3), (4, .int x4), (5, .int x5)] [.ref s0] SH (I, F, L, RT t) :=
  Wp_seg (is := [.astore 6, .aload_n 0, .getfield 59, .iload_n 3, .aaload]) (as := [0, 0, 57, 0, q0]) (pc' := 31) (lv' := [(6, .ref s0), (0, .ref 0), (2, .int x2), (3, .int x3), (4, .int x4), (5, .int x5)]) (st' := [.ref q0]) (w' := (I, F, L, RT t)) (G := (True) ∧ (True) ∧ (SH[0]? = some (.inr 8) ∧ RT t 0 8 = some 57) ∧ (True) ∧ ((∃ C, gA SH 57 (.object C) x3) ∧ RT t 57 x3.toNatClampNeg = some q0) ∧ True) (by decide +kernel) rfl ⟨trivial, trivial, ⟨rfl, rfl⟩, trivial, ⟨⟨_, ⟨4, rfl, g1⟩⟩, g2⟩, trivial⟩ (Wp_sub [2, 4, 5, 0] rfl k)
abbrev RECTC : Type := Nat → WI → Nat → Int32 → WI
abbrev OKRTC : Type := Nat → WI → Nat → Int32 → Prop
def HRECC (l : LX) (dr : Nat) (rec : RECTC) (okr : OKRTC) : Prop := ∀ d, dr ≤ d → ∀ (s : Nat) (I : WI) (F : WF) (L : WL) (t : Nat) (x : Int32), (s = 97 ∨ s = 99 ∨ s = 103) → isT t → okr s I t x → Con l s d 0 0 [.ref 31, .int x] SH (I, F, L, RT t) (po_V_I F L t (rec s I t x))
abbrev RECTR : Type := Nat → WI → WL → Int32 × WI × WL
abbrev OKRTR : Type := Nat → WI → WL → Prop
def HRECR (l : LX) (dr : Nat) (rec : RECTR) (okr : OKRTR) : Prop := ∀ d, dr ≤ d → ∀ (s : Nat) (I : WI) (F : WF) (L : WL) (t : Nat), (s = 200 ∨ s = 202 ∨ s = 206) → okr s I L → Con l s d 0 0 [.ref 74] SH (I, F, L, RT t) (po_I_IL F t (rec s I L))
end
