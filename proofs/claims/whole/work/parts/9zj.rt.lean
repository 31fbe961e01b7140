section
/-! the reference's rows; what all references are -/
def nR : Nat → Nat → Option Nat := fun _ _ => none
theorem Wp_cast {l : LX} {id d mc ms : Nat} {P : RP} {cc ss pc : Nat} {lv : List (Nat × Value)} {st : List Value} {sh sh' : List Sh} {w w' : Wd} (h1 : sh = sh') (h2 : w = w') (k : Wp l id d mc ms P cc ss pc lv st sh' w') : Wp l id d mc ms P cc ss pc lv st sh w := by
  subst h1; subst h2; exact k
def cL_167 : List Sh := [.inl (.int, 960), .inl (.int, 6), .inl (.int, 160), .inl (.int, 7), .inl (.int, 3), .inl (.int, 12), .inl (.int, 12), .inl (.int, 12), .inl (.boolean, 4), .inl (.int, 36), .inl (.int, 12), .inl (.int, 12), .inl (.int, 12), .inl (.long, 512), .inl (.int, 512), .inl (.int, 12), .inl (.int, 12), .inl (.int, 12), .inl (.boolean, 4), .inl (.int, 12), .inl (.int, 3), .inl (.int, 12), .inl (.boolean, 12), .inl (.boolean, 12), .inl (.boolean, 4), .inl (.int, 12), .inl (.int, 7), .inl (.int, 3), .inl (.int, 12), .inl (.int, 12), .inl (.int, 12), .inl (.boolean, 4), .inl (.int, 36), .inl (.int, 12), .inl (.int, 12), .inl (.int, 12), .inl (.boolean, 4), .inl (.int, 4), .inl (.int, 4), .inl (.int, 160), .inl (.float, 160), .inl (.boolean, 160)]
def cR_167 (R : Nat → Nat → Option Nat) : Nat → Nat → Option Nat := (up2 (up2 (up2 (up2 (up2 (up2 (up2 (up2 (up2 (up2 (up2 (up2 (up2 (up2 (up2 (up2 (up2 (up2 (up2 (up2 (up2 (up2 (up2 (up2 (up2 (up2 (up2 (up2 (up2 (up2 (up2 (up2 (up2 (up2 (up2 (up2 (up2 (up2 (up2 (up2 (up2 (up2 R 74 1 (some 75)) 74 2 (some 76)) 74 5 (some 77)) 74 7 (some 78)) 74 8 (some 79)) 74 9 (some 80)) 74 10 (some 81)) 74 11 (some 82)) 74 12 (some 83)) 74 14 (some 84)) 74 15 (some 85)) 74 16 (some 86)) 74 17 (some 87)) 74 34 (some 88)) 74 35 (some 89)) 74 36 (some 90)) 74 37 (some 91)) 74 38 (some 92)) 74 39 (some 93)) 74 40 (some 94)) 74 41 (some 95)) 74 42 (some 96)) 74 43 (some 97)) 74 44 (some 98)) 74 45 (some 99)) 74 49 (some 100)) 74 50 (some 101)) 74 51 (some 102)) 74 52 (some 103)) 74 53 (some 104)) 74 54 (some 105)) 74 55 (some 106)) 74 56 (some 107)) 74 57 (some 108)) 74 58 (some 109)) 74 59 (some 110)) 74 63 (some 111)) 74 64 (some 112)) 74 65 (some 113)) 74 66 (some 114)) 74 67 (some 115)) 74 68 (some 116))
theorem sh_167 : [.inr 8] ++ cL_104 ++ [.inr 9] ++ cL_167 = SH := by rfl
def zW : Wd := (fun _ _ => 0, fun _ _ => 0, fun _ _ => 0, nR)
theorem Zf_0 : Zf 0 zW := ⟨fun _ _ _ => ⟨rfl, rfl, rfl, rfl⟩, fun _ _ _ h => nomatch h⟩
theorem zf_75 : Zf 75 (cI_104 (fun _ _ => 0), zW.2.1, zW.2.2.1, cR_104 nR) := Zf_le (zf_104 (Zf_le Zf_0 (by omega))) (by omega)
/-- a table of references -/
def tR : List (Nat × Nat × Nat) → Nat → Nat → Option Nat
  | [] => nR
  | e :: T => up2 (tR T) e.1 e.2.1 (some e.2.2)
def rT : List (Nat × Nat × Nat) := [(74, 68, 116), (74, 67, 115), (74, 66, 114), (74, 65, 113), (74, 64, 112), (74, 63, 111), (74, 59, 110), (74, 58, 109), (74, 57, 108), (74, 56, 107), (74, 55, 106), (74, 54, 105), (74, 53, 104), (74, 52, 103), (74, 51, 102), (74, 50, 101), (74, 49, 100), (74, 45, 99), (74, 44, 98), (74, 43, 97), (74, 42, 96), (74, 41, 95), (74, 40, 94), (74, 39, 93), (74, 38, 92), (74, 37, 91), (74, 36, 90), (74, 35, 89), (74, 34, 88), (74, 17, 87), (74, 16, 86), (74, 15, 85), (74, 14, 84), (74, 12, 83), (74, 11, 82), (74, 10, 81), (74, 9, 80), (74, 8, 79), (74, 7, 78), (74, 5, 77), (74, 2, 76), (74, 1, 75), (57, 3, 70), (70, 4, 73), (70, 3, 72), (70, 2, 71), (57, 2, 66), (66, 4, 69), (66, 3, 68), (66, 2, 67), (57, 1, 62), (62, 4, 65), (62, 3, 64), (62, 2, 63), (57, 0, 58), (58, 4, 61), (58, 3, 60), (58, 2, 59), (0, 8, 57), (44, 5, 55), (55, 0, 56), (44, 4, 53), (53, 0, 54), (44, 3, 51), (51, 0, 52), (44, 2, 49), (49, 0, 50), (44, 1, 47), (47, 0, 48), (44, 0, 45), (45, 0, 46), (0, 3, 44), (0, 7, 42), (42, 0, 43), (0, 6, 38), (38, 2, 41), (38, 1, 40), (38, 0, 39), (0, 5, 35), (35, 3, 37), (35, 0, 36), (0, 4, 31), (31, 7, 33), (33, 0, 34), (31, 0, 32), (0, 2, 21), (21, 11, 30), (21, 10, 29), (21, 9, 28), (21, 7, 27), (21, 6, 26), (21, 5, 25), (21, 3, 24), (21, 0, 22), (22, 3, 23), (0, 1, 11), (11, 11, 20), (11, 10, 19), (11, 9, 18), (11, 7, 17), (11, 6, 16), (11, 5, 15), (11, 3, 14), (11, 0, 12), (12, 3, 13), (0, 0, 1), (1, 11, 10), (1, 10, 9), (1, 9, 8), (1, 7, 7), (1, 6, 6), (1, 5, 5), (1, 3, 4), (1, 0, 2), (2, 3, 3)]
theorem tR_no {c k : Nat} : ∀ {T : List (Nat × Nat × Nat)}, (∀ e ∈ T, ¬ (c = e.1 ∧ k = e.2.1)) → tR T c k = none := by
  intro T
  induction T with
  | nil => intro _; rfl
  | cons e T ih =>
    intro h
    have := h e List.mem_cons_self
    show up2 (tR T) e.1 e.2.1 (some e.2.2) c k = none
    rw [up2_nk this]
    exact ih (fun f hf => h f (List.mem_cons_of_mem _ hf))
theorem rt_eq : cR_167 (cR_104 nR) = tR rT := by rfl
theorem rt_in : ∀ e ∈ rT, tR rT e.1 e.2.1 = RT 33 e.1 e.2.1 := by
  have h : rT.all (fun e => tR rT e.1 e.2.1 == RT 33 e.1 e.2.1) = true := by decide +kernel
  intro e he
  exact eq_of_beq (List.all_eq_true.mp h e he)
theorem rt_key : ∀ c k, (c, k) ∈ rT.map (fun e => (e.1, e.2.1)) ∨ RT 33 c k = none := by
  have h : rtl.all (fun e => (rT.map (fun f => (f.1, f.2.1))).contains (e.1, e.2.1)) = true := by decide +kernel
  have h44 : ∀ k, k < 6 → (44, k) ∈ rT.map (fun e => (e.1, e.2.1)) := by decide +kernel
  have h57 : ∀ k, k < 4 → (57, k) ∈ rT.map (fun e => (e.1, e.2.1)) := by decide +kernel
  have h31 : (31, 7) ∈ rT.map (fun e => (e.1, e.2.1)) := by decide +kernel
  intro c k
  by_cases h1 : c = 31 ∧ k = 7
  · obtain ⟨rfl, rfl⟩ := h1
    exact Or.inl h31
  have e1 : RT 33 c k = rtab c k := by
    show (if c = 31 ∧ k = 7 then some 33 else rtab c k) = rtab c k
    rw [if_neg h1]
  rw [e1]
  unfold rtab
  by_cases h2 : c = 44
  · subst h2
    by_cases hk : k < 6
    · exact Or.inl (h44 k hk)
    · rw [if_pos rfl, if_neg hk]; exact Or.inr rfl
  rw [if_neg h2]
  by_cases h3 : c = 57
  · subst h3
    by_cases hk : k < 4
    · exact Or.inl (h57 k hk)
    · rw [if_pos rfl, if_neg hk]; exact Or.inr rfl
  rw [if_neg h3]
  cases e : rtl.find? (fun e => e.1 == c && e.2.1 == k) with
  | none => exact Or.inr rfl
  | some x =>
    left
    have hm := List.mem_of_find?_eq_some e
    have hp := List.find?_some e
    simp only [Bool.and_eq_true, beq_iff_eq] at hp
    have := List.all_eq_true.mp h x hm
    rw [hp.1, hp.2] at this
    exact List.contains_iff_mem.mp this
theorem rt_167 : cR_167 (cR_104 nR) = RT 33 := by
  rw [rt_eq]
  funext c k
  by_cases h : (c, k) ∈ rT.map (fun e => (e.1, e.2.1))
  · obtain ⟨e, he, hk⟩ := List.mem_map.mp h
    have e1 : e.1 = c := congrArg Prod.fst hk
    have e2 : e.2.1 = k := congrArg Prod.snd hk
    rw [← e1, ← e2]
    exact rt_in e he
  · rw [tR_no (fun e he z => h (List.mem_map.mpr ⟨e, he, by rw [z.1, z.2]⟩))]
    rcases rt_key c k with y | y
    · exact absurd y h
    · exact y.symm
end
