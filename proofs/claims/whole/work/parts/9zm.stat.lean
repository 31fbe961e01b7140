section
variable {s : State} {args : Array Value}
/-! what stands at the law's entry -/
theorem st_arr {ty : FieldType} (h : (Cond.arrayClass ty).before args s = true) : ∃ cA, ArrOfT s cA ty ∧ s.vm.findClass ("[" ++ ty.toString) = some cA := by
  obtain ⟨cA, kA, comp, h1, h2, h3⟩ := Cond.arrayClass_spec h
  exact ⟨cA, fun n z => ⟨fun k h => (by cases h), kA, h2, comp, h3⟩, h1⟩
theorem st_obj {C : String} (h : va_AO C s) : ∃ cA, ArrOfT s cA (.object C) ∧ va_RA s cA (.object C) := by
  obtain ⟨comp, cA, kA, h1, h2, h3, h4, h5⟩ := Cond.arrayOver_spec h
  exact ⟨cA, fun n z => ⟨fun k h => (by cases h), kA, h3, comp, h4⟩, kA, comp, h3, h4, h1, h5⟩
theorem st_tys (hts : ∀ w ∈ gTbl, w.before args s = true) (h1 : va_AO "VectorShelf$Text" s) (h2 : va_AO "VectorShelf$Sheet" s) : ∃ tyC : FieldType → ClassId, ∀ (k : Nat) (q : ClassId × FieldType), (tyL tyC)[k]? = some q → ArrOfT s q.1 q.2 ∧ va_RA s q.1 q.2 := by
  have key : ∀ ty : FieldType, ∃ cA : ClassId, ty ∈ tysL → ArrOfT s cA ty ∧ va_RA s cA ty := by
    intro ty
    obtain ⟨a1, b1, c1⟩ := st_arr (hts _ ac_int)
    obtain ⟨a2, b2, c2⟩ := st_arr (hts _ ac_boolean)
    obtain ⟨a3, b3, c3⟩ := st_arr (hts _ ac_byte)
    obtain ⟨a4, b4, c4⟩ := st_arr (hts _ ac_short)
    obtain ⟨a5, b5, c5⟩ := st_arr (hts _ ac_float)
    obtain ⟨a6, b6, c6⟩ := st_arr (hts _ ac_long)
    obtain ⟨a7, b7, c7⟩ := st_obj h1
    obtain ⟨a8, b8, c8⟩ := st_obj h2
    by_cases hm : ty ∈ tysL
    · have hm2 := hm
      simp only [tysL, List.mem_cons, List.not_mem_nil, or_false] at hm2
      rcases hm2 with rfl | rfl | rfl | rfl | rfl | rfl | rfl | rfl
      · exact ⟨a1, fun _ => ⟨b1, c1⟩⟩
      · exact ⟨a2, fun _ => ⟨b2, c2⟩⟩
      · exact ⟨a3, fun _ => ⟨b3, c3⟩⟩
      · exact ⟨a4, fun _ => ⟨b4, c4⟩⟩
      · exact ⟨a5, fun _ => ⟨b5, c5⟩⟩
      · exact ⟨a6, fun _ => ⟨b6, c6⟩⟩
      · exact ⟨a7, fun _ => ⟨b7, c7⟩⟩
      · exact ⟨a8, fun _ => ⟨b8, c8⟩⟩
    · exact ⟨a1, fun z => absurd z hm⟩
  obtain ⟨tyC, ht⟩ := Classical.axiomOfChoice key
  refine ⟨tyC, fun k q hq => ?_⟩
  obtain ⟨ty, hy, rfl⟩ := List.mem_map.mp (List.mem_of_getElem? hq)
  exact ht ty hy
set_option maxRecDepth 100000 in
theorem st_inst : ∀ (ci : Nat) (q : vw_C), clsT[ci]? = some q → Cond.instantiable q.1 q.2.2 ∈ gTbl := by
  intro ci q h
  match ci, h with
  | 0, h => cases h; exact g_in (i := 341) rfl rfl
  | 1, h => cases h; exact g_in (i := 288) rfl rfl
  | 2, h => cases h; exact g_in (i := 144) rfl rfl
  | 3, h => cases h; exact g_in (i := 308) rfl rfl
  | 4, h => cases h; exact g_in (i := 355) rfl rfl
  | 5, h => cases h; exact g_in (i := 138) rfl rfl
  | 6, h => cases h; exact g_in (i := 241) rfl rfl
  | 7, h => cases h; exact g_in (i := 235) rfl rfl
  | 8, h => cases h; exact g_in (i := 130) rfl rfl
  | 9, h => cases h; exact g_in (i := 1167) rfl rfl
  | n + 10, h => simp [clsT] at h
theorem st_cls (hts : ∀ w ∈ gTbl, w.before args s = true) : ∃ D : va_G, ∀ (c : Nat) (q : vw_C), clsT[c]? = some q → u_Kn s q.1 q.2.1 q.2.2 (D.1 c) (D.2 c) := by
  have key : ∀ c : Nat, ∃ x : ClassId × (Nat → Nat), ∀ q : vw_C, clsT[c]? = some q → u_Kn s q.1 q.2.1 q.2.2 x.1 x.2 := by
    obtain ⟨a1, -, -⟩ := st_arr (hts _ ac_int)
    intro c
    cases h : clsT[c]? with
    | none => exact ⟨(a1, fun _ => 0), fun q hq => by cases hq⟩
    | some q =>
      obtain ⟨hin, -, -⟩ := cls_facts c q h
      obtain ⟨cC, iS, hk⟩ := u_known hts hin (hts _ (st_inst c q h))
      exact ⟨(cC, iS), fun q' hq => by cases hq; exact hk⟩
  obtain ⟨f, hf⟩ := Classical.axiomOfChoice key
  exact ⟨(fun c => (f c).1, fun c => (f c).2), fun c q hq => hf c q hq⟩
def sTm (i : Nat) : Term := Term.string "VectorShelf$TextReader" ((sTb.getD i (0, "", [])).1)
theorem st_str (hL : ∀ w ∈ lw_tbl, w.before args s = true) (hF : ∀ w ∈ flatC (Jvm.Cond.and given_1 narrow_1), w.before args s = true) : ∃ adK adV : Nat → Nat, vk_S 11 sLen sByt adK adV (fun q => s.heap.size ≤ q) s s.heap ∧ ∀ (i : Nat) (q : Nat × String × List Int32), sTb[i]? = some q → vk_R "VectorShelf$TextReader" q.1 q.2.1 (adK i) s := by
  have hA : ∀ a : Nat, a < s.heap.size → ¬ (fun q => s.heap.size ≤ q) a := fun a ha => Nat.not_le.mpr ha
  have m1 : ∀ i, i < 11 → Cond.exactly (sTm i) "java/lang/String" ∈ flatC (Jvm.Cond.and given_1 narrow_1) := by decide +kernel
  have m2 : ∀ i, i < 11 → Cond.eq (.field (sTm i) "java/lang/String" "coder" "B") (.int 0) ∈ flatC (Jvm.Cond.and given_1 narrow_1) := by decide +kernel
  have m3 : ∀ i, i < 11 → Cond.arrayOf (.field (sTm i) "java/lang/String" "value" "[B") .byte ∈ flatC (Jvm.Cond.and given_1 narrow_1) := by decide +kernel
  have m4 : ∀ i, i < 11 → Cond.eq (.length (.field (sTm i) "java/lang/String" "value" "[B")) (.int (Int32.ofNat (sLen.getD i 0))) ∈ flatC (Jvm.Cond.and given_1 narrow_1) := by decide +kernel
  have m5 : ∀ i, i < 11 → ∀ j, j < sLen.getD i 0 → Cond.eq (.elem (.field (sTm i) "java/lang/String" "value" "[B") (.int (Int32.ofNat j))) (.int ((sByt.getD i []).getD j 0)) ∈ flatC (Jvm.Cond.and given_1 narrow_1) := by decide +kernel
  have m6 : ∀ i, i < 11 → ∀ j, j < 11 → i ≠ j → Cond.not (Cond.eq (sTm i) (sTm j)) ∈ flatC (Jvm.Cond.and given_1 narrow_1) ∨ Cond.not (Cond.eq (sTm j) (sTm i)) ∈ flatC (Jvm.Cond.and given_1 narrow_1) := by decide +kernel
  have m7 : ∀ i, i < 11 → sLen.getD i 0 < 2 ^ 31 := by decide +kernel
  obtain ⟨adK, adV, h1, h2⟩ := vk_Sof (args := args) (s := s) (N := 11) (tm := sTm) (len := sLen) (byt := sByt) (A := fun q => s.heap.size ≤ q) m7 (fun i hi => hF _ (m1 i hi)) (fun i hi => hF _ (m2 i hi)) (fun i hi => hF _ (m3 i hi)) (fun i hi => hF _ (m4 i hi)) (fun i hi j hj => hF _ (m5 i hi j hj)) (fun i j hi hj hne => (m6 i hi j hj hne).imp (fun z => hF _ z) (fun z => hF _ z)) hA
  refine ⟨adK, adV, h1, fun i q hq => ?_⟩
  have hi : i < 11 := (List.getElem?_eq_some_iff.mp hq).1
  have e := h2 i hi
  have hq2 : sTm i = Term.string "VectorShelf$TextReader" q.1 := by
    unfold sTm
    rw [List.getD_eq_getElem?_getD, hq]
    rfl
  rw [hq2] at e
  refine vk_R.of (A := args) ?_ e
  refine hL _ ?_
  match i, hi, hq with
  | 0, _, hq => cases hq; exact List.mem_of_getElem? (i := 729) (by decide +kernel)
  | 1, _, hq => cases hq; exact List.mem_of_getElem? (i := 782) (by decide +kernel)
  | 2, _, hq => cases hq; exact List.mem_of_getElem? (i := 783) (by decide +kernel)
  | 3, _, hq => cases hq; exact List.mem_of_getElem? (i := 784) (by decide +kernel)
  | 4, _, hq => cases hq; exact List.mem_of_getElem? (i := 785) (by decide +kernel)
  | 5, _, hq => cases hq; exact List.mem_of_getElem? (i := 786) (by decide +kernel)
  | 6, _, hq => cases hq; exact List.mem_of_getElem? (i := 791) (by decide +kernel)
  | 7, _, hq => cases hq; exact List.mem_of_getElem? (i := 792) (by decide +kernel)
  | 8, _, hq => cases hq; exact List.mem_of_getElem? (i := 793) (by decide +kernel)
  | 9, _, hq => cases hq; exact List.mem_of_getElem? (i := 794) (by decide +kernel)
  | 10, _, hq => cases hq; exact List.mem_of_getElem? (i := 795) (by decide +kernel)
end
