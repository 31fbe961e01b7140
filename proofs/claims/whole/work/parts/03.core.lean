section
/-- the shape of a cell: an array of a type and a length, or an object of a class by its place -/
abbrev Sh : Type := (FieldType × Nat) ⊕ Nat
/-- what the cells hold: ints (and what is kept as ints), floats, longs, references; by cell and place -/
abbrev Wd : Type := (Nat → Nat → Int32) × (Nat → Nat → UInt32) × (Nat → Nat → Int64) × (Nat → Nat → Option Nat)
def up2 {α : Type} (f : Nat → Nat → α) (c k : Nat) (v : α) : Nat → Nat → α := fun c' k' => if c' = c ∧ k' = k then v else f c' k'
theorem up2_ne {α : Type} {f : Nat → Nat → α} {c k c' : Nat} {v : α} (h : c' ≠ c) : up2 f c k v c' = f c' := by funext j; simp [up2, h]
theorem up2_at {α : Type} {f : Nat → Nat → α} {c k : Nat} {v : α} : up2 f c k v c = fun j => if j = k then v else f c j := by funext j; simp [up2]
def cvv (ad : Nat → Nat) : Value → Value
  | .ref i => .ref (ad i)
  | v => v
theorem cvv_cat (ad : Nat → Nat) (v : Value) : (cvv ad v).category = v.category := by cases v <;> rfl
def kd : FieldType → Nat
  | .long => 1
  | .float => 2
  | .double => 3
  | .object _ => 4
  | .array _ => 4
  | _ => 0
/-- the type of a class's field -/
def fty (ci k : Nat) : FieldType := match ci with
  | 0 => tyX0 k
  | 1 => tyX1 k
  | 2 => tyX2 k
  | 3 => tyX3 k
  | 4 => tyX4 k
  | 5 => tyX5 k
  | 6 => tyX6 k
  | 7 => tyX7 k
  | 8 => tyX8 k
  | _ => tyX9 k
def nF (ci : Nat) : Nat := (clsT.getD ci (RX0, TX0, 0)).2.2
def contA (ad : Nat → Nat) (w : Wd) (i : Nat) (ty : FieldType) : (Nat → Int32) ⊕ (Nat → Int64) ⊕ (Nat → UInt32) ⊕ (Nat → UInt64) ⊕ (Nat → Option Nat) := match kd ty with
  | 0 => .inl (w.1 i)
  | 1 => .inr (.inl (w.2.2.1 i))
  | 2 => .inr (.inr (.inl (w.2.1 i)))
  | _ => .inr (.inr (.inr (.inr (fun k => (w.2.2.2 i k).map ad))))
def fval (w : Wd) (i : Nat) (ty : FieldType) (k : Nat) : Value := match kd ty with
  | 0 => .int (w.1 i k)
  | 1 => .long (w.2.2.1 i k)
  | 2 => .float (w.2.1 i k)
  | 3 => .double 0
  | _ => va_rf (w.2.2.2 i k)
def cellV (tyC : FieldType → ClassId) (ad : Nat → Nat) (w : Wd) (i : Nat) : Sh → va_E
  | .inl (ty, n) => .inl (tyC ty, n, contA ad w i ty)
  | .inr ci => .inr (ci, (List.range (nF ci)).map (fun k => cvv ad (fval w i (fty ci k) k)))
def wl (tyC : FieldType → ClassId) (ad : Nat → Nat) (sh : List Sh) (w : Wd) : va_W := (List.range sh.length).map (fun i => (ad i, cellV tyC ad w i (sh.getD i (.inr 0))))
theorem wl_get {tyC : FieldType → ClassId} {ad : Nat → Nat} {sh : List Sh} {w : Wd} {i : Nat} {c : Sh} (h : sh[i]? = some c) : (wl tyC ad sh w)[i]? = some (ad i, cellV tyC ad w i c) := by
  have hi : i < sh.length := (List.getElem?_eq_some_iff.mp h).1
  have h2 : sh[i] = c := by rw [List.getElem?_eq_getElem hi] at h; exact Option.some.inj h
  simp [wl, hi, h2]
theorem wl_len {tyC : FieldType → ClassId} {ad : Nat → Nat} {sh : List Sh} {w : Wd} : (wl tyC ad sh w).length = sh.length := by simp [wl]
def offC (c : Nat) (w w' : Wd) : Prop := ∀ j, j ≠ c → w'.1 j = w.1 j ∧ w'.2.1 j = w.2.1 j ∧ w'.2.2.1 j = w.2.2.1 j ∧ w'.2.2.2 j = w.2.2.2 j
theorem cellV_off {tyC : FieldType → ClassId} {ad : Nat → Nat} {w w' : Wd} {j : Nat} (h : w'.1 j = w.1 j ∧ w'.2.1 j = w.2.1 j ∧ w'.2.2.1 j = w.2.2.1 j ∧ w'.2.2.2 j = w.2.2.2 j) (c : Sh) : cellV tyC ad w' j c = cellV tyC ad w j c := by
  obtain ⟨h1, h2, h3, h4⟩ := h
  cases c with
  | inl q => simp [cellV, contA, h1, h2, h3, h4]
  | inr ci => simp [cellV, fval, h1, h2, h3, h4]
theorem wl_set {tyC : FieldType → ClassId} {ad : Nat → Nat} {sh : List Sh} {w w' : Wd} {i : Nat} {c : Sh} (h : sh[i]? = some c) (hw : offC i w w') : (wl tyC ad sh w).set i (ad i, cellV tyC ad w' i c) = wl tyC ad sh w' := by
  apply List.ext_getElem?
  intro j
  by_cases hj : j = i
  · subst hj
    have hi : j < (wl tyC ad sh w).length := by rw [wl_len]; exact (List.getElem?_eq_some_iff.mp h).1
    rw [List.getElem?_set_self hi, wl_get h]
  · rw [List.getElem?_set_ne (Ne.symm hj)]
    by_cases hl : j < sh.length
    · have h2 : sh[j]? = some sh[j] := List.getElem?_eq_getElem hl
      rw [wl_get h2, wl_get h2, cellV_off (hw j hj)]
    · have h1 : ∀ x : Wd, (wl tyC ad sh x)[j]? = none := fun x => by rw [List.getElem?_eq_none_iff, wl_len]; omega
      rw [h1, h1]
/-- the types of arrays that are about -/
def tysL : List FieldType := [.int, .boolean, .byte, .short, .float, .long, .object "VectorShelf$Text", .object "VectorShelf$Sheet"]
def tyL (tyC : FieldType → ClassId) : List (ClassId × FieldType) := tysL.map (fun t => (tyC t, t))
theorem tyL_at {tyC : FieldType → ClassId} {k : Nat} {ty : FieldType} (h : tysL[k]? = some ty) : (tyL tyC)[k]? = some (tyC ty, ty) := by simp [tyL, h]
def shT (c : Sh) : Prop := match c with
  | .inl q => q.1 ∈ tysL
  | .inr ci => ci < 10
def Wok (D : va_G) (tyC : FieldType → ClassId) (B0 : Nat) (ad : Nat → Nat) (sh : List Sh) (w : Wd) (H : Heap) : Prop :=
  sh.length ≤ 1000 ∧ va_P D clsT (wl tyC ad sh w) H ∧ va_D (fun q => B0 ≤ q) (wl tyC ad sh w) ∧ ∀ c ∈ sh, shT c
theorem wok_set {D : va_G} {tyC : FieldType → ClassId} {B0 : Nat} {ad : Nat → Nat} {sh : List Sh} {w w' : Wd} {H H1 : Heap} {c : Nat} {sc : Sh} {v : va_E} (hW : Wok D tyC B0 ad sh w H) (hc : sh[c]? = some sc) (hw : offC c w w') (hv : cellV tyC ad w' c sc = v)
    (hP : va_P D clsT ((wl tyC ad sh w).set c (ad c, v)) H1) (hD : va_D (fun q => B0 ≤ q) ((wl tyC ad sh w).set c (ad c, v))) : Wok D tyC B0 ad sh w' H1 := by
  rw [← hv, wl_set hc hw] at hP hD
  exact ⟨hW.1, hP, hD, hW.2.2.2⟩
theorem g_of {w : Cond} (h : w ∈ lw_tbl) (hg : goodWord w = true) : w ∈ gTbl := List.mem_filter.mpr ⟨h, hg⟩
theorem lay_good (C : String) (T : u_T) (k : Nat) : goodWord (u_lay C T k) = true := by
  unfold u_lay
  split <;> rfl
theorem u_inG {C : String} {T : u_T} {N : Nat} (h : ∀ w ∈ u_ws C T N, w ∈ lw_tbl) : ∀ w ∈ u_ws C T N, w ∈ gTbl := by
  intro w hw
  refine g_of (h w hw) ?_
  obtain ⟨k, -, rfl⟩ := List.mem_map.mp hw
  exact lay_good C T k
theorem cls_facts : ∀ (ci : Nat) (q : vw_C), clsT[ci]? = some q → (∀ w ∈ u_ws q.1 q.2.1 q.2.2, w ∈ gTbl) ∧ (∀ k, k < q.2.2 → parseFieldDescriptor (q.2.1 k).2.2.1 = some (fty ci k)) ∧ (∀ a, a < q.2.2 → ∀ b, b < q.2.2 → a ≠ b → (q.2.1 a).2.1 ≠ (q.2.1 b).2.1) := by
  intro ci q h
  match ci, h with
  | 0, h => cases h; exact ⟨u_inG inX0, tyX0_ok, nmX0⟩
  | 1, h => cases h; exact ⟨u_inG inX1, tyX1_ok, nmX1⟩
  | 2, h => cases h; exact ⟨u_inG inX2, tyX2_ok, nmX2⟩
  | 3, h => cases h; exact ⟨u_inG inX3, tyX3_ok, nmX3⟩
  | 4, h => cases h; exact ⟨u_inG inX4, tyX4_ok, nmX4⟩
  | 5, h => cases h; exact ⟨u_inG inX5, tyX5_ok, nmX5⟩
  | 6, h => cases h; exact ⟨u_inG inX6, tyX6_ok, nmX6⟩
  | 7, h => cases h; exact ⟨u_inG inX7, tyX7_ok, nmX7⟩
  | 8, h => cases h; exact ⟨u_inG inX8, tyX8_ok, nmX8⟩
  | 9, h => cases h; exact ⟨u_inG inX9, tyX9_ok, nmX9⟩
  | n + 10, h => simp [clsT] at h
/-! locals -/
def lk : List (Nat × Value) → Nat → Option Value
  | [], _ => none
  | q :: r, n => if q.1 = n then some q.2 else lk r n
theorem lk_mem {lv : List (Nat × Value)} {n : Nat} {v : Value} (h : lk lv n = some v) : (n, v) ∈ lv := by
  induction lv with
  | nil => cases h
  | cons q r ih =>
    unfold lk at h
    split at h
    · rename_i h1
      cases h
      subst h1
      exact List.mem_cons_self
    · exact List.mem_cons_of_mem _ (ih h)
def ls1 (lv : List (Nat × Value)) (i : Nat) (v : Value) : List (Nat × Value) := (i, v) :: lv.filter (fun q => !(q.1 == i) && !(q.1 + 1 == i && q.2.category == 2))
def ls2 (lv : List (Nat × Value)) (i : Nat) (v : Value) : List (Nat × Value) := (i, v) :: lv.filter (fun q => !(q.1 == i) && (!(q.1 == i + 1) && !(q.1 + 1 == i && q.2.category == 2)))
def lvc (ad : Nat → Nat) (lv : List (Nat × Value)) : List (Nat × Value) := lv.map (fun q => (q.1, cvv ad q.2))
theorem lvc_ls1 (ad : Nat → Nat) (lv : List (Nat × Value)) (i : Nat) (v : Value) : ls1 (lvc ad lv) i (cvv ad v) = lvc ad (ls1 lv i v) := by
  simp [ls1, lvc, List.filter_map, Function.comp_def, cvv_cat]
theorem lvc_ls2 (ad : Nat → Nat) (lv : List (Nat × Value)) (i : Nat) (v : Value) : ls2 (lvc ad lv) i (cvv ad v) = lvc ad (ls2 lv i v) := by
  simp [ls2, lvc, List.filter_map, Function.comp_def, cvv_cat]
theorem lv_rd {ad : Nat → Nat} {ls : Array Slot} {nL : Nat} {lv : List (Nat × Value)} (h : lv_has ls nL (lvc ad lv)) {n : Nat} {v : Value} (hk : lk lv n = some v) : ls[n]? = some (.val (cvv ad v)) :=
  h.2.2 (n, cvv ad v) (List.mem_map.mpr ⟨(n, v), lk_mem hk, rfl⟩)
end
