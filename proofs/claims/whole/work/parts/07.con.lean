section
def rmM (d mc ms : Nat) : Room := { frames := d, cells := mc, slots := ms, locals := 100 * d }
def wsM (id : Nat) : List Cond := Cond.code (mN id) (mB id) (mL id) (mR id) :: gTbl
def Wst (l : LX) (D : va_G) (tyC : FieldType → ClassId) (B0 : Nat) (ad : Nat → Nat) (sh : List Sh) (w : Wd) (U : State) : Prop :=
  B0 ≤ U.heap.size ∧ Wok D tyC B0 ad sh w U.heap ∧ va_K D clsT (tyL tyC) U ∧ Stat l ad B0 U U.heap
def Qend (P : RP) (D : va_G) (tyC : FieldType → ClassId) (B0 : Nat) (ad : Nat → Nat) (n : Nat) : Array Value → State → Outcome → State → Prop := fun _ st oc t =>
  (∃ (v : Option Value) (sh1 : List Sh) (w1 : Wd) (ad1 : Nat → Nat), P v sh1 w1 ∧ agr ad ad1 n sh1.length ∧ oc = .returned (v.map (cvv ad1)) ∧ Wok D tyC B0 ad1 sh1 w1 t.heap) ∧ va_F (fun q => B0 ≤ q) st t
/-- the method's contract: from this world, with these arguments, it returns, and P holds of the answer and the world behind it -/
def Con (l : LX) (id d mc ms : Nat) (as : List Value) (sh : List Sh) (w : Wd) (P : RP) : Prop :=
  ∀ (D : va_G) (tyC : FieldType → ClassId) (B0 : Nat) (ad : Nat → Nat), Met l.1 (mN id) (wsM id) (rmM d mc ms) (va_Pc (as.map (cvv ad)) (fun U => Wst l D tyC B0 ad sh w U)) (Qend P D tyC B0 ad sh.length) mc ms (fun q => B0 ≤ q)
theorem Con_mono {l : LX} {id d mc ms : Nat} {as : List Value} {sh : List Sh} {w : Wd} {P P' : RP} (h : ∀ v s1 w1, P' v s1 w1 → P v s1 w1) (k : Con l id d mc ms as sh w P') : Con l id d mc ms as sh w P := by
  intro D tyC B0 ad p e ha hc hk s m args below hf happ hP hK
  obtain ⟨n, o, h1, h2, h3, ⟨⟨v, sh1, w1, ad1, a1, a2⟩, hF⟩, h5⟩ := k D tyC B0 ad p e ha hc hk s m args below hf happ hP hK
  exact ⟨n, o, h1, h2, h3, ⟨⟨v, sh1, w1, ad1, h _ _ _ a1, a2⟩, hF⟩, h5⟩
theorem Met.ofWF {l : Launch} {y : MethodName} {ws ws' : List Cond} {rm : Room} {Pc : Array Value → State → Prop} {Qc : Array Value → State → Outcome → State → Prop} {mc ms : Nat} {free : Addr → Prop} {cc : ByteArray} {maxL : Nat} {ret : Option FieldType}
    (hy : plainFor y = true) (hw : ws = Cond.code y cc maxL ret :: ws')
    (body : ∀ p e s m args below meth c s₁, BodyLoose p l y (headSpec ws rm) cc maxL ret e s m args below meth c s₁ → c.maxLocals = maxL → Pc args s →
      W p l e (headSpec ws rm).room s m args below meth c s.heap [] 0 0 (MQ below Qc args s mc ms free) (entryFrame m args maxL)) : Met l y ws rm Pc Qc mc ms free := by
  refine MetFree.of_bodySF (code := cc) (maxLocals := maxL) (ret := ret) hy ?_ ?_
  · intro args s m h hn
    obtain ⟨meth, c, h1, h2, h3, h4, h5, h6, -, -⟩ := Cond.code_spec hn (atoms_spec (ws := ws) h _ (by rw [hw]; exact List.mem_cons_self))
    exact ⟨meth, c, h1, h2, h3, h4, h5, h6⟩
  · intro p e s m args below meth c s₁ B hml hP _
    have hh0 : s₁.heap = s.heap := by rw [B.state]; rfl
    obtain ⟨t, a1, o, b1, b2, b3⟩ := body p e s m args below meth c s₁ B hml hP s₁ hh0 (Stand.of_body B)
    exact ⟨t, o, a1, b1, b2, ⟨b3.1, b3.2⟩⟩
theorem lv_args_map (ad : Nat → Nat) : ∀ (as : List Value) (k : Nat), lv_args k (as.map (cvv ad)) = lvc ad (lv_args k as) := by
  intro as
  induction as with
  | nil => intro k; rfl
  | cons v r ih =>
    intro k
    simp only [List.map_cons, lv_args, lvc, cvv_cat] at *
    first
      | rw [ih]
      | (simp [ih])
theorem lg_sl_map (ad : Nat → Nat) : ∀ (as : List Value), (lg_sl (as.map (cvv ad))).length = (lg_sl as).length := by
  intro as
  induction as with
  | nil => rfl
  | cons v r ih =>
    unfold lg_sl at ih ⊢
    rw [List.map_cons, List.flatMap_cons, List.flatMap_cons, cvv_cat, List.length_append, List.length_append, ih]
    split <;> rfl
theorem StrS_moved {ad : Nat → Nat} {B0 : Nat} {u U : State} {H : Heap} (ha : u.vm.Alike U.vm) (hr : ∀ (own tx : String) (k a : Nat), vk_R own k tx a u → vk_R own k tx a U) (k : StrS ad B0 u H) : StrS ad B0 U H := by
  obtain ⟨⟨adV, k1⟩, k2, k3, k4⟩ := k
  exact ⟨⟨adV, k1.moved ha⟩, fun i q hq => hr _ _ _ _ (k2 i q hq), k3.moved ha, k4.moved ha⟩
theorem StrS_kept {ad : Nat → Nat} {B0 : Nat} {U : State} {H H1 : Heap} (h : ∀ a : Nat, a < H.size → ¬ B0 ≤ a → H1[a]? = H[a]?) (k : StrS ad B0 U H) : StrS ad B0 U H1 := by
  obtain ⟨⟨adV, k1⟩, k2, k3, k4⟩ := k
  exact ⟨⟨adV, k1.kept h⟩, k2, k3.kept h, k4.kept h⟩
theorem Stat_same {l : LX} {ad : Nat → Nat} {B0 : Nat} {u U : State} {H : Heap} (h : u.vm = U.vm) (k : Stat l ad B0 u H) : Stat l ad B0 U H := by
  have ha : u.vm.Alike U.vm := by rw [h]; exact Vm.Alike.refl U.vm
  refine ⟨fun w hw => ?_, k.2.1.moved ha, k.2.2.1.moved ha, k.2.2.2.1.moved ha, k.2.2.2.2.1.moved ha, k.2.2.2.2.2.1.moved ha, StrS_moved ha (fun _ _ _ _ z => vk_R.same h.symm z) k.2.2.2.2.2.2⟩
  have hw2 := (List.mem_filter.mp hw).2
  have hk := k.1 w hw
  cases w <;> simp at hw2
  exact va_Nw.same rfl h hk
theorem Stat_warm {l : LX} {ad : Nat → Nat} {B0 : Nat} {s U : State} {H : Heap} {locs : List Loc} (hW : s.WarmedH U.vm) (hS : va_S (fun q => B0 ≤ q) s.heap H locs) (k : Stat l ad B0 s s.heap) : Stat l ad B0 U H := by
  refine ⟨fun w hw => ?_, k.2.1.moved hW.alike, k.2.2.1.moved hW.alike, (k.2.2.2.1.moved hW.alike).kept hS.2.1, (k.2.2.2.2.1.moved hW.alike).kept hS.2.1, (k.2.2.2.2.2.1.moved hW.alike).kept hS.2.1, StrS_kept hS.2.1 (StrS_moved hW.alike (fun _ _ _ _ z => vk_R.warm hW z) k.2.2.2.2.2.2)⟩
  have hw2 := (List.mem_filter.mp hw).2
  have hk := k.1 w hw
  cases w <;> simp at hw2
  exact va_Nw.warmM hW hk
theorem Stat_ad {l : LX} {ad ad1 : Nat → Nat} {B0 : Nat} {U : State} {H : Heap} (h : ∀ i, 1000 ≤ i → ad1 i = ad i) (k : Stat l ad B0 U H) : Stat l ad1 B0 U H := by
  have h1 : (fun i => ad1 (1000001 + i)) = fun i => ad (1000001 + i) := by funext i; exact h _ (by omega)
  have h2 : ∀ i, ad1 (1000001 + i) = ad (1000001 + i) := fun i => h _ (by omega)
  unfold Stat StrS at k ⊢
  rw [h 1000000 (by omega), h 1000050 (by omega), h1]
  simp only [h2]
  exact k
theorem Wst_blind {l : LX} {D : va_G} {tyC : FieldType → ClassId} {B0 : Nat} {ad : Nat → Nat} {sh : List Sh} {w : Wd} {as : List Value} : FrameBlind (va_Pc as (fun U => Wst l D tyC B0 ad sh w U)) := by
  intro a U g mk hp
  exact ⟨hp.1, hp.2.1, hp.2.2.1, va_K.moved (u := U) (U := U.calling g mk a) (Vm.Alike.refl U.vm) hp.2.2.2.1, Stat_same (u := U) (U := U.calling g mk a) rfl hp.2.2.2.2⟩
theorem m_own13 : ∀ i, i < 288 → mO i < 13 := by decide +kernel
theorem con_of {l : LX} {id d mc ms : Nat} {as : List Value} {sh : List Sh} {w : Wd} {P : RP} (hk : mCk id = true) (hi : id < 287) (hsl : (lg_sl as).length ≤ mL id) (h : Wp l id d mc ms P 0 0 0 (lv_args 0 as) [] sh w) : Con l id d mc ms as sh w P := by
  intro D tyC B0 ad
  refine Met.ofWF (cc := mB id) (maxL := mL id) (ret := mR id) (m_plain hk) rfl ?_
  intro p e s m args below meth c s₁ B hml hv
  obtain ⟨rfl, hB, hW, hK, hst⟩ := hv
  have hts : ∀ w ∈ gTbl, w.before _ s = true := fun w hw => atoms_spec (ws := wsM id) B.pre w (List.mem_cons_of_mem _ hw)
  have hown := findClass_of_methodNamed B.named
  rw [m_own id (Nat.lt_succ_of_lt hi)] at hown
  have hini : (mN id).name = "<init>" → meth.name = "<init>" := by
    intro h0
    rw [(name_of_methodNamed B.named B.method).1]
    exact h0
  have hO : mO id < 13 := m_own13 id (Nat.lt_succ_of_lt hi)
  rw [lg_entry_eq]
  have hl := lv_entry (as.map (cvv ad)) (n := mL id) (by rw [lg_sl_map]; exact hsl)
  rw [lv_args_map] at hl
  refine h D tyC B0 ad sh.length p e _ s m _ below meth c _ ⟨B.exec, B.bytes, hml, B.returns, hown, hts, B.notSynchronized, hini, hO⟩ hK hB ⟨Nat.le_refl d, Nat.le_refl (100 * d), Nat.le_refl mc, Nat.le_refl ms⟩ hst ?_ s.heap [] _ ad ⟨Nat.le_refl _, fun _ _ => rfl⟩ hW va_S.rf hl ⟨Nat.zero_le _, Nat.zero_le _⟩
  intro v sh1 w1 H1 locs1 ls1 ad1 pc1 hP hA hW1 hS1 hr
  have hend : ∀ t : State, t.heap = H1 → s.WarmedH t.vm → Qend P D tyC B0 ad sh.length (as.map (cvv ad)).toArray s (.returned (v.map (cvv ad1))) t := fun t ht _ => ⟨⟨v, sh1, w1, ad1, hP, hA, rfl, by rw [ht]; exact hW1⟩, hS1.F ht⟩
  have hR := B.returns
  have hlk := B.notSynchronized
  unfold retAt at hr
  split at hr
  · rename_i e1; rw [e1] at hR; exact W.vret B.exec B.bytes hR hend (fun q hq => hS1.2.2 q hq) hr
  · rename_i e1; rw [e1] at hR; exact W.iret B.exec B.bytes hR hend (fun q hq => hS1.2.2 q hq) hr
  · rename_i x e1; rw [e1] at hR; exact W.zret B.exec B.bytes hR (by show Value.int (x &&& 1) = Value.int x; rw [hr.2]) hend (fun q hq => hS1.2.2 q hq) hr.1
  · rename_i e1; rw [e1] at hR; exact W.lret B.exec B.bytes hR hend (fun q hq => hS1.2.2 q hq) hr
  · rename_i e1; rw [e1] at hR; exact W.fret B.exec B.bytes hR hend (fun q hq => hS1.2.2 q hq) hr
  · rename_i e1; rw [e1] at hR; exact W.aret B.exec B.bytes hR (Or.inl ⟨_, rfl⟩) (Or.inr ⟨_, rfl⟩) hend (fun q hq => hS1.2.2 q hq) hr
  · exact hr.elim
end
