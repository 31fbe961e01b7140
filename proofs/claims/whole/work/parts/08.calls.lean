section
def lFind (o ix : Nat) : Option (Nat × Nat) := ((lT o).find? (fun e => e.1 == ix)).map (fun e => (e.2.1, e.2.2.1))
theorem lFind_spec {o ix k nest : Nat} (ho : o < 13) (h : lFind o ix = some (k, nest)) : k < 287 ∧ (nest = 1 → Cond.methodLinkNest (cN o) ix (mN k) "VectorShelf" ∈ nsW) ∧ (¬ nest = 1 → Cond.methodLink (cN o) ix (mN k) ∈ gTbl) := by
  unfold lFind at h
  cases h1 : (lT o).find? (fun e => e.1 == ix) with
  | none => rw [h1] at h; cases h
  | some e =>
    rw [h1] at h
    have hm := List.mem_of_find?_eq_some h1
    have he := List.find?_some h1
    have hc := List.all_eq_true.mp (l_all o ho) e hm
    unfold lCk at hc
    simp only [beq_iff_eq] at he
    simp only [Option.map_some, Option.some.injEq, Prod.mk.injEq] at h
    obtain ⟨e1, e2, e3, e4⟩ := e
    obtain ⟨h2, h3⟩ := h
    dsimp only at h2 h3 he hc
    subst h2; subst h3; subst he
    simp only [Bool.and_eq_true, decide_eq_true_eq] at hc
    refine ⟨hc.1, fun hn => ?_, fun hn => ?_⟩
    · have := hc.2
      rw [if_pos hn] at this
      simp only [decide_eq_true_eq] at this
      exact List.mem_filter.mpr ⟨List.mem_of_getElem? this, rfl⟩
    · have := hc.2
      rw [if_neg hn] at this
      simp only [decide_eq_true_eq] at this
      exact g_in this rfl
/-- the words that a called method needs, of the caller's -/
theorem gin_m {k : Nat} (hc : Cond.code (mN k) (mB k) (mL k) (mR k) ∈ gTbl) : GoodIn gTbl (wsM k) := by
  intro w hw
  rcases List.mem_cons.mp hw with rfl | hw
  · exact ⟨hc, good_of_word (List.all_eq_true.mp tbl_good _ hc)⟩
  · exact ⟨hw, good_of_word (List.all_eq_true.mp tbl_good _ hw)⟩
theorem mk_spec {k : Nat} (hk : mCk k = true) : ((mN k).cls ≠ "java/lang/invoke/MethodHandle" ∧ (mN k).cls ≠ "java/lang/invoke/VarHandle" ∧ (parseMethodDescriptor (mN k).desc).map (fun d => d.parameters.length) = some (mP k)) ∧ Cond.initialized (mN k).cls ∈ gTbl ∧ mL k ≤ 81 ∧
    ((mW k).1 = 0 → Cond.instanceMethod (mN k) ∈ gTbl ∧ Cond.selects (mN k).cls (mN k) (mN k) ∈ gTbl) ∧ ((mW k).1 = 1 → Cond.static (mN k) ∈ gTbl) ∧ ((mW k).1 = 2 → Cond.instanceMethod (mN k) ∈ gTbl ∧ (mN k).name = "<init>" ∧ mR k = none) := by
  unfold mCk at hk
  simp only [Bool.and_eq_true, decide_eq_true_eq] at hk
  obtain ⟨⟨h1, h2, h3, h4, h5, h6⟩, h7⟩ := hk
  refine ⟨⟨h1, h2, h3⟩, g_in h4 rfl, h6, fun h => ?_, fun h => ?_, fun h => ?_⟩
  · rw [h] at h7; simp only [decide_eq_true_eq] at h7; exact ⟨g_in h7.1 rfl, g_in h7.2 rfl⟩
  · rw [h] at h7; simp only [decide_eq_true_eq] at h7; exact g_in h7 rfl
  · rw [h] at h7; simp only [decide_eq_true_eq] at h7; exact ⟨g_in h7.1 rfl, h7.2⟩
def okV (n : Nat) (v : Value) : Prop := match v with
  | .ref i => i < n ∨ 1000 ≤ i
  | _ => True
def okR (n : Nat) (lv : List (Nat × Value)) (st : List Value) : Prop := (∀ q ∈ lv, okV n q.2) ∧ ∀ v ∈ st, okV n v
theorem cvv_ok {ad ad1 : Nat → Nat} {n n1 : Nat} (h : agr ad ad1 n n1) (h1 : n1 ≤ 1000) {v : Value} (hv : okV n v) : cvv ad1 v = cvv ad v := by
  cases v with
  | ref i =>
    have hv : i < n ∨ 1000 ≤ i := hv
    simp only [cvv]
    rw [h.2 i (hv.imp (fun z => z) (fun z => Nat.le_trans h1 z))]
  | _ => rfl
theorem agr_eq {ad ad1 : Nat → Nat} {n n1 : Nat} (h : agr ad ad1 n n1) (he : n1 = n) : ad1 = ad := by
  funext i
  exact h.2 i (by omega)
theorem agr_trans {a b c : Nat → Nat} {n0 n1 n2 : Nat} (h : agr a b n0 n1) (k : agr b c n1 n2) : agr a c n0 n2 :=
  ⟨Nat.le_trans h.1 k.1, fun i hi => (k.2 i (by have := h.1; have := k.1; omega)).trans (h.2 i (by have := h.1; have := k.1; omega))⟩
theorem W_callG {p : Program} {l : Launch} {e : Env} {R : Room} {s : State} {m : MethodId} {args : Array Value} {below : List Frame} {meth : Method} {c : Code} {H : Heap} {locs : List Loc} {cells slots mc ms : Nat} {Q : State → Prop} {pc : Nat} {ls : Array Slot} {rest st0 : List Value} {Qa : State → Outcome → State → Prop} {free : Addr → Prop}
    (hr : va_Run p l e R s m args below meth c H locs cells slots mc ms (F0 m pc ls st0) rest Qa free)
    (kk : ∀ (v : Option Value) (st₀ t : State) (H1 : Heap) (locs1 : List Loc), st₀.heap = H → t.heap = H1 → Qa st₀ (.returned v) t → (∃ L, locs1 = locs ++ L ∧ ∀ q ∈ L, free q.base) → W p l e R s m args below meth c H1 locs1 (cells + mc) (slots + ms) Q (F0 m (pc + 3) ls (v.toList ++ rest))) : W p l e R s m args below meth c H locs cells slots Q (F0 m pc ls st0) := by
  intro T hT X
  obtain ⟨v, st₀, t, T', L, h0, X', hL, e1, e2, hq, st⟩ := hr T hT X
  obtain ⟨t2, a1, b1⟩ := kk v st₀ t T'.heap (locs ++ L) h0 e1.symm hq ⟨L, rfl, hL⟩ T' rfl X'
  exact ⟨t2, st t2 a1, b1⟩
/-- behind a call, whatever its kind -/
theorem Wp_after {l : LX} {id d mc ms : Nat} {P P' : RP} {cc ss pc mc' ms' : Nat} {lv : List (Nat × Value)} {rest : List Value} {sh : List Sh}
    (hal : (∀ v sh1 w1, P' v sh1 w1 → sh1.length = sh.length) ∨ okR sh.length lv rest) (hcm : cc + mc' ≤ mc ∧ ss + ms' ≤ ms)
    (kk : ∀ v sh1 w1, P' v sh1 w1 → Wp l id d mc ms P (cc + mc') (ss + ms') (pc + 3) lv (v.toList ++ rest) sh1 w1)
    {D : va_G} {tyC : FieldType → ClassId} {B0 : Nat} {ad0 : Nat → Nat} {n0 : Nat} {p : Program} {e : Env} {R : Room} {s : State} {m : MethodId} {args : Array Value} {below : List Frame} {meth : Method} {c : Code} {Q : State → Prop}
    (hF : Fx p s m args meth c id) (hK : va_K D clsT (tyL tyC) s) (hB : B0 ≤ s.heap.size) (hR : rmOk R d mc ms) (hst : Stat l ad0 B0 s s.heap)
    (hret : ∀ (v : Option Value) (sh1 : List Sh) (w1 : Wd) (H1 : Heap) (locs1 : List Loc) (ls1 : Array Slot) (ad1 : Nat → Nat) (pc1 : Nat), P v sh1 w1 → agr ad0 ad1 n0 sh1.length → Wok D tyC B0 ad1 sh1 w1 H1 → va_S (fun q => B0 ≤ q) s.heap H1 locs1 → retAt id pc1 v →
      W p l.1 e R s m args below meth c H1 locs1 mc ms Q (F0 m pc1 ls1 (v.map (cvv ad1)).toList))
    {H : Heap} {locs : List Loc} {ls : Array Slot} {ad : Nat → Nat} (hA : agr ad0 ad n0 sh.length) (hS : va_S (fun q => B0 ≤ q) s.heap H locs) (hl : lv_has ls (mL id) (lvc ad lv)) {st0 : List Value} {a : Array Value}
    (hr : va_Run p l.1 e R s m args below meth c H locs cc ss mc' ms' (F0 m pc ls st0) (rest.map (cvv ad)) (Qend P' D tyC B0 ad sh.length a) (fun q => B0 ≤ q)) : W p l.1 e R s m args below meth c H locs cc ss Q (F0 m pc ls st0) := by
  refine W_callG hr ?_
  intro v st₀ t H1 locs1 e0 e1 hq hL
  obtain ⟨⟨v', sh1, w1, ad1, hP, hA1, hv, hW1⟩, hFr⟩ := hq
  cases hv
  obtain ⟨L, rfl, hL⟩ := hL
  have hS1 : va_S (fun q => B0 ≤ q) s.heap H1 (locs ++ L) := by
    unfold va_F at hFr
    rw [e0, e1] at hFr
    exact ⟨Nat.le_trans hS.1 hFr.1, fun q h1 h2 => (hFr.2 q (Nat.lt_of_lt_of_le h1 hS.1) h2).trans (hS.2.1 q h1 h2), fun q hq => (List.mem_append.mp hq).elim (hS.2.2 q) (hL q)⟩
  rw [e1] at hW1
  have hcv : lvc ad1 lv = lvc ad lv ∧ rest.map (cvv ad1) = rest.map (cvv ad) := by
    rcases hal with h | h
    · rw [agr_eq hA1 (h _ _ _ hP)]
      exact ⟨rfl, rfl⟩
    · exact ⟨List.map_congr_left fun q hq => by rw [cvv_ok hA1 hW1.1 (h.1 q hq)], List.map_congr_left fun q hq => cvv_ok hA1 hW1.1 (h.2 q hq)⟩
  have hk := kk v' sh1 w1 hP D tyC B0 ad0 n0 p e R s m args below meth c Q hF hK hB hR hst hret H1 (locs ++ L) ls ad1 (agr_trans hA hA1) hW1 hS1 (by rw [hcv.1]; exact hl) hcm
  have he : (v'.toList ++ rest).map (cvv ad1) = (v'.map (cvv ad1)).toList ++ rest.map (cvv ad) := by
    rw [List.map_append, hcv.2]
    cases v' <;> rfl
  rw [he] at hk
  exact hk
section
variable {l : LX} {id d mc ms : Nat} {P P' : RP} {cc ss pc d' mc' ms' ix k : Nat} {lv : List (Nat × Value)} {st As rest : List Value} {sh : List Sh} {w : Wd}
theorem Wp_callV {nest b ci : Nat} (hl0 : lFind (mO id) ix = some (k, nest)) (hk : mCk k = true) (hc : Cond.code (mN k) (mB k) (mL k) (mR k) ∈ gTbl) (hv : (mW k).1 = 0) (hd : decode (mB id) pc = .ok (.invokevirtual ix, 3)) (hst0 : st = As.reverse ++ .ref b :: rest) (hn : As.length = mP k) (hrest : (rest.map fun v => v.category).sum ≤ 8) (hdd : d' + 1 ≤ d) (hcm : cc + mc' ≤ mc ∧ ss + ms' ≤ ms)
    (hb : sh[b]? = some (.inr ci)) (hci : (clsT[ci]?.map (fun q => q.1)) = some (mN k).cls) (hcon : Con l k d' mc' ms' (.ref b :: As) sh w P') (hal : (∀ v sh1 w1, P' v sh1 w1 → sh1.length = sh.length) ∨ okR sh.length lv rest)
    (kk : ∀ v sh1 w1, P' v sh1 w1 → Wp l id d mc ms P (cc + mc') (ss + ms') (pc + 3) lv (v.toList ++ rest) sh1 w1) : Wp l id d mc ms P cc ss pc lv st sh w := by
  intro D tyC B0 ad0 n0 p e R s m args below meth c Q hF hK hB hR hst hret H locs ls ad hA hW hS hl hcc
  obtain ⟨hk1, hk2, hk3, hk4, -, -⟩ := mk_spec hk
  obtain ⟨hl1, hl2, hl3⟩ := lFind_spec hF.2.2.2.2.2.2.2.2 hl0
  have hts := hF.2.2.2.2.2.1
  have hsz : ls.size = mL id := hl.1
  obtain ⟨q, hq, hqn⟩ : ∃ q, clsT[ci]? = some q ∧ q.1 = (mN k).cls := by
    cases h : clsT[ci]? with
    | none => rw [h] at hci; cases hci
    | some q => rw [h] at hci; exact ⟨q, rfl, Option.some.inj hci⟩
  have hrc := va_recv hK hW.2.1 hq (wl_get hb)
  rw [hqn] at hrc
  have hpre : ∀ U : State, U.heap = H → s.WarmedH U.vm → (va_Pc ((.ref b :: As).map (cvv ad)) (fun U => Wst l D tyC B0 ad sh w U)) (Value.ref (ad b) :: As.map (cvv ad)).toArray U := fun U hU hWm =>
    ⟨rfl, by rw [hU]; exact Nat.le_trans hB hS.1, by rw [hU]; exact hW, va_K.moved hWm.alike hK, by rw [hU]; exact Stat_warm hWm hS (Stat_ad (fun i hi => hA.2 i (by have := hW.1; omega)) hst)⟩
  refine Wp_after hal hcm kk hF hK hB hR hst hret hA hS hl (a := (Value.ref (ad b) :: As.map (cvv ad)).toArray) ?_
  have hstk : st.map (cvv ad) = (As.map (cvv ad)).reverse ++ .ref (ad b) :: rest.map (cvv ad) := by rw [hst0, List.map_append, List.map_reverse]; rfl
  have hcat : ((rest.map (cvv ad)).map fun v => v.category).sum ≤ 8 := by rw [List.map_map]; simpa [Function.comp_def, cvv_cat] using hrest
  have hrm : (rmM d' mc' ms').frames + 1 ≤ R.frames ∧ 8 + (mL k + 11) + (rmM d' mc' ms').locals ≤ R.locals := ⟨Nat.le_trans hdd hR.1, by show 8 + (mL k + 11) + 100 * d' ≤ R.locals; have := hR.2.1; omega⟩
  have hf : cc + mc' ≤ R.cells ∧ ss + ms' ≤ R.slots := ⟨Nat.le_trans hcm.1 hR.2.2.1, Nat.le_trans hcm.2 hR.2.2.2⟩
  by_cases hne : nest = 1
  · exact va_runVN (own := cN (mO id)) (Ts := gTbl) ⟨hF.1, hF.2.1, hF.2.2.1, hF.2.2.2.2.1, hts⟩ (hcon D tyC B0 ad) ⟨va_cnB (mP k) hts (gin_m hc) rfl rfl rfl (hst.1 _ (hl2 hne)) (hts _ hk2) hk1 hrm, hts _ (hk4 hv).1, hts _ (hk4 hv).2⟩ ⟨Wst_blind, hrc, hpre⟩ rfl (by rw [List.length_map]; exact hn) hsz hstk (lv_room hcat) hd hf
  · have hG : GoodIn gTbl (wsV (cN (mO id)) ix (mN k).cls (mN k) (wsM k)) := by
      intro w hw
      have hg : ∀ x ∈ gTbl, x ∈ gTbl ∧ ((x.onTables && x.keeps) = true ∨ ∃ ty, x = .arrayClass ty) := fun x hx => ⟨hx, good_of_word (List.all_eq_true.mp tbl_good _ hx)⟩
      unfold wsV at hw
      rcases List.mem_append.mp hw with hw | hw
      · simp only [List.mem_cons, List.not_mem_nil, or_false] at hw
        rcases hw with rfl | rfl | rfl | rfl
        · exact hg _ (hl3 hne)
        · exact hg _ (hk4 hv).1
        · exact hg _ (hk4 hv).2
        · exact hg _ hk2
      · exact gin_m hc w hw
    exact va_runV (own := cN (mO id)) (Ts := gTbl) ⟨hF.1, hF.2.1, hF.2.2.1, hF.2.2.2.2.1, hts⟩ (hcon D tyC B0 ad) (cwV (mP k) hts hG rfl rfl rfl ⟨rfl, hk1⟩ hrm) ⟨Wst_blind, hrc, hpre⟩ rfl (by rw [List.length_map]; exact hn) hsz hstk (lv_room hcat) hd hf
theorem Wp_callS {nest : Nat} (hl0 : lFind (mO id) ix = some (k, nest)) (hk : mCk k = true) (hc : Cond.code (mN k) (mB k) (mL k) (mR k) ∈ gTbl) (hv : (mW k).1 = 1) (hd : decode (mB id) pc = .ok (.invokestatic ix, 3)) (hst0 : st = As.reverse ++ rest) (hn : As.length = mP k) (hrest : (rest.map fun v => v.category).sum ≤ 8) (hdd : d' + 1 ≤ d) (hcm : cc + mc' ≤ mc ∧ ss + ms' ≤ ms)
    (hcon : Con l k d' mc' ms' As sh w P') (hal : (∀ v sh1 w1, P' v sh1 w1 → sh1.length = sh.length) ∨ okR sh.length lv rest)
    (kk : ∀ v sh1 w1, P' v sh1 w1 → Wp l id d mc ms P (cc + mc') (ss + ms') (pc + 3) lv (v.toList ++ rest) sh1 w1) : Wp l id d mc ms P cc ss pc lv st sh w := by
  intro D tyC B0 ad0 n0 p e R s m args below meth c Q hF hK hB hR hst hret H locs ls ad hA hW hS hl hcc
  obtain ⟨hk1, hk2, hk3, -, hk4, -⟩ := mk_spec hk
  obtain ⟨hl1, hl2, hl3⟩ := lFind_spec hF.2.2.2.2.2.2.2.2 hl0
  have hts := hF.2.2.2.2.2.1
  have hsz : ls.size = mL id := hl.1
  have hpre : ∀ U : State, U.heap = H → s.WarmedH U.vm → (va_Pc (As.map (cvv ad)) (fun U => Wst l D tyC B0 ad sh w U)) (As.map (cvv ad)).toArray U := fun U hU hWm =>
    ⟨rfl, by rw [hU]; exact Nat.le_trans hB hS.1, by rw [hU]; exact hW, va_K.moved hWm.alike hK, by rw [hU]; exact Stat_warm hWm hS (Stat_ad (fun i hi => hA.2 i (by have := hW.1; omega)) hst)⟩
  refine Wp_after hal hcm kk hF hK hB hR hst hret hA hS hl (a := (As.map (cvv ad)).toArray) ?_
  have hstk : st.map (cvv ad) = (As.map (cvv ad)).reverse ++ rest.map (cvv ad) := by rw [hst0, List.map_append, List.map_reverse]
  have hcat : ((rest.map (cvv ad)).map fun v => v.category).sum ≤ 8 := by rw [List.map_map]; simpa [Function.comp_def, cvv_cat] using hrest
  have hrm : (rmM d' mc' ms').frames + 1 ≤ R.frames ∧ 8 + (mL k + 11) + (rmM d' mc' ms').locals ≤ R.locals := ⟨Nat.le_trans hdd hR.1, by show 8 + (mL k + 11) + 100 * d' ≤ R.locals; have := hR.2.1; omega⟩
  have hf : cc + mc' ≤ R.cells ∧ ss + ms' ≤ R.slots := ⟨Nat.le_trans hcm.1 hR.2.2.1, Nat.le_trans hcm.2 hR.2.2.2⟩
  by_cases hne : nest = 1
  · exact va_runSN (own := cN (mO id)) (Ts := gTbl) ⟨hF.1, hF.2.1, hF.2.2.1, hF.2.2.2.2.1, hts⟩ (hcon D tyC B0 ad) ⟨va_cnB (mP k) hts (gin_m hc) rfl rfl rfl (hst.1 _ (hl2 hne)) (hts _ hk2) hk1 hrm, hts _ (hk4 hv), trivial⟩ ⟨Wst_blind, hpre⟩ rfl (by rw [List.length_map]; exact hn) hsz hstk (lv_room hcat) hd hf
  · have hG : GoodIn gTbl (va_wsS (cN (mO id)) ix (mN k) (wsM k)) := by
      intro w hw
      have hg : ∀ x ∈ gTbl, x ∈ gTbl ∧ ((x.onTables && x.keeps) = true ∨ ∃ ty, x = .arrayClass ty) := fun x hx => ⟨hx, good_of_word (List.all_eq_true.mp tbl_good _ hx)⟩
      unfold va_wsS at hw
      rcases List.mem_append.mp hw with hw | hw
      · simp only [List.mem_cons, List.not_mem_nil, or_false] at hw
        rcases hw with rfl | rfl | rfl
        · exact hg _ (hl3 hne)
        · exact hg _ (hk4 hv)
        · exact hg _ hk2
      · exact gin_m hc w hw
    exact va_runS (own := cN (mO id)) (Ts := gTbl) ⟨hF.1, hF.2.1, hF.2.2.1, hF.2.2.2.2.1, hts⟩ (hcon D tyC B0 ad) (va_cwS (mP k) hts hG rfl rfl rfl hk1 hrm) ⟨Wst_blind, hpre⟩ rfl (by rw [List.length_map]; exact hn) hsz hstk (lv_room hcat) hd hf
theorem Wp_callI {nest b : Nat} (hl0 : lFind (mO id) ix = some (k, nest)) (hk : mCk k = true) (hc : Cond.code (mN k) (mB k) (mL k) (mR k) ∈ gTbl) (hv : (mW k).1 = 2) (hd : decode (mB id) pc = .ok (.invokespecial ix, 3)) (hst0 : st = As.reverse ++ .ref b :: rest) (hn : As.length = mP k) (hrest : (rest.map fun v => v.category).sum ≤ 8) (hdd : d' + 1 ≤ d) (hcm : cc + mc' ≤ mc ∧ ss + ms' ≤ ms)
    (hcon : Con l k d' mc' ms' (.ref b :: As) sh w P') (hal : (∀ v sh1 w1, P' v sh1 w1 → sh1.length = sh.length) ∨ okR sh.length lv rest)
    (kk : ∀ v sh1 w1, P' v sh1 w1 → Wp l id d mc ms P (cc + mc') (ss + ms') (pc + 3) lv (v.toList ++ rest) sh1 w1) : Wp l id d mc ms P cc ss pc lv st sh w := by
  intro D tyC B0 ad0 n0 p e R s m args below meth c Q hF hK hB hR hst hret H locs ls ad hA hW hS hl hcc
  obtain ⟨hk1, hk2, hk3, -, -, hk4⟩ := mk_spec hk
  obtain ⟨hl1, hl2, hl3⟩ := lFind_spec hF.2.2.2.2.2.2.2.2 hl0
  have hts := hF.2.2.2.2.2.1
  have hsz : ls.size = mL id := hl.1
  have hpre : ∀ U : State, U.heap = H → s.WarmedH U.vm → (va_Pc ((.ref b :: As).map (cvv ad)) (fun U => Wst l D tyC B0 ad sh w U)) (Value.ref (ad b) :: As.map (cvv ad)).toArray U := fun U hU hWm =>
    ⟨rfl, by rw [hU]; exact Nat.le_trans hB hS.1, by rw [hU]; exact hW, va_K.moved hWm.alike hK, by rw [hU]; exact Stat_warm hWm hS (Stat_ad (fun i hi => hA.2 i (by have := hW.1; omega)) hst)⟩
  refine Wp_after hal hcm kk hF hK hB hR hst hret hA hS hl (a := (Value.ref (ad b) :: As.map (cvv ad)).toArray) ?_
  have hstk : st.map (cvv ad) = (As.map (cvv ad)).reverse ++ .ref (ad b) :: rest.map (cvv ad) := by rw [hst0, List.map_append, List.map_reverse]; rfl
  have hcat : ((rest.map (cvv ad)).map fun v => v.category).sum ≤ 8 := by rw [List.map_map]; simpa [Function.comp_def, cvv_cat] using hrest
  have hrm : (rmM d' mc' ms').frames + 1 ≤ R.frames ∧ 8 + (mL k + 11) + (rmM d' mc' ms').locals ≤ R.locals := ⟨Nat.le_trans hdd hR.1, by show 8 + (mL k + 11) + 100 * d' ≤ R.locals; have := hR.2.1; omega⟩
  have hf : cc + mc' ≤ R.cells ∧ ss + ms' ≤ R.slots := ⟨Nat.le_trans hcm.1 hR.2.2.1, Nat.le_trans hcm.2 hR.2.2.2⟩
  have hmet := hcon D tyC B0 ad
  unfold wsM at hmet
  have hgin := gin_m hc
  unfold wsM at hgin
  rw [(hk4 hv).2.2] at hmet hgin
  by_cases hne : nest = 1
  · exact va_runIN (own := cN (mO id)) (Ts := gTbl) ⟨hF.1, hF.2.1, hF.2.2.1, hF.2.2.2.2.1, hts⟩ hmet ⟨va_cnB (mP k) hts hgin rfl rfl rfl (hst.1 _ (hl2 hne)) (hts _ hk2) hk1 hrm, (hk4 hv).2.1, hts _ (hk4 hv).1⟩ ⟨Wst_blind, hpre⟩ rfl (by rw [List.length_map]; exact hn) hsz hstk (lv_room hcat) hd hf
  · exact va_runI (own := cN (mO id)) (Ts := gTbl) ⟨hF.1, hF.2.1, hF.2.2.1, hF.2.2.2.2.1, hts⟩ hmet (cwI (mP k) hts hgin rfl rfl rfl (hts _ hk2) (hts _ (hl3 hne)) (hts _ (hk4 hv).1) (hk4 hv).2.1 hk1 hrm) ⟨Wst_blind, hpre⟩ rfl (by rw [List.length_map]; exact hn) hsz hstk (lv_room hcat) hd hf
end
end
