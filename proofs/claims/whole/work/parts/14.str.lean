section
abbrev yLen : MethodName := ⟨"java/lang/String", "length", "()I"⟩
abbrev bLen : ByteArray := prog_14_method_54_code
theorem plLen : plainFor yLen = true := by decide +kernel
abbrev yCod : MethodName := ⟨"java/lang/String", "coder", "()B"⟩
abbrev bCod : ByteArray := prog_14_method_152_code
theorem plCod : plainFor yCod = true := by decide +kernel
abbrev yCha : MethodName := ⟨"java/lang/String", "charAt", "(I)C"⟩
abbrev bCha : ByteArray := prog_14_method_56_code
theorem plCha : plainFor yCha = true := by decide +kernel
abbrev yIsl : MethodName := ⟨"java/lang/String", "isLatin1", "()Z"⟩
abbrev bIsl : ByteArray := prog_14_method_154_code
theorem plIsl : plainFor yIsl = true := by decide +kernel
abbrev yLch : MethodName := ⟨"java/lang/StringLatin1", "charAt", "([BI)C"⟩
abbrev bLch : ByteArray := prog_15_method_2_code
theorem plLch : plainFor yLch = true := by decide +kernel
abbrev yChk : MethodName := ⟨"java/lang/String", "checkIndex", "(II)V"⟩
abbrev bChk : ByteArray := prog_14_method_155_code
theorem plChk : plainFor yChk = true := by decide +kernel
abbrev yPre : MethodName := ⟨"jdk/internal/util/Preconditions", "checkIndex", "(IILjava/util/function/BiFunction;)I"⟩
abbrev bPre : ByteArray := prog_18_method_11_code
theorem plPre : plainFor yPre = true := by decide +kernel
set_option maxRecDepth 100000 in
theorem wcLen : Cond.code yLen bLen 1 (some .int) ∈ gTbl := g_in (i := 737) rfl rfl
set_option maxRecDepth 100000 in
theorem wcCod : Cond.code yCod bCod 1 (some .byte) ∈ gTbl := g_in (i := 741) rfl rfl
set_option maxRecDepth 100000 in
theorem wcCha : Cond.code yCha bCha 2 (some .char) ∈ gTbl := g_in (i := 747) rfl rfl
set_option maxRecDepth 100000 in
theorem wcIsl : Cond.code yIsl bIsl 1 (some .boolean) ∈ gTbl := g_in (i := 751) rfl rfl
set_option maxRecDepth 100000 in
theorem wcLch : Cond.code yLch bLch 2 (some .char) ∈ gTbl := g_in (i := 754) rfl rfl
set_option maxRecDepth 100000 in
theorem wcChk : Cond.code yChk bChk 2 none ∈ gTbl := g_in (i := 757) rfl rfl
set_option maxRecDepth 100000 in
theorem wcPre : Cond.code yPre bPre 3 (some .int) ∈ gTbl := g_in (i := 762) rfl rfl
set_option maxRecDepth 100000 in
theorem wiS : Cond.initialized "java/lang/String" ∈ gTbl := g_in (i := 124) rfl rfl
set_option maxRecDepth 100000 in
theorem wiL : Cond.initialized "java/lang/StringLatin1" ∈ gTbl := g_in (i := 125) rfl rfl
set_option maxRecDepth 100000 in
theorem wiP : Cond.initialized "jdk/internal/util/Preconditions" ∈ gTbl := g_in (i := 126) rfl rfl
set_option maxRecDepth 100000 in
theorem wl135 : Cond.methodLink "VectorShelf$TextReader" 135 yLen ∈ gTbl := g_in (i := 734) rfl rfl
set_option maxRecDepth 100000 in
theorem wnLen : Cond.instanceMethod yLen ∈ gTbl := g_in (i := 735) rfl rfl
set_option maxRecDepth 100000 in
theorem wsLen : Cond.selects "java/lang/String" yLen yLen ∈ gTbl := g_in (i := 736) rfl rfl
set_option maxRecDepth 100000 in
theorem wl335 : Cond.methodLink "java/lang/String" 335 yCod ∈ gTbl := g_in (i := 738) rfl rfl
set_option maxRecDepth 100000 in
theorem wnCod : Cond.instanceMethod yCod ∈ gTbl := g_in (i := 739) rfl rfl
set_option maxRecDepth 100000 in
theorem wsCod : Cond.selects "java/lang/String" yCod yCod ∈ gTbl := g_in (i := 740) rfl rfl
set_option maxRecDepth 100000 in
theorem wf38 : Cond.fieldLink "java/lang/String" 38 "java/lang/String" "COMPACT_STRINGS" "Z" ∈ gTbl := g_in (i := 742) rfl rfl
set_option maxRecDepth 100000 in
theorem wl140 : Cond.methodLink "VectorShelf$TextReader" 140 yCha ∈ gTbl := g_in (i := 744) rfl rfl
set_option maxRecDepth 100000 in
theorem wnCha : Cond.instanceMethod yCha ∈ gTbl := g_in (i := 745) rfl rfl
set_option maxRecDepth 100000 in
theorem wsCha : Cond.selects "java/lang/String" yCha yCha ∈ gTbl := g_in (i := 746) rfl rfl
set_option maxRecDepth 100000 in
theorem wl492 : Cond.methodLink "java/lang/String" 492 yIsl ∈ gTbl := g_in (i := 748) rfl rfl
set_option maxRecDepth 100000 in
theorem wnIsl : Cond.instanceMethod yIsl ∈ gTbl := g_in (i := 749) rfl rfl
set_option maxRecDepth 100000 in
theorem wsIsl : Cond.selects "java/lang/String" yIsl yIsl ∈ gTbl := g_in (i := 750) rfl rfl
set_option maxRecDepth 100000 in
theorem wl495 : Cond.methodLink "java/lang/String" 495 yLch ∈ gTbl := g_in (i := 752) rfl rfl
set_option maxRecDepth 100000 in
theorem wtLch : Cond.static yLch ∈ gTbl := g_in (i := 753) rfl rfl
set_option maxRecDepth 100000 in
theorem wl9 : Cond.methodLink "java/lang/StringLatin1" 9 yChk ∈ gTbl := g_in (i := 755) rfl rfl
set_option maxRecDepth 100000 in
theorem wtChk : Cond.static yChk ∈ gTbl := g_in (i := 756) rfl rfl
set_option maxRecDepth 100000 in
theorem wf1053 : Cond.fieldLink "java/lang/String" 1053 "jdk/internal/util/Preconditions" "SIOOBE_FORMATTER" "Ljava/util/function/BiFunction;" ∈ gTbl := g_in (i := 758) rfl rfl
set_option maxRecDepth 100000 in
theorem wl1059 : Cond.methodLink "java/lang/String" 1059 yPre ∈ gTbl := g_in (i := 760) rfl rfl
set_option maxRecDepth 100000 in
theorem wtPre : Cond.static yPre ∈ gTbl := g_in (i := 761) rfl rfl
set_option maxRecDepth 100000 in
theorem wf9 : Cond.fieldLink "java/lang/String" 9 "java/lang/String" "value" "[B" ∈ gTbl := g_in (i := 1868) rfl rfl
set_option maxRecDepth 100000 in
theorem wf15 : Cond.fieldLink "java/lang/String" 15 "java/lang/String" "coder" "B" ∈ gTbl := g_in (i := 1869) rfl rfl
def retY (ret : Option FieldType) (cb : ByteArray) (pc : Nat) (r : Option Value) : Prop := match ret, r with
  | none, none => decode cb pc = .ok (.return_, 1)
  | some ty, some (.int x) => decode cb pc = .ok (.ireturn, 1) ∧ narrow ty (.int x) = .int x
  | _, _ => False
def gS (D : va_G) (tyC : FieldType → ClassId) (B0 : Nat) (ad : Nat → Nat) (sh : List Sh) (w : Wd) (s : State) (H : Heap) (locs : List Loc) : Prop :=
  Wok D tyC B0 ad sh w H ∧ va_S (fun q => B0 ≤ q) s.heap H locs
section
variable {l : LX} {y : MethodName} {cb : ByteArray} {ml d : Nat} {ret : Option FieldType} {as : List Value} {D : va_G} {tyC : FieldType → ClassId} {B0 : Nat} {ad : Nat → Nat} {sh : List Sh} {w : Wd} {Z : State → Prop} {r : Option Value}
def CJ (l : LX) (y : MethodName) (cb : ByteArray) (ml : Nat) (ret : Option FieldType) (d : Nat) (as : List Value) (D : va_G) (tyC : FieldType → ClassId) (B0 : Nat) (ad : Nat → Nat) (sh : List Sh) (w : Wd) (Z : State → Prop) (r : Option Value) : Prop :=
  Met l.1 y (Cond.code y cb ml ret :: gTbl) (rmM d 0 0) (va_Pc as (fun U => Wst l D tyC B0 ad sh w U ∧ Z U)) (Qend (fun v s1 w1 => v = r ∧ s1 = sh ∧ w1 = w) D tyC B0 ad sh.length) 0 0 (fun q => B0 ≤ q)
theorem met_of (hy : plainFor y = true) (hsl : (lg_sl as).length ≤ ml) (hcv : r.map (cvv ad) = r)
    (body : ∀ (p : Program) (e : Env) (R : Room) (s : State) (m : MethodId) (below : List Frame) (meth : Method) (c : Code) (Q : State → Prop),
      p.tables.exec = Jvm.exec → c.code = cb → c.maxLocals = ml → s.vm.findClass y.cls = some m.cls → (∀ w ∈ gTbl, w.before as.toArray s = true) → rmOk R d 0 0 → Wst l D tyC B0 ad sh w s → Z s →
      (∀ (H1 : Heap) (locs1 : List Loc) (pc : Nat) (ls1 : Array Slot), gS D tyC B0 ad sh w s H1 locs1 → retY ret cb pc r → W p l.1 e R s m as.toArray below meth c H1 locs1 0 0 Q (F0 m pc ls1 r.toList)) →
      ∀ (H : Heap) (locs : List Loc) (ls : Array Slot), gS D tyC B0 ad sh w s H locs → lv_has ls ml (lv_args 0 as) → W p l.1 e R s m as.toArray below meth c H locs 0 0 Q (F0 m 0 ls [])) :
    CJ l y cb ml ret d as D tyC B0 ad sh w Z r := by
  refine Met.ofWF (cc := cb) (maxL := ml) (ret := ret) hy rfl ?_
  intro p e s m args below meth c s₁ B hml hv
  obtain ⟨rfl, hv, hZ⟩ := hv
  have hts : ∀ w ∈ gTbl, w.before _ s = true := fun w hw => atoms_spec (ws := Cond.code y cb ml ret :: gTbl) B.pre w (List.mem_cons_of_mem _ hw)
  have hown := findClass_of_methodNamed B.named
  rw [lg_entry_eq]
  have hl := lv_entry as (n := ml) hsl
  refine body p e _ s m below meth c _ B.exec B.bytes hml hown hts ⟨Nat.le_refl d, Nat.le_refl (100 * d), Nat.le_refl 0, Nat.le_refl 0⟩ hv hZ ?_ s.heap [] _ ⟨hv.2.1, va_S.rf⟩ hl
  intro H1 locs1 pc ls1 hG hr
  have hend : ∀ t : State, t.heap = H1 → s.WarmedH t.vm → Qend (fun v s1 w1 => v = r ∧ s1 = sh ∧ w1 = w) D tyC B0 ad sh.length as.toArray s (.returned r) t := fun t ht _ => ⟨⟨r, sh, w, ad, ⟨rfl, rfl, rfl⟩, ⟨Nat.le_refl _, fun _ _ => rfl⟩, by rw [hcv], by rw [ht]; exact hG.1⟩, hG.2.F ht⟩
  have hR := B.returns
  have hlk := B.notSynchronized
  unfold retY at hr
  split at hr
  · exact W.vret B.exec B.bytes hR hend (fun q hq => hG.2.2.2 q hq) hr
  · exact W.zret B.exec B.bytes hR hr.2 hend (fun q hq => hG.2.2.2 q hq) hr.1
  · exact hr.elim
theorem W_jc {p : Program} {e : Env} {R : Room} {s : State} {m : MethodId} {args a : Array Value} {below : List Frame} {meth : Method} {c : Code} {H : Heap} {locs : List Loc} {Q : State → Prop} {pc cc ss : Nat} {ls : Array Slot} {rest st0 : List Value} (hcv : r.map (cvv ad) = r) (hG : gS D tyC B0 ad sh w s H locs)
    (hr : va_Run p l.1 e R s m args below meth c H locs cc ss 0 0 (F0 m pc ls st0) rest (Qend (fun v s1 w1 => v = r ∧ s1 = sh ∧ w1 = w) D tyC B0 ad sh.length a) (fun q => B0 ≤ q))
    (kk : ∀ (H1 : Heap) (locs1 : List Loc), gS D tyC B0 ad sh w s H1 locs1 → W p l.1 e R s m args below meth c H1 locs1 cc ss Q (F0 m (pc + 3) ls (r.toList ++ rest))) : W p l.1 e R s m args below meth c H locs cc ss Q (F0 m pc ls st0) := by
  refine W_callG hr ?_
  intro v st₀ t H1 locs1 e0 e1 hq hL
  obtain ⟨⟨v', sh1, w1, ad1, ⟨rfl, rfl, rfl⟩, hA1, hv, hW1⟩, hFr⟩ := hq
  cases hv
  obtain ⟨L, rfl, hL⟩ := hL
  have hS := hG.2
  have hS1 : va_S (fun q => B0 ≤ q) s.heap H1 (locs ++ L) := by
    unfold va_F at hFr
    rw [e0, e1] at hFr
    exact ⟨Nat.le_trans hS.1 hFr.1, fun q h1 h2 => (hFr.2 q (Nat.lt_of_lt_of_le h1 hS.1) h2).trans (hS.2.1 q h1 h2), fun q hq => (List.mem_append.mp hq).elim (hS.2.2 q) (hL q)⟩
  rw [e1, agr_eq hA1 rfl] at hW1
  rw [agr_eq hA1 rfl, hcv]
  exact kk H1 (locs ++ L) ⟨hW1, hS1⟩
theorem pre_of3 {s : State} {H : Heap} {locs : List Loc} (h1 : B0 ≤ s.heap.size) (h2 : va_K D clsT (tyL tyC) s) (h3 : Stat l ad B0 s s.heap) (hG : gS D tyC B0 ad sh w s H locs) (hZ : ∀ U : State, U.heap = H → s.WarmedH U.vm → Z U) : ∀ U : State, U.heap = H → s.WarmedH U.vm → (va_Pc as (fun U => Wst l D tyC B0 ad sh w U ∧ Z U)) as.toArray U := fun U hU hWm =>
  ⟨rfl, ⟨by rw [hU]; exact Nat.le_trans h1 hG.2.1, by rw [hU]; exact hG.1, va_K.moved hWm.alike h2, by rw [hU]; exact Stat_warm hWm hG.2 h3⟩, hZ U hU hWm⟩
theorem pre_of {p : Program} {s : State} {H : Heap} {locs : List Loc} (h : Wst l D tyC B0 ad sh w s) (hG : gS D tyC B0 ad sh w s H locs) (hZ : ∀ U : State, U.heap = H → s.WarmedH U.vm → Z U) : ∀ U : State, U.heap = H → s.WarmedH U.vm → (va_Pc as (fun U => Wst l D tyC B0 ad sh w U ∧ Z U)) as.toArray U := pre_of3 h.1 h.2.2.1 h.2.2.2 hG hZ
theorem blind_of (hb : ∀ (U : State) (g : JFrame) (mk : MethodId) (a : Array Value), Z U → Z (U.calling g mk a)) : FrameBlind (va_Pc as (fun U => Wst l D tyC B0 ad sh w U ∧ Z U)) := by
  intro a U g mk hp
  exact ⟨hp.1, ⟨hp.2.1.1, hp.2.1.2.1, va_K.moved (u := U) (U := U.calling g mk a) (Vm.Alike.refl U.vm) hp.2.1.2.2.1, Stat_same (u := U) (U := U.calling g mk a) rfl hp.2.1.2.2.2⟩, hb U g mk a hp.2.2⟩
end
theorem gG {w : Cond} (h : w ∈ gTbl) : w ∈ gTbl ∧ ((w.onTables && w.keeps) = true ∨ ∃ ty, w = .arrayClass ty) := ⟨h, good_of_word (List.all_eq_true.mp tbl_good _ h)⟩
theorem gV {own C : String} {ix : Nat} {y : MethodName} {cb : ByteArray} {ml : Nat} {ret : Option FieldType} (h1 : Cond.methodLink own ix y ∈ gTbl) (h2 : Cond.instanceMethod y ∈ gTbl) (h3 : Cond.selects C y y ∈ gTbl) (h4 : Cond.initialized C ∈ gTbl) (h5 : Cond.code y cb ml ret ∈ gTbl) : GoodIn gTbl (wsV own ix C y (Cond.code y cb ml ret :: gTbl)) := by
  intro w hw
  unfold wsV at hw
  rcases List.mem_append.mp hw with hw | hw
  · simp only [List.mem_cons, List.not_mem_nil, or_false] at hw
    rcases hw with rfl | rfl | rfl | rfl <;> exact gG ‹_›
  · rcases List.mem_cons.mp hw with rfl | hw <;> exact gG ‹_›
theorem gSt {own : String} {ix : Nat} {y : MethodName} {cb : ByteArray} {ml : Nat} {ret : Option FieldType} (h1 : Cond.methodLink own ix y ∈ gTbl) (h2 : Cond.static y ∈ gTbl) (h3 : Cond.initialized y.cls ∈ gTbl) (h5 : Cond.code y cb ml ret ∈ gTbl) : GoodIn gTbl (va_wsS own ix y (Cond.code y cb ml ret :: gTbl)) := by
  intro w hw
  unfold va_wsS at hw
  rcases List.mem_append.mp hw with hw | hw
  · simp only [List.mem_cons, List.not_mem_nil, or_false] at hw
    rcases hw with rfl | rfl | rfl <;> exact gG ‹_›
  · rcases List.mem_cons.mp hw with rfl | hw <;> exact gG ‹_›
section
variable {l : LX} {D : va_G} {tyC : FieldType → ClassId} {B0 : Nat} {ad : Nat → Nat} {sh : List Sh} {w : Wd}
abbrev noZ : State → Prop := fun _ => True
theorem cj_Cod {d i : Nat} (hi : i < 11) : CJ l yCod bCod 1 (some .byte) d [.ref (ad (1000001 + i))] D tyC B0 ad sh w noZ (some (.int 0)) := by
  refine met_of plCod (Nat.le_of_ble_eq_true rfl) rfl ?_
  intro p e R s m below meth c Q hx hb hml hown hts hR hw _ ret H locs ls hG hl
  obtain ⟨⟨adV, hV⟩, -, hZ, -⟩ := hw.2.2.2.2.2.2.2.2.2
  refine va_gets hx hb hZ hG.2 hown (hts _ wf38) (fun _ h => h) (show decode bCod 0 = .ok (.getstatic 38, 3) by decide +kernel) ?_
  refine lv_if_eq hx hb (show decode bCod 3 = .ok (.ifCond .eq 10, 3) by decide +kernel) (tgt := 13) (by decide) (fun h => absurd h (by decide)) (fun _ => ?_)
  refine lv_aload_n hx hb (show decode bCod 6 = .ok (.aload_n 0, 1) by decide +kernel) rfl (lv_at hl 0 rfl) ?_
  refine vk_getf hx hb (hV.1 i hi).2.1 hG.2 hown (hts _ wf15) (fun _ h => h) (show decode bCod 7 = .ok (.getfield 15, 3) by decide +kernel) ?_
  refine lv_goto hx hb (show decode bCod 10 = .ok (.goto 4, 3) by decide +kernel) (tgt := 14) (by decide) ?_
  exact ret H locs 14 ls hG ⟨by decide +kernel, rfl⟩
theorem cj_Isl {d i : Nat} (hi : i < 11) : CJ l yIsl bIsl 1 (some .boolean) d [.ref (ad (1000001 + i))] D tyC B0 ad sh w noZ (some (.int 1)) := by
  refine met_of plIsl (Nat.le_of_ble_eq_true rfl) rfl ?_
  intro p e R s m below meth c Q hx hb hml hown hts hR hw _ ret H locs ls hG hl
  obtain ⟨⟨adV, hV⟩, -, hZ, -⟩ := hw.2.2.2.2.2.2.2.2.2
  refine va_gets hx hb hZ hG.2 hown (hts _ wf38) (fun _ h => h) (show decode bIsl 0 = .ok (.getstatic 38, 3) by decide +kernel) ?_
  refine lv_if_eq hx hb (show decode bIsl 3 = .ok (.ifCond .eq 14, 3) by decide +kernel) (tgt := 17) (by decide) (fun h => absurd h (by decide)) (fun _ => ?_)
  refine lv_aload_n hx hb (show decode bIsl 6 = .ok (.aload_n 0, 1) by decide +kernel) rfl (lv_at hl 0 rfl) ?_
  refine vk_getf hx hb (hV.1 i hi).2.1 hG.2 hown (hts _ wf15) (fun _ h => h) (show decode bIsl 7 = .ok (.getfield 15, 3) by decide +kernel) ?_
  refine lv_if_ne hx hb (show decode bIsl 10 = .ok (.ifCond .ne 7, 3) by decide +kernel) (tgt := 17) (by decide) (fun h => absurd rfl h) (fun _ => ?_)
  refine lv_iconst hx hb (show decode bIsl 13 = .ok (.iconst 1, 1) by decide +kernel) (v := 1) rfl ?_
  refine lv_goto hx hb (show decode bIsl 14 = .ok (.goto 4, 3) by decide +kernel) (tgt := 18) (by decide) ?_
  exact ret H locs 18 ls hG ⟨by decide +kernel, rfl⟩
theorem sLen_lt (i : Nat) : sLen.getD i 0 < 2 ^ 31 := by
  match i with
  | 0 | 1 | 2 | 3 | 4 | 5 | 6 | 7 | 8 | 9 | 10 => decide
  | n + 11 => rw [List.getD_eq_getElem?_getD, List.getElem?_eq_none (by show 11 ≤ n + 11; omega)]; decide
theorem cj_Len {d i : Nat} (hi : i < 11) (hd1 : 1 ≤ d) : CJ l yLen bLen 1 (some .int) d [.ref (ad (1000001 + i))] D tyC B0 ad sh w noZ (some (.int (nI (sLen.getD i 0)))) := by
  refine met_of plLen (Nat.le_of_ble_eq_true rfl) rfl ?_
  intro p e R s m below meth c Q hx hb hml hown hts hR hw _ ret H locs ls hG hl
  obtain ⟨⟨adV, hV⟩, -, hZ, -⟩ := hw.2.2.2.2.2.2.2.2.2
  refine lv_aload_n hx hb (show decode bLen 0 = .ok (.aload_n 0, 1) by decide +kernel) rfl (lv_at hl 0 rfl) ?_
  refine vk_getf hx hb (hV.1 i hi).2.2.1 hG.2 hown (hts _ wf9) (fun _ h => h) (show decode bLen 1 = .ok (.getfield 9, 3) by decide +kernel) ?_
  refine va_tlen hx hb (hV.1 i hi).2.2.2 hG.2 (v := nI (sLen.getD i 0)) rfl (show decode bLen 4 = .ok (.arraylength, 1) by decide +kernel) ?_
  refine lv_aload_n hx hb (show decode bLen 5 = .ok (.aload_n 0, 1) by decide +kernel) rfl (lv_at hl 0 rfl) ?_
  refine W_jc (r := some (.int 0)) rfl hG (va_runV (own := "java/lang/String") (Ts := gTbl) ⟨hx, hb, hml, hown, hts⟩ (cj_Cod (d := 0) (l := l) (D := D) (tyC := tyC) (B0 := B0) (ad := ad) (sh := sh) (w := w) hi) (cwV 0 hts (gV wl335 wnCod wsCod wiS wcCod) rfl rfl rfl ⟨rfl, by decide, by decide, by decide⟩ ⟨Nat.le_trans hd1 hR.1, ?_⟩) ⟨blind_of (fun _ _ _ _ h => h), vk_recv hV hi hG.2, pre_of (p := p) hw hG (fun _ _ _ => trivial)⟩ rfl rfl hl.1 rfl (lv_room (Nat.le_of_ble_eq_true rfl)) (show decode bLen 6 = .ok (.invokevirtual 335, 3) by decide +kernel) ⟨Nat.zero_le _, Nat.zero_le _⟩) ?_
  · have := hR.2.1
    show 8 + (1 + 11) + 100 * 0 ≤ R.locals
    omega
  intro H1 locs1 hG1
  refine lv_ishr hx hb (show decode bLen 9 = .ok (.ishr, 1) by decide +kernel) ?_
  rw [show (nI (sLen.getD i 0)) >>> ((0 : Int32) &&& 31) = nI (sLen.getD i 0) from by rw [show ((0 : Int32) &&& 31) = 0 from by decide, Int32.shiftRight_zero]]
  exact ret H1 locs1 10 ls hG1 ⟨by decide +kernel, rfl⟩
end
section
variable {l : LX} {D : va_G} {tyC : FieldType → ClassId} {B0 : Nat} {ad : Nat → Nat} {sh : List Sh} {w : Wd}
theorem cj_Pre {d : Nat} {x n : Int32} {q : Value} (hq : q = .null ∨ ∃ a, q = .ref a) (h1 : ¬ x < 0) (h2 : x < n) : CJ l yPre bPre 3 (some .int) d [.int x, .int n, q] D tyC B0 ad sh w noZ (some (.int x)) := by
  refine met_of plPre (by rcases hq with rfl | ⟨a, rfl⟩ <;> exact Nat.le_refl 3) rfl ?_
  intro p e R s m below meth c Q hx hb hml hown hts hR hw _ ret H locs ls hG hl
  have h0 : ls[0]? = some (.val (.int x)) := by rcases hq with rfl | ⟨a, rfl⟩ <;> exact lv_at hl 0 rfl
  have h1' : ls[1]? = some (.val (.int n)) := by rcases hq with rfl | ⟨a, rfl⟩ <;> exact lv_at hl 1 rfl
  refine lv_iload_n hx hb (show decode bPre 0 = .ok (.iload_n 0, 1) by decide +kernel) rfl h0 ?_
  refine lv_if_lt hx hb (show decode bPre 1 = .ok (.ifCond .lt 8, 3) by decide +kernel) (tgt := 9) (by decide) (fun h => absurd h h1) (fun _ => ?_)
  refine lv_iload_n hx hb (show decode bPre 4 = .ok (.iload_n 0, 1) by decide +kernel) rfl h0 ?_
  refine lv_iload_n hx hb (show decode bPre 5 = .ok (.iload_n 1, 1) by decide +kernel) rfl h1' ?_
  refine lv_icmp_lt hx hb (show decode bPre 6 = .ok (.if_icmp .lt 10, 3) by decide +kernel) (tgt := 16) (by decide) (fun _ => ?_) (fun h => absurd h2 h)
  refine lv_iload_n hx hb (show decode bPre 16 = .ok (.iload_n 0, 1) by decide +kernel) rfl h0 ?_
  exact ret H locs 17 ls hG ⟨by decide +kernel, rfl⟩
theorem cj_Chk {d : Nat} {x n : Int32} (h1 : ¬ x < 0) (h2 : x < n) (hd1 : 1 ≤ d) : CJ l yChk bChk 2 none d [.int x, .int n] D tyC B0 ad sh w noZ none := by
  refine met_of plChk (by exact Nat.le_refl 2) rfl ?_
  intro p e R s m below meth c Q hx hb hml hown hts hR hw _ ret H locs ls hG hl
  obtain ⟨-, -, -, hF⟩ := hw.2.2.2.2.2.2.2.2.2
  refine lv_iload_n hx hb (show decode bChk 0 = .ok (.iload_n 0, 1) by decide +kernel) rfl (lv_at hl 0 rfl) ?_
  refine lv_iload_n hx hb (show decode bChk 1 = .ok (.iload_n 1, 1) by decide +kernel) rfl (lv_at hl 1 rfl) ?_
  have hRl := hR.2.1
  have go : ∀ q : Value, (q = .null ∨ ∃ a, q = .ref a) → va_Z "jdk/internal/util/Preconditions" "SIOOBE_FORMATTER" "Ljava/util/function/BiFunction;" q (fun q => B0 ≤ q) s s.heap → W p l.1 e R s m ([.int x, .int n] : List Value).toArray below meth c H locs 0 0 Q (F0 m (1 + 1) ls [.int n, .int x]) := by
    intro q hq hZ
    refine va_gets hx hb hZ hG.2 hown (hts _ wf1053) (fun _ h => h) (show decode bChk 2 = .ok (.getstatic 1053, 3) by decide +kernel) ?_
    refine W_jc (r := some (.int x)) rfl hG (va_runS (own := "java/lang/String") (Ts := gTbl) ⟨hx, hb, hml, hown, hts⟩ (cj_Pre (d := 0) (l := l) (D := D) (tyC := tyC) (B0 := B0) (ad := ad) (sh := sh) (w := w) hq h1 h2) (va_cwS 3 hts (gSt wl1059 wtPre wiP wcPre) rfl rfl rfl ⟨by decide, by decide, by decide⟩ ⟨Nat.le_trans hd1 hR.1, by show 8 + (3 + 11) + 100 * 0 ≤ R.locals; omega⟩) ⟨blind_of (fun _ _ _ _ h => h), pre_of (p := p) hw hG (fun _ _ _ => trivial)⟩ rfl rfl hl.1 rfl (lv_room (Nat.le_of_ble_eq_true rfl)) (show decode bChk 5 = .ok (.invokestatic 1059, 3) by decide +kernel) ⟨Nat.zero_le _, Nat.zero_le _⟩) ?_
    intro H1 locs1 hG1
    refine lv_pop hx hb (show decode bChk 8 = .ok (.pop, 1) by decide +kernel) rfl ?_
    exact ret H1 locs1 9 ls hG1 (by show decode bChk 9 = .ok (.return_, 1); decide +kernel)
  rcases hF with hF | ⟨a, hF⟩
  · exact go _ (Or.inl rfl) hF
  · exact go _ (Or.inr ⟨a, rfl⟩) hF
def bytZ (B0 v n : Nat) (f : Nat → Int32) : State → Prop := fun U => va_T .byte v n (fun j => .int (f j)) (fun q => B0 ≤ q) U U.heap
theorem cj_Lch {d v n k : Nat} {f : Nat → Int32} (hk : k < n) (hn : n < 2 ^ 31) (hf : f k &&& 255 = f k ∧ narrow .char (.int (f k)) = .int (f k) ∧ ((f k).toUInt32 % 65536).toInt32 = f k) (hd2 : 2 ≤ d) : CJ l yLch bLch 2 (some .char) d [.ref v, .int (nI k)] D tyC B0 ad sh w (bytZ B0 v n f) (some (.int (f k))) := by
  refine met_of plLch (by exact Nat.le_refl 2) rfl ?_
  intro p e R s m below meth c Q hx hb hml hown hts hR hw hZ ret H locs ls hG hl
  have hRl := hR.2.1
  have hRf := hR.1
  refine lv_iload_n hx hb (show decode bLch 0 = .ok (.iload_n 1, 1) by decide +kernel) rfl (lv_at hl 1 rfl) ?_
  refine lv_aload_n hx hb (show decode bLch 1 = .ok (.aload_n 0, 1) by decide +kernel) rfl (lv_at hl 0 rfl) ?_
  refine va_tlen hx hb hZ hG.2 (v := nI n) rfl (show decode bLch 2 = .ok (.arraylength, 1) by decide +kernel) ?_
  refine W_jc (r := none) rfl hG (va_runS (own := "java/lang/StringLatin1") (Ts := gTbl) ⟨hx, hb, hml, hown, hts⟩ (cj_Chk (d := 1) (l := l) (D := D) (tyC := tyC) (B0 := B0) (ad := ad) (sh := sh) (w := w) (nI_pos (by omega)) (nI_lt hk hn) (Nat.le_refl 1)) (va_cwS 2 hts (gSt wl9 wtChk wiS wcChk) rfl rfl rfl ⟨by decide, by decide, by decide⟩ ⟨Nat.le_trans hd2 hRf, by show 8 + (2 + 11) + 100 * 1 ≤ R.locals; omega⟩) ⟨blind_of (fun _ _ _ _ h => h), pre_of (p := p) hw hG (fun _ _ _ => trivial)⟩ rfl rfl hl.1 rfl (lv_room (Nat.le_of_ble_eq_true rfl)) (show decode bLch 3 = .ok (.invokestatic 9, 3) by decide +kernel) ⟨Nat.zero_le _, Nat.zero_le _⟩) ?_
  intro H1 locs1 hG1
  refine lv_aload_n hx hb (show decode bLch 6 = .ok (.aload_n 0, 1) by decide +kernel) rfl (lv_at hl 0 rfl) ?_
  refine lv_iload_n hx hb (show decode bLch 7 = .ok (.iload_n 1, 1) by decide +kernel) rfl (lv_at hl 1 rfl) ?_
  refine va_tb hx hb hZ hG1.2 (vp_in_nI hk hn) (v := .int (f k)) (by rw [nI_clamp (by omega)]) (show decode bLch 8 = .ok (.baload, 1) by decide +kernel) ?_
  refine lv_sipush hx hb (show decode bLch 9 = .ok (.sipush 255, 3) by decide +kernel) (v := 255) (by decide) ?_
  refine lv_iand hx hb (show decode bLch 12 = .ok (.iand, 1) by decide +kernel) ?_
  refine lv_i2c hx hb (show decode bLch 13 = .ok (.i2c, 1) by decide +kernel) (v := f k) (by rw [hf.1]; exact hf.2.2) ?_
  exact ret H1 locs1 14 ls hG1 ⟨by decide +kernel, hf.2.1⟩
theorem sByt_ok : ∀ i, i < 11 → ∀ k, k < sLen.getD i 0 → (sByt.getD i []).getD k 0 &&& 255 = (sByt.getD i []).getD k 0 ∧ narrow .char (.int ((sByt.getD i []).getD k 0)) = .int ((sByt.getD i []).getD k 0) ∧ (((sByt.getD i []).getD k 0).toUInt32 % 65536).toInt32 = (sByt.getD i []).getD k 0 := by decide +kernel
theorem cj_Cha {d i k : Nat} (hi : i < 11) (hk : k < sLen.getD i 0) (hd3 : 3 ≤ d) : CJ l yCha bCha 2 (some .char) d [.ref (ad (1000001 + i)), .int (nI k)] D tyC B0 ad sh w noZ (some (.int ((sByt.getD i []).getD k 0))) := by
  refine met_of plCha (by exact Nat.le_refl 2) rfl ?_
  intro p e R s m below meth c Q hx hb hml hown hts hR hw _ ret H locs ls hG hl
  obtain ⟨⟨adV, hV⟩, -, hZ, -⟩ := hw.2.2.2.2.2.2.2.2.2
  have hRl := hR.2.1
  have hRf := hR.1
  refine lv_aload_n hx hb (show decode bCha 0 = .ok (.aload_n 0, 1) by decide +kernel) rfl (lv_at hl 0 rfl) ?_
  refine W_jc (r := some (.int 1)) rfl hG (va_runV (own := "java/lang/String") (Ts := gTbl) ⟨hx, hb, hml, hown, hts⟩ (cj_Isl (d := 0) (l := l) (D := D) (tyC := tyC) (B0 := B0) (ad := ad) (sh := sh) (w := w) hi) (cwV 0 hts (gV wl492 wnIsl wsIsl wiS wcIsl) rfl rfl rfl ⟨rfl, by decide, by decide, by decide⟩ ⟨by show 0 + 1 ≤ R.frames; omega, by show 8 + (1 + 11) + 100 * 0 ≤ R.locals; omega⟩) ⟨blind_of (fun _ _ _ _ h => h), vk_recv hV hi hG.2, pre_of (p := p) hw hG (fun _ _ _ => trivial)⟩ rfl rfl hl.1 rfl (lv_room (Nat.le_of_ble_eq_true rfl)) (show decode bCha 1 = .ok (.invokevirtual 492, 3) by decide +kernel) ⟨Nat.zero_le _, Nat.zero_le _⟩) ?_
  intro H1 locs1 hG1
  refine lv_if_eq hx hb (show decode bCha 4 = .ok (.ifCond .eq 12, 3) by decide +kernel) (tgt := 16) (by decide) (fun h => absurd h (by decide)) (fun _ => ?_)
  refine lv_aload_n hx hb (show decode bCha 7 = .ok (.aload_n 0, 1) by decide +kernel) rfl (lv_at hl 0 rfl) ?_
  refine vk_getf hx hb (hV.1 i hi).2.2.1 hG1.2 hown (hts _ wf9) (fun _ h => h) (show decode bCha 8 = .ok (.getfield 9, 3) by decide +kernel) ?_
  refine lv_iload_n hx hb (show decode bCha 11 = .ok (.iload_n 1, 1) by decide +kernel) rfl (lv_at hl 1 rfl) ?_
  have hT := (hV.1 i hi).2.2.2
  refine W_jc (r := some (.int ((sByt.getD i []).getD k 0))) rfl hG1 (va_runS (own := "java/lang/String") (Ts := gTbl) ⟨hx, hb, hml, hown, hts⟩ (cj_Lch (d := 2) (l := l) (D := D) (tyC := tyC) (B0 := B0) (ad := ad) (sh := sh) (w := w) (v := adV i) (f := fun j => (sByt.getD i []).getD j 0) hk (sLen_lt i) (sByt_ok i hi k hk) (Nat.le_refl 2)) (va_cwS 2 hts (gSt wl495 wtLch wiL wcLch) rfl rfl rfl ⟨by decide, by decide, by decide⟩ ⟨by show 2 + 1 ≤ R.frames; omega, by show 8 + (2 + 11) + 100 * 2 ≤ R.locals; omega⟩) ⟨blind_of (fun U g mk a h => va_T.moved (u := U) (U := U.calling g mk a) (Vm.Alike.refl U.vm) h), pre_of (p := p) hw hG1 (fun U hU hWm => by unfold bytZ; rw [hU]; exact (va_T.moved hWm.alike hT).kept hG1.2.2.1)⟩ rfl rfl hl.1 rfl (lv_room (Nat.le_of_ble_eq_true rfl)) (show decode bCha 12 = .ok (.invokestatic 495, 3) by decide +kernel) ⟨Nat.zero_le _, Nat.zero_le _⟩) ?_
  intro H2 locs2 hG2
  exact ret H2 locs2 15 ls hG2 ⟨by decide +kernel, (sByt_ok i hi k hk).2.1⟩
end
section
variable {l : LX} {id d mc ms : Nat} {P : RP} {cc ss pc : Nat} {lv : List (Nat × Value)} {st rest : List Value} {sh : List Sh} {w : Wd} {q : Nat}
theorem Wp_strlen (hq : 1000001 ≤ q ∧ q < 1000012) (ho : mO id = 7) (hst0 : st = .ref q :: rest) (hd : decode (mB id) pc = .ok (.invokevirtual 135, 3)) (hdd : 4 ≤ d) (hrest : (rest.map fun v => v.category).sum ≤ 8) (kk : Wp l id d mc ms P cc ss (pc + 3) lv (.int (nI (sLen.getD (q - 1000001) 0)) :: rest) sh w) : Wp l id d mc ms P cc ss pc lv st sh w := by
  intro D tyC B0 ad0 n0 p e R s m args below meth c Q hF hK hB hR hst hret H locs ls ad hA hW hS hl hcc
  subst hst0
  obtain ⟨i, hi, rfl⟩ : ∃ i, i < 11 ∧ q = 1000001 + i := ⟨q - 1000001, by omega, by omega⟩
  rw [show 1000001 + i - 1000001 = i by omega] at kk
  have hst2 := Stat_ad (fun i hi => hA.2 i (by have := hW.1; omega)) hst
  obtain ⟨⟨adV, hV⟩, -⟩ := hst2.2.2.2.2.2.2
  have hown : s.vm.findClass "VectorShelf$TextReader" = some m.cls := by have h := hF.2.2.2.2.1; rw [ho] at h; exact h
  have hts := hF.2.2.2.2.2.1
  have hcat : ((rest.map (cvv ad)).map fun v => v.category).sum ≤ 8 := by rw [List.map_map]; simpa [Function.comp_def, cvv_cat] using hrest
  have hRl := hR.2.1
  have hRf := hR.1
  refine W_jc (D := D) (tyC := tyC) (B0 := B0) (ad := ad) (sh := sh) (w := w) (r := some (.int (nI (sLen.getD i 0)))) rfl ⟨hW, hS⟩ (va_runV (own := "VectorShelf$TextReader") (Ts := gTbl) ⟨hF.1, hF.2.1, hF.2.2.1, hown, hts⟩ (cj_Len (d := 1) (l := l) (D := D) (tyC := tyC) (B0 := B0) (ad := ad) (sh := sh) (w := w) hi (Nat.le_refl 1)) (cwV 0 hts (gV wl135 wnLen wsLen wiS wcLen) rfl rfl rfl ⟨rfl, by decide, by decide, by decide⟩ ⟨by show 1 + 1 ≤ R.frames; omega, by show 8 + (1 + 11) + 100 * 1 ≤ R.locals; omega⟩) ⟨blind_of (fun _ _ _ _ h => h), vk_recv hV hi hS, pre_of3 hB hK hst2 ⟨hW, hS⟩ (fun _ _ _ => trivial)⟩ rfl rfl hl.1 rfl (lv_room hcat) hd ⟨Nat.le_trans hcc.1 hR.2.2.1, Nat.le_trans hcc.2 hR.2.2.2⟩) ?_
  intro H1 locs1 hG1
  exact kk D tyC B0 ad0 n0 p e R s m args below meth c Q hF hK hB hR hst hret H1 locs1 ls ad hA hG1.1 hG1.2 hl hcc
theorem Wp_strchr {j : Int32} (hq : 1000001 ≤ q ∧ q < 1000012) (gj : vp_in j (sLen.getD (q - 1000001) 0)) (ho : mO id = 7) (hst0 : st = .int j :: .ref q :: rest) (hd : decode (mB id) pc = .ok (.invokevirtual 140, 3)) (hdd : 4 ≤ d) (hrest : (rest.map fun v => v.category).sum ≤ 8) (kk : Wp l id d mc ms P cc ss (pc + 3) lv (.int ((sByt.getD (q - 1000001) []).getD j.toNatClampNeg 0) :: rest) sh w) : Wp l id d mc ms P cc ss pc lv st sh w := by
  intro D tyC B0 ad0 n0 p e R s m args below meth c Q hF hK hB hR hst hret H locs ls ad hA hW hS hl hcc
  subst hst0
  obtain ⟨i, hi, rfl⟩ : ∃ i, i < 11 ∧ q = 1000001 + i := ⟨q - 1000001, by omega, by omega⟩
  rw [show 1000001 + i - 1000001 = i by omega] at kk gj
  have hk : j.toNatClampNeg < sLen.getD i 0 := Nat.lt_of_not_le fun e => gj (Or.inr e)
  obtain ⟨k, hk31, rfl⟩ := nI_of (fun h => gj (Or.inl h))
  rw [nI_clamp hk31] at hk kk
  have hst2 := Stat_ad (fun i hi => hA.2 i (by have := hW.1; omega)) hst
  obtain ⟨⟨adV, hV⟩, -⟩ := hst2.2.2.2.2.2.2
  have hown : s.vm.findClass "VectorShelf$TextReader" = some m.cls := by have h := hF.2.2.2.2.1; rw [ho] at h; exact h
  have hts := hF.2.2.2.2.2.1
  have hcat : ((rest.map (cvv ad)).map fun v => v.category).sum ≤ 8 := by rw [List.map_map]; simpa [Function.comp_def, cvv_cat] using hrest
  have hRl := hR.2.1
  have hRf := hR.1
  refine W_jc (D := D) (tyC := tyC) (B0 := B0) (ad := ad) (sh := sh) (w := w) (r := some (.int ((sByt.getD i []).getD k 0))) rfl ⟨hW, hS⟩ (va_runV (own := "VectorShelf$TextReader") (Ts := gTbl) ⟨hF.1, hF.2.1, hF.2.2.1, hown, hts⟩ (cj_Cha (d := 3) (l := l) (D := D) (tyC := tyC) (B0 := B0) (ad := ad) (sh := sh) (w := w) hi hk (Nat.le_refl 3)) (cwV 1 hts (gV wl140 wnCha wsCha wiS wcCha) rfl rfl rfl ⟨rfl, by decide, by decide, by decide⟩ ⟨by show 3 + 1 ≤ R.frames; omega, by show 8 + (2 + 11) + 100 * 3 ≤ R.locals; omega⟩) ⟨blind_of (fun _ _ _ _ h => h), vk_recv hV hi hS, pre_of3 hB hK hst2 ⟨hW, hS⟩ (fun _ _ _ => trivial)⟩ rfl rfl hl.1 rfl (lv_room hcat) hd ⟨Nat.le_trans hcc.1 hR.2.2.1, Nat.le_trans hcc.2 hR.2.2.2⟩) ?_
  intro H1 locs1 hG1
  exact kk D tyC B0 ad0 n0 p e R s m args below meth c Q hF hK hB hR hst hret H1 locs1 ls ad hA hG1.1 hG1.2 hl hcc
end
theorem bk_91_0 {l : LX} {d : Nat} {P : RP} {I : Nat → Nat → Int32} {F : Nat → Nat → UInt32} {L : Nat → Nat → Int64} {t : Nat} {r1 : Nat}  
    (hq : 1000001 ≤ r1 ∧ r1 < 1000012) (k : Wp l 91 (d + 4) 0 0 P 0 0 13 [(0, .ref 31), (1, .ref r1)] [.int (nI (sLen.getD (r1 - 1000001) 0)), .int ((I 31 3) - (I 31 2))] SH (I, F, L, RT t)) :
    Wp l 91 (d + 4) 0 0 P 0 0 0 [(0, .ref 31), (1, .ref r1)] [] SH (I, F, L, RT t) :=
  Wp_seg (is := [.aload_n 0, .getfield 22, .aload_n 0, .getfield 19, .isub, .aload_n 1]) (as := [0, 0, 0, 0, 0, 0]) (pc' := 10) (lv' := [(0, .ref 31), (1, .ref r1)]) (st' := [.ref r1, .int ((I 31 3) - (I 31 2))]) (w' := (I, F, L, RT t)) (G := (True) ∧ (SH[31]? = some (.inr 7)) ∧ (True) ∧ (SH[31]? = some (.inr 7)) ∧ (True) ∧ (True) ∧ True) (by decide +kernel) rfl ⟨trivial, rfl, trivial, rfl, trivial, trivial, trivial⟩ (Wp_strlen hq rfl rfl (by decide +kernel) (by omega) (Nat.le_of_ble_eq_true rfl) k)
theorem bk_91_13 {l : LX} {d : Nat} {P : RP} {I : Nat → Nat → Int32} {F : Nat → Nat → UInt32} {L : Nat → Nat → Int64} {t : Nat} {r1 : Nat} {s0 : Int32} {s1 : Int32}  
    (kt : s0 = s1 → Wp l 91 d 0 0 P 0 0 18 [(0, .ref 31), (1, .ref r1)] [] SH (I, F, L, RT t)) (kf : ¬ (s0 = s1) → Wp l 91 d 0 0 P 0 0 16 [] [] SH (I, F, L, RT t)) :
    Wp l 91 d 0 0 P 0 0 13 [(0, .ref 31), (1, .ref r1)] [.int s1, .int s0] SH (I, F, L, RT t) :=
  (Wp_br (i := .if_icmp .eq 5) (C := s0 = s1) (r := []) (off := 5) (tgt := 18) rfl (by decide +kernel) (by decide) (fun h => (kt h)) (fun h => (Wp_sub [] rfl (kf h))))
theorem bk_91_18 {l : LX} {d : Nat} {P : RP} {I : Nat → Nat → Int32} {F : Nat → Nat → UInt32} {L : Nat → Nat → Int64} {t : Nat} {r1 : Nat}  
    (k : Wp l 91 d 0 0 P 0 0 20 [(0, .ref 31), (1, .ref r1), (2, .int 0)] [] SH (I, F, L, RT t)) :
    Wp l 91 d 0 0 P 0 0 18 [(0, .ref 31), (1, .ref r1)] [] SH (I, F, L, RT t) :=
  Wp_seg (is := [.iconst 0, .istore_n 2]) (as := [0, 0]) (pc' := 20) (lv' := [(2, .int 0), (0, .ref 31), (1, .ref r1)]) (st' := []) (w' := (I, F, L, RT t)) (G := (True) ∧ (True) ∧ True) (by decide +kernel) rfl ⟨trivial, trivial, trivial⟩ (Wp_sub [1, 2, 0] rfl k)
theorem bk_91_16 {l : LX} {d : Nat} {P : RP} {I : Nat → Nat → Int32} {F : Nat → Nat → UInt32} {L : Nat → Nat → Int64} {t : Nat}   
    (hp : P (some (.int 0)) SH (I, F, L, RT t)) :
    Wp l 91 d 0 0 P 0 0 16 [] [] SH (I, F, L, RT t) :=
  Wp_seg (is := [.iconst 0]) (as := [0]) (pc' := 17) (lv' := []) (st' := [.int 0]) (w' := (I, F, L, RT t)) (G := (True) ∧ True) (by decide +kernel) rfl ⟨trivial, trivial⟩ (Wp_ret (v := (some (.int 0))) (show decode (mB 91) 17 = .ok (.ireturn, 1) ∧ (0 : Int32) &&& 1 = 0 from ⟨by decide +kernel, (by decide)⟩) hp)
theorem bk_91_20 {l : LX} {d : Nat} {P : RP} {I : Nat → Nat → Int32} {F : Nat → Nat → UInt32} {L : Nat → Nat → Int64} {t : Nat} {r1 : Nat} {x2 : Int32}  
    (hq : 1000001 ≤ r1 ∧ r1 < 1000012) (k : Wp l 91 (d + 4) 0 0 P 0 0 25 [(0, .ref 31), (1, .ref r1), (2, .int x2)] [.int (nI (sLen.getD (r1 - 1000001) 0)), .int x2] SH (I, F, L, RT t)) :
    Wp l 91 (d + 4) 0 0 P 0 0 20 [(0, .ref 31), (1, .ref r1), (2, .int x2)] [] SH (I, F, L, RT t) :=
  Wp_seg (is := [.iload_n 2, .aload_n 1]) (as := [0, 0]) (pc' := 22) (lv' := [(0, .ref 31), (1, .ref r1), (2, .int x2)]) (st' := [.ref r1, .int x2]) (w' := (I, F, L, RT t)) (G := (True) ∧ (True) ∧ True) (by decide +kernel) rfl ⟨trivial, trivial, trivial⟩ (Wp_strlen hq rfl rfl (by decide +kernel) (by omega) (Nat.le_of_ble_eq_true rfl) k)
theorem bk_91_25 {l : LX} {d : Nat} {P : RP} {I : Nat → Nat → Int32} {F : Nat → Nat → UInt32} {L : Nat → Nat → Int64} {t : Nat} {r1 : Nat} {s0 : Int32} {s1 : Int32} {x2 : Int32}  
    (kt : s1 ≤ s0 → Wp l 91 d 0 0 P 0 0 69 [] [] SH (I, F, L, RT t)) (kf : ¬ (s1 ≤ s0) → Wp l 91 d 0 0 P 0 0 28 [(0, .ref 31), (1, .ref r1), (2, .int x2)] [] SH (I, F, L, RT t)) :
    Wp l 91 d 0 0 P 0 0 25 [(0, .ref 31), (1, .ref r1), (2, .int x2)] [.int s1, .int s0] SH (I, F, L, RT t) :=
  (Wp_br (i := .if_icmp .ge 44) (C := s1 ≤ s0) (r := []) (off := 44) (tgt := 69) rfl (by decide +kernel) (by decide) (fun h => (Wp_sub [] rfl (kt h))) (fun h => (kf h)))
theorem bk_91_69 {l : LX} {d : Nat} {P : RP} {I : Nat → Nat → Int32} {F : Nat → Nat → UInt32} {L : Nat → Nat → Int64} {t : Nat}   
    (hp : P (some (.int 1)) SH (I, F, L, RT t)) :
    Wp l 91 d 0 0 P 0 0 69 [] [] SH (I, F, L, RT t) :=
  Wp_seg (is := [.iconst 1]) (as := [0]) (pc' := 70) (lv' := []) (st' := [.int 1]) (w' := (I, F, L, RT t)) (G := (True) ∧ True) (by decide +kernel) rfl ⟨trivial, trivial⟩ (Wp_ret (v := (some (.int 1))) (show decode (mB 91) 70 = .ok (.ireturn, 1) ∧ (1 : Int32) &&& 1 = 1 from ⟨by decide +kernel, (by decide)⟩) hp)
theorem bk_91_28 {l : LX} {d : Nat} {P : RP} {I : Nat → Nat → Int32} {F : Nat → Nat → UInt32} {L : Nat → Nat → Int64} {t : Nat} {r1 : Nat} {x2 : Int32}  
    (kt : 160 ≤ ((I 31 2) + x2) → Wp l 91 d 0 0 P 0 0 61 [] [] SH (I, F, L, RT t)) (kf : ¬ (160 ≤ ((I 31 2) + x2)) → Wp l 91 d 0 0 P 0 0 42 [(0, .ref 31), (1, .ref r1), (2, .int x2)] [] SH (I, F, L, RT t)) :
    Wp l 91 d 0 0 P 0 0 28 [(0, .ref 31), (1, .ref r1), (2, .int x2)] [] SH (I, F, L, RT t) :=
  Wp_seg (is := [.aload_n 0, .getfield 19, .iload_n 2, .iadd, .aload_n 0, .getfield 9, .arraylength]) (as := [0, 0, 0, 0, 0, 32, 160]) (pc' := 39) (lv' := [(0, .ref 31), (1, .ref r1), (2, .int x2)]) (st' := [.int 160, .int ((I 31 2) + x2)]) (w' := (I, F, L, RT t)) (G := (True) ∧ (SH[31]? = some (.inr 7)) ∧ (True) ∧ (True) ∧ (True) ∧ (SH[31]? = some (.inr 7) ∧ RT t 31 0 = some 32) ∧ (∃ ty, SH[32]? = some (.inl (ty, 160))) ∧ True) (by decide +kernel) rfl ⟨trivial, rfl, trivial, trivial, trivial, ⟨rfl, rfl⟩, ⟨_, rfl⟩, trivial⟩ (Wp_br (i := .if_icmp .ge 22) (C := 160 ≤ ((I 31 2) + x2)) (r := []) (off := 22) (tgt := 61) rfl (by decide +kernel) (by decide) (fun h => (Wp_sub [] rfl (kt h))) (fun h => (kf h)))
theorem bk_91_61 {l : LX} {d : Nat} {P : RP} {I : Nat → Nat → Int32} {F : Nat → Nat → UInt32} {L : Nat → Nat → Int64} {t : Nat}   
    (hp : P (some (.int 0)) SH (I, F, L, RT t)) :
    Wp l 91 d 0 0 P 0 0 61 [] [] SH (I, F, L, RT t) :=
  Wp_seg (is := [.iconst 0]) (as := [0]) (pc' := 62) (lv' := []) (st' := [.int 0]) (w' := (I, F, L, RT t)) (G := (True) ∧ True) (by decide +kernel) rfl ⟨trivial, trivial⟩ (Wp_ret (v := (some (.int 0))) (show decode (mB 91) 62 = .ok (.ireturn, 1) ∧ (0 : Int32) &&& 1 = 0 from ⟨by decide +kernel, (by decide)⟩) hp)
theorem bk_91_42 {l : LX} {d : Nat} {P : RP} {I : Nat → Nat → Int32} {F : Nat → Nat → UInt32} {L : Nat → Nat → Int64} {t : Nat} {r1 : Nat} {x2 : Int32}  
    (g1 : vp_in ((I 31 2) + x2) 160) (hq : 1000001 ≤ r1 ∧ r1 < 1000012) (gj : vp_in x2 (sLen.getD (r1 - 1000001) 0)) (k : Wp l 91 (d + 4) 0 0 P 0 0 58 [(0, .ref 31), (1, .ref r1), (2, .int x2)] [.int ((sByt.getD (r1 - 1000001) []).getD x2.toNatClampNeg 0), .int (I 32 ((I 31 2) + x2).toNatClampNeg)] SH (I, F, L, RT t)) :
    Wp l 91 (d + 4) 0 0 P 0 0 42 [(0, .ref 31), (1, .ref r1), (2, .int x2)] [] SH (I, F, L, RT t) :=
  Wp_seg (is := [.aload_n 0, .getfield 9, .aload_n 0, .getfield 19, .iload_n 2, .iadd, .iaload, .aload_n 1, .iload_n 2]) (as := [0, 32, 0, 0, 0, 0, 0, 0, 0]) (pc' := 55) (lv' := [(0, .ref 31), (1, .ref r1), (2, .int x2)]) (st' := [.int x2, .ref r1, .int (I 32 ((I 31 2) + x2).toNatClampNeg)]) (w' := (I, F, L, RT t)) (G := (True) ∧ (SH[31]? = some (.inr 7) ∧ RT t 31 0 = some 32) ∧ (True) ∧ (SH[31]? = some (.inr 7)) ∧ (True) ∧ (True) ∧ (gA SH 32 .int ((I 31 2) + x2)) ∧ (True) ∧ (True) ∧ True) (by decide +kernel) rfl ⟨trivial, ⟨rfl, rfl⟩, trivial, rfl, trivial, trivial, ⟨160, rfl, g1⟩, trivial, trivial, trivial⟩ (Wp_strchr hq gj rfl rfl (by decide +kernel) (by omega) (Nat.le_of_ble_eq_true rfl) k)
theorem bk_91_58 {l : LX} {d : Nat} {P : RP} {I : Nat → Nat → Int32} {F : Nat → Nat → UInt32} {L : Nat → Nat → Int64} {t : Nat} {r1 : Nat} {s0 : Int32} {s1 : Int32} {x2 : Int32}  
    (kt : s0 = s1 → Wp l 91 d 0 0 P 0 0 63 [(0, .ref 31), (1, .ref r1), (2, .int x2)] [] SH (I, F, L, RT t)) (kf : ¬ (s0 = s1) → Wp l 91 d 0 0 P 0 0 61 [] [] SH (I, F, L, RT t)) :
    Wp l 91 d 0 0 P 0 0 58 [(0, .ref 31), (1, .ref r1), (2, .int x2)] [.int s1, .int s0] SH (I, F, L, RT t) :=
  (Wp_br (i := .if_icmp .eq 5) (C := s0 = s1) (r := []) (off := 5) (tgt := 63) rfl (by decide +kernel) (by decide) (fun h => (kt h)) (fun h => (Wp_sub [] rfl (kf h))))
theorem bk_91_63 {l : LX} {d : Nat} {P : RP} {I : Nat → Nat → Int32} {F : Nat → Nat → UInt32} {L : Nat → Nat → Int64} {t : Nat} {r1 : Nat} {x2 : Int32}  
    (k : Wp l 91 d 0 0 P 0 0 20 [(0, .ref 31), (1, .ref r1), (2, .int (x2 + 1))] [] SH (I, F, L, RT t)) :
    Wp l 91 d 0 0 P 0 0 63 [(0, .ref 31), (1, .ref r1), (2, .int x2)] [] SH (I, F, L, RT t) :=
  Wp_seg (is := [.iinc 2 1]) (as := [0]) (pc' := 66) (lv' := [(2, .int (x2 + 1)), (0, .ref 31), (1, .ref r1)]) (st' := []) (w' := (I, F, L, RT t)) (G := (True) ∧ True) (by decide +kernel) rfl ⟨trivial, trivial⟩ (Wp_goto (off := (-46)) (tgt := 20) (by decide +kernel) (by decide) (Wp_sub [1, 2, 0] rfl k))
theorem cn_91 {l : LX} {d : Nat} {P : RP} {w : Wd} {r1 : Nat} (h : Wp l 91 d 0 0 P 0 0 0 [(0, .ref 31), (1, .ref r1)] [] SH w) : Con l 91 d 0 0 [.ref 31, .ref r1] SH w P := con_of mk_91 (by decide) (Nat.le_of_ble_eq_true rfl) h
/-- isSpelt's answer: the word at hand is that constant -/
def v_91 (I : WI) (r1 : Nat) : Int32 := if I 31 3 - I 31 2 = nI (sLen.getD (r1 - 1000001) 0) ∧ ((List.range (sLen.getD (r1 - 1000001) 0)).all fun k => (I 31 2 + nI k) < 160 ∧ I 32 (I 31 2 + nI k).toNatClampNeg = (sByt.getD (r1 - 1000001) []).getD k 0) = true then 1 else 0
def g_91 (I : WI) : Prop := ¬ I 31 2 < 0 ∧ I 31 2 ≤ 160
theorem sLen_le (i : Nat) : sLen.getD i 0 ≤ 6 := by
  match i with
  | 0 | 1 | 2 | 3 | 4 | 5 | 6 | 7 | 8 | 9 | 10 => decide
  | n + 11 => rw [List.getD_eq_getElem?_getD, List.getElem?_eq_none (by show 11 ≤ n + 11; omega)]; decide
theorem cc_91 {l : LX} {d : Nat} {I : WI} {F : WF} {L : WL} {t : Nat} {r1 : Nat} (hg : g_91 I) (hq : 1000001 ≤ r1 ∧ r1 < 1000012 := by decide) : Con l 91 (d + 8) 0 0 [.ref 31, .ref r1] SH (I, F, L, RT t) (rI (v_91 I r1) (I, F, L, RT t)) := by
  refine cn_91 ?_
  have hs6 := sLen_le (r1 - 1000001)
  generalize hT : v_91 I r1 = T
  unfold v_91 at hT
  refine bk_91_0 (d := d + 4) hq ?_
  refine bk_91_13 (fun h => ?_) (fun h => ?_)
  · have hst : -0 ≤ (I 31 2).toInt ∧ (I 31 2).toInt ≤ 160 := by
      have h1 := hg.1
      have h2 := hg.2
      rw [Int32.lt_iff_toInt_lt] at h1
      rw [Int32.le_iff_toInt_le] at h2
      have e0 : (0 : Int32).toInt = 0 := by decide
      have e1 : (160 : Int32).toInt = 160 := by decide
      omega
    refine bk_91_18 ?_
    have loop : ∀ m k, k + m = sLen.getD (r1 - 1000001) 0 → (∀ j, j < k → (I 31 2 + nI j) < 160 ∧ I 32 (I 31 2 + nI j).toNatClampNeg = (sByt.getD (r1 - 1000001) []).getD j 0) → Wp l 91 (d + 4 + 4) 0 0 (rI T (I, F, L, RT t)) 0 0 20 [(0, .ref 31), (1, .ref r1), (2, .int (nI k))] [] SH (I, F, L, RT t) := by
      intro m
      induction m with
      | zero =>
        intro k hk hall
        have hk' : sLen.getD (r1 - 1000001) 0 ≤ k := by omega
        refine bk_91_20 hq (bk_91_25 (fun _ => ?_) (fun h2 => absurd (nI_le hk' (by omega)) h2))
        refine bk_91_69 (rl_p_I ?_)
        rw [← hT, if_pos]
        refine ⟨h, ?_⟩
        rw [List.all_eq_true]
        intro j hj
        simp only [List.mem_range] at hj
        simpa using hall j (Nat.lt_of_lt_of_le hj hk')
      | succ m ih =>
        intro k hk hall
        have hkn : k < sLen.getD (r1 - 1000001) 0 := by omega
        have ih := ih (k + 1) (by omega)
        rw [nI_succ] at ih
        have fin : ¬ ((I 31 2 + nI k) < 160 ∧ I 32 (I 31 2 + nI k).toNatClampNeg = (sByt.getD (r1 - 1000001) []).getD k 0) → (0 : Int32) = T := by
          intro hn
          rw [← hT, if_neg]
          intro hh
          have h3 := List.all_eq_true.mp hh.2 k (List.mem_range.mpr hkn)
          exact hn (by simpa using h3)
        refine bk_91_20 hq (bk_91_25 (fun h2 => absurd h2 (nI_ge hkn (by omega))) (fun _ => ?_))
        refine bk_91_28 (fun h2 => ?_) (fun h2 => ?_)
        · refine bk_91_61 (rl_p_I (fin fun hc => ?_))
          exact absurd hc.1 (Int32.not_lt.mpr h2)
        · have hin : vp_in (I 31 2 + nI k) 160 := by
            have e : (I 31 2 + nI k).toInt = (I 31 2).toInt + k := aI_toInt (by omega)
            have h3 := Int32.not_le.mp h2
            rw [Int32.lt_iff_toInt_lt, e] at h3
            have e1 : (160 : Int32).toInt = 160 := by decide
            have e2 : I 31 2 + nI k = nI ((I 31 2).toInt.toNat + k) := Int32.toInt_inj.mp (by rw [e, nI_toInt (by omega)]; omega)
            rw [e2]
            exact vp_in_nI (by omega) (by omega)
          refine bk_91_42 hin hq (vp_in_nI hkn (by omega)) (bk_91_58 (fun h3 => ?_) (fun h3 => ?_))
          · rw [nI_clamp (by omega)] at h3
            refine bk_91_63 (ih ?_)
            intro j hj
            by_cases hjk : j = k
            · subst hjk
              exact ⟨Int32.not_le.mp h2, h3⟩
            · exact hall j (by omega)
          · rw [nI_clamp (by omega)] at h3
            exact bk_91_61 (rl_p_I (fin fun hc => h3 hc.2))
    exact loop _ 0 (Nat.zero_add _) (fun j hj => absurd hj (Nat.not_lt_zero _))
  · refine bk_91_16 (rl_p_I ?_)
    rw [← hT, if_neg]
    exact fun hh => h hh.1
end
