section
def fFind (o ix : Nat) : Option (Nat × Nat) := ((fT o).find? (fun e => e.1 == ix)).map (fun e => (e.2.1, e.2.2.1))
def cFind (o ix : Nat) : Option Value := ((cT o).find? (fun e => e.1 == ix)).map (fun e => e.2.1)
theorem fFind_spec {o ix ci k : Nat} (ho : o < 13) (h : fFind o ix = some (ci, k)) : ∃ q : vw_C, clsT[ci]? = some q ∧ k < q.2.2 ∧ Cond.fieldLink (cN o) ix (q.2.1 k).1 (q.2.1 k).2.1 (q.2.1 k).2.2.1 ∈ gTbl := by
  unfold fFind at h
  cases h1 : (fT o).find? (fun e => e.1 == ix) with
  | none => rw [h1] at h; cases h
  | some e =>
    rw [h1] at h
    have hm := List.mem_of_find?_eq_some h1
    have he := List.find?_some h1
    have hc := List.all_eq_true.mp (f_all o ho) e hm
    unfold fCk at hc
    simp only [decide_eq_true_eq] at hc
    obtain ⟨hc1, hc2, hc3⟩ := hc
    simp only [beq_iff_eq] at he
    simp only [Option.map_some, Option.some.injEq, Prod.mk.injEq] at h
    obtain ⟨h2, h3⟩ := h
    subst h2; subst h3; subst he
    have hl : e.2.1 < clsT.length := hc2
    have hg : clsT.getD e.2.1 (RX0, TX0, 0) = clsT[e.2.1] := by rw [List.getD_eq_getElem?_getD, List.getElem?_eq_getElem hl]; rfl
    rw [hg] at hc1 hc3
    exact ⟨clsT[e.2.1], List.getElem?_eq_getElem hl, hc3, g_in hc1 rfl⟩
theorem cFind_spec {o ix : Nat} {v : Value} (ho : o < 13) (h : cFind o ix = some v) : match v with
    | .int x => Cond.constant (cN o) ix x ∈ gTbl
    | .long x => Cond.constantLong (cN o) ix x ∈ gTbl
    | .float x => Cond.constantFloat (cN o) ix x ∈ gTbl
    | _ => False := by
  unfold cFind at h
  cases h1 : (cT o).find? (fun e => e.1 == ix) with
  | none => rw [h1] at h; cases h
  | some e =>
    rw [h1] at h
    have hm := List.mem_of_find?_eq_some h1
    have he := List.find?_some h1
    have hc := List.all_eq_true.mp (c_all o ho) e hm
    unfold cCk at hc
    simp only [beq_iff_eq] at he
    simp only [Option.map_some, Option.some.injEq] at h
    obtain ⟨e1, e2, e3⟩ := e
    subst h; subst he
    dsimp only at hc ⊢
    cases e2 <;> simp only [decide_eq_true_eq] at hc <;> first | exact g_in hc rfl | exact absurd hc (by simp)
/-! what is old and never written: the class's own table, String constants -/
def abv (j : Nat) : Int32 := [(-1 : Int32), 0, 0, 1, 2, 3].getD j 0
/-- the launch, and the law's script: its length, its ints -/
abbrev LX : Type := Launch × Nat × (Nat → Int32)
/-- the reader's String constants: pool index, text, bytes -/
def sTb : List (Nat × String × List Int32) := [(109, "tag", [116, 97, 103]), (115, "number", [110, 117, 109, 98, 101, 114]), (117, "cell", [99, 101, 108, 108]), (119, "x", [120]), (121, "y", [121]), (123, "z", [122]), (125, "fits", [102, 105, 116, 115]), (127, "adds", [97, 100, 100, 115]), (129, "or", [111, 114]), (131, "and", [97, 110, 100]), (133, "not", [110, 111, 116])]
def sLen : List Nat := sTb.map (fun q => q.2.2.length)
def sByt : List (List Int32) := sTb.map (fun q => q.2.2)
def nsW : List Cond := (lw_tbl.filter (fun w => match w with | .methodLinkNest .. => true | _ => false))
def StrS (ad : Nat → Nat) (B0 : Nat) (U : State) (H : Heap) : Prop :=
  (∃ adV : Nat → Nat, vk_S 11 sLen sByt (fun i => ad (1000001 + i)) adV (fun q => B0 ≤ q) U H) ∧ (∀ (i : Nat) (q : Nat × String × List Int32), sTb[i]? = some q → vk_R "VectorShelf$TextReader" q.1 q.2.1 (ad (1000001 + i)) U) ∧
  va_Z "java/lang/String" "COMPACT_STRINGS" "Z" (.int 1) (fun q => B0 ≤ q) U H ∧ va_Zq "jdk/internal/util/Preconditions" "SIOOBE_FORMATTER" "Ljava/util/function/BiFunction;" (fun q => B0 ≤ q) U H
def Stat (l : LX) (ad : Nat → Nat) (B0 : Nat) (U : State) (H : Heap) : Prop :=
  (∀ w ∈ nsW, va_Nw w U) ∧ va_AO "VectorShelf$Text" U ∧ va_AO "VectorShelf$Sheet" U ∧
  va_Z "VectorShelf$Measure" "ABOVE" "[I" (.ref (ad 1000000)) (fun q => B0 ≤ q) U H ∧ va_T .int (ad 1000000) 6 (fun j => .int (abv j)) (fun q => B0 ≤ q) U H ∧
  va_T .int (ad 1000050) l.2.1 (fun j => .int (l.2.2 j)) (fun q => B0 ≤ q) U H ∧ StrS ad B0 U H
def Fx (p : Program) (s : State) (m : MethodId) (args : Array Value) (meth : Method) (c : Code) (id : Nat) : Prop :=
  p.tables.exec = Jvm.exec ∧ c.code = mB id ∧ c.maxLocals = mL id ∧ meth.sig.returnType = mR id ∧ s.vm.findClass (cN (mO id)) = some m.cls ∧ (∀ w ∈ gTbl, w.before args s = true) ∧ meth.locks = false ∧ ((mN id).name = "<init>" → meth.name = "<init>") ∧ mO id < 13
def rmOk (R : Room) (d mc ms : Nat) : Prop := d ≤ R.frames ∧ 100 * d ≤ R.locals ∧ mc ≤ R.cells ∧ ms ≤ R.slots
def agr (ad ad1 : Nat → Nat) (n0 n1 : Nat) : Prop := n0 ≤ n1 ∧ ∀ i, (i < n0 ∨ n1 ≤ i) → ad1 i = ad i
/-- the bytes at pc are that answer's return -/
def retAt (id pc : Nat) (v : Option Value) : Prop := match mR id, v with
  | none, none => decode (mB id) pc = .ok (.return_, 1)
  | some .int, some (.int _) => decode (mB id) pc = .ok (.ireturn, 1)
  | some .boolean, some (.int x) => decode (mB id) pc = .ok (.ireturn, 1) ∧ x &&& 1 = x
  | some .long, some (.long _) => decode (mB id) pc = .ok (.lreturn, 1)
  | some .float, some (.float _) => decode (mB id) pc = .ok (.freturn, 1)
  | some (.object _), some (.ref _) => decode (mB id) pc = .ok (.areturn, 1)
  | _, _ => False
abbrev RP : Type := Option Value → List Sh → Wd → Prop
/-- from this point of the method, over this world, the method comes to its end with P -/
def Wp (l : LX) (id d mc ms : Nat) (P : RP) (cc ss pc : Nat) (lv : List (Nat × Value)) (st : List Value) (sh : List Sh) (w : Wd) : Prop :=
  ∀ (D : va_G) (tyC : FieldType → ClassId) (B0 : Nat) (ad0 : Nat → Nat) (n0 : Nat) (p : Program) (e : Env) (R : Room) (s : State) (m : MethodId) (args : Array Value) (below : List Frame) (meth : Method) (c : Code) (Q : State → Prop),
    Fx p s m args meth c id → va_K D clsT (tyL tyC) s → B0 ≤ s.heap.size → rmOk R d mc ms → Stat l ad0 B0 s s.heap →
    (∀ (v : Option Value) (sh1 : List Sh) (w1 : Wd) (H1 : Heap) (locs1 : List Loc) (ls1 : Array Slot) (ad1 : Nat → Nat) (pc1 : Nat), P v sh1 w1 → agr ad0 ad1 n0 sh1.length → Wok D tyC B0 ad1 sh1 w1 H1 → va_S (fun q => B0 ≤ q) s.heap H1 locs1 → retAt id pc1 v →
      W p l.1 e R s m args below meth c H1 locs1 mc ms Q (F0 m pc1 ls1 (v.map (cvv ad1)).toList)) →
    ∀ (H : Heap) (locs : List Loc) (ls : Array Slot) (ad : Nat → Nat), agr ad0 ad n0 sh.length → Wok D tyC B0 ad sh w H → va_S (fun q => B0 ≤ q) s.heap H locs → lv_has ls (mL id) (lvc ad lv) → (cc ≤ mc ∧ ss ≤ ms) →
      W p l.1 e R s m args below meth c H locs cc ss Q (F0 m pc ls (st.map (cvv ad)))
def bT (a : Nat) : FieldType := if a = 1 then .byte else .boolean
def gA (sh : List Sh) (c : Nat) (ty : FieldType) (j : Int32) : Prop := ∃ n, sh[c]? = some (.inl (ty, n)) ∧ vp_in j n
def fitG (ty : FieldType) (x : Int32) : Prop := ty = .int ∨ (narrow ty (.int x) = .int x ∧ fits ty (.int x) = true)
def finG (id ci k : Nat) : Prop := match clsT[ci]? with
  | some q => (q.2.1 k).2.2.2 = false ∨ ((mN id).name = "<init>" ∧ (q.2.1 k).2.2.2 = true ∧ (q.2.1 k).1 = cN (mO id))
  | none => False
abbrev SR : Type := Option (List (Nat × Value) × List Value × Wd × Prop)
def pI (lv : List (Nat × Value)) (st : List Value) (w : Wd) (x : Int32) : SR := some (lv, .int x :: st, w, True)
def pL (lv : List (Nat × Value)) (st : List Value) (w : Wd) (x : Int64) : SR := some (lv, .long x :: st, w, True)
def pF (lv : List (Nat × Value)) (st : List Value) (w : Wd) (x : UInt32) : SR := some (lv, .float x :: st, w, True)
/-- what an instruction does that neither branches nor calls nor makes: locals, stack, world, and what must hold -/
def sim (id : Nat) (sh : List Sh) (i : Instr) (a : Nat) (lv : List (Nat × Value)) (st : List Value) (w : Wd) : SR :=
  match i with
  | .iconst n => pI lv st w (Int32.ofInt n)
  | .bipush n => pI lv st w (Int8.ofInt n).toInt32
  | .sipush n => pI lv st w (Int16.ofInt n).toInt32
  | .lconst n => pL lv st w (Int64.ofNat (n : Nat))
  | .fconst n => match n with
    | 0 => pF lv st w FP.fconst0
    | 1 => pF lv st w FP.fconst1
    | _ => none
  | .iload n => match lk lv n with
    | some (.int x) => pI lv st w x
    | _ => none
  | .iload_n n => match lk lv n with
    | some (.int x) => pI lv st w x
    | _ => none
  | .lload n => match lk lv n with
    | some (.long x) => pL lv st w x
    | _ => none
  | .lload_n n => match lk lv n with
    | some (.long x) => pL lv st w x
    | _ => none
  | .fload n => match lk lv n with
    | some (.float x) => pF lv st w x
    | _ => none
  | .fload_n n => match lk lv n with
    | some (.float x) => pF lv st w x
    | _ => none
  | .aload n => match lk lv n with
    | some (.ref x) => some (lv, .ref x :: st, w, True)
    | _ => none
  | .aload_n n => match lk lv n with
    | some (.ref x) => some (lv, .ref x :: st, w, True)
    | _ => none
  | .istore n => match st with
    | .int x :: r => if n < mL id then some (ls1 lv n (.int x), r, w, True) else none
    | _ => none
  | .istore_n n => match st with
    | .int x :: r => if (n : Nat) < mL id then some (ls1 lv n (.int x), r, w, True) else none
    | _ => none
  | .fstore n => match st with
    | .float x :: r => if n < mL id then some (ls1 lv n (.float x), r, w, True) else none
    | _ => none
  | .fstore_n n => match st with
    | .float x :: r => if (n : Nat) < mL id then some (ls1 lv n (.float x), r, w, True) else none
    | _ => none
  | .astore n => match st with
    | .ref x :: r => if n < mL id then some (ls1 lv n (.ref x), r, w, True) else none
    | _ => none
  | .astore_n n => match st with
    | .ref x :: r => if (n : Nat) < mL id then some (ls1 lv n (.ref x), r, w, True) else none
    | _ => none
  | .lstore n => match st with
    | .long x :: r => if n + 1 < mL id then some (ls2 lv n (.long x), r, w, True) else none
    | _ => none
  | .lstore_n n => match st with
    | .long x :: r => if (n : Nat) + 1 < mL id then some (ls2 lv n (.long x), r, w, True) else none
    | _ => none
  | .iinc n k => match lk lv n with
    | some (.int x) => if n < mL id then some (ls1 lv n (.int (x + Int32.ofInt k)), st, w, True) else none
    | _ => none
  | .iadd => match st with
    | .int y :: .int x :: r => pI lv r w (x + y)
    | _ => none
  | .isub => match st with
    | .int y :: .int x :: r => pI lv r w (x - y)
    | _ => none
  | .imul => match st with
    | .int y :: .int x :: r => pI lv r w (x * y)
    | _ => none
  | .iand => match st with
    | .int y :: .int x :: r => pI lv r w (x &&& y)
    | _ => none
  | .ior => match st with
    | .int y :: .int x :: r => pI lv r w (x ||| y)
    | _ => none
  | .ixor => match st with
    | .int y :: .int x :: r => pI lv r w (x ^^^ y)
    | _ => none
  | .ishl => match st with
    | .int y :: .int x :: r => pI lv r w (x <<< (y &&& 31))
    | _ => none
  | .ishr => match st with
    | .int y :: .int x :: r => pI lv r w (x >>> (y &&& 31))
    | _ => none
  | .iushr => match st with
    | .int y :: .int x :: r => pI lv r w (x.toUInt32 >>> (y.toUInt32 &&& Int32.toUInt32 31)).toInt32
    | _ => none
  | .ineg => match st with
    | .int x :: r => pI lv r w (-x)
    | _ => none
  | .idiv => match st with
    | .int y :: .int x :: r => some (lv, .int (x / y) :: r, w, ¬ y = 0)
    | _ => none
  | .irem => match st with
    | .int y :: .int x :: r => some (lv, .int (x - x / y * y) :: r, w, ¬ y = 0)
    | _ => none
  | .ladd => match st with
    | .long y :: .long x :: r => pL lv r w (x + y)
    | _ => none
  | .lsub => match st with
    | .long y :: .long x :: r => pL lv r w (x - y)
    | _ => none
  | .lmul => match st with
    | .long y :: .long x :: r => pL lv r w (x * y)
    | _ => none
  | .ldiv => match st with
    | .long y :: .long x :: r => some (lv, .long (x / y) :: r, w, ¬ y = 0)
    | _ => none
  | .lrem => match st with
    | .long y :: .long x :: r => some (lv, .long (x - x / y * y) :: r, w, ¬ y = 0)
    | _ => none
  | .lushr => match st with
    | .int y :: .long x :: r => pL lv r w (x.toUInt64 >>> (y.toInt64.toUInt64 &&& Int64.toUInt64 63)).toInt64
    | _ => none
  | .lcmp => match st with
    | .long y :: .long x :: r => pI lv r w (lg_cmp x y)
    | _ => none
  | .i2l => match st with
    | .int x :: r => pL lv r w x.toInt64
    | _ => none
  | .l2i => match st with
    | .long x :: r => pI lv r w x.toInt32
    | _ => none
  | .i2b => match st with
    | .int x :: r => pI lv r w x.toInt8.toInt32
    | _ => none
  | .i2s => match st with
    | .int x :: r => pI lv r w x.toInt16.toInt32
    | _ => none
  | .i2f => match st with
    | .int x :: r => pF lv r w (FP.i2f x)
    | _ => none
  | .f2i => match st with
    | .float x :: r => pI lv r w (FP.f2i x)
    | _ => none
  | .f2l => match st with
    | .float x :: r => pL lv r w (FP.f2l x)
    | _ => none
  | .fadd => match st with
    | .float y :: .float x :: r => some (lv, .float (FP.fadd x y) :: r, w, vf_n32 (FP.fadd x y))
    | _ => none
  | .fmul => match st with
    | .float y :: .float x :: r => some (lv, .float (FP.fmul x y) :: r, w, vf_n32 (FP.fmul x y))
    | _ => none
  | .fdiv => match st with
    | .float y :: .float x :: r => some (lv, .float (FP.fdiv x y) :: r, w, vf_n32 (FP.fdiv x y))
    | _ => none
  | .frem => match st with
    | .float y :: .float x :: r => some (lv, .float (FP.frem x y) :: r, w, vf_n32 (FP.frem x y))
    | _ => none
  | .fcmp op => match st with
    | .float y :: .float x :: r => pI lv r w (Op.cmpValue (FP.fcmp x y) op)
    | _ => none
  | .dup => match st with
    | x :: r => if x.category = 1 then some (lv, x :: x :: r, w, True) else none
    | _ => none
  | .dup2 => match st with
    | x :: y :: r => if x.category = 1 ∧ y.category = 1 then some (lv, x :: y :: x :: y :: r, w, True) else none
    | _ => none
  | .pop => match st with
    | x :: r => if x.category = 1 then some (lv, r, w, True) else none
    | _ => none
  | .iaload => match st with
    | .int j :: .ref c :: r => some (lv, .int (w.1 c j.toNatClampNeg) :: r, w, gA sh c .int j)
    | _ => none
  | .baload => match st with
    | .int j :: .ref c :: r => some (lv, .int (w.1 c j.toNatClampNeg) :: r, w, gA sh c (bT a) j)
    | _ => none
  | .saload => match st with
    | .int j :: .ref c :: r => some (lv, .int (w.1 c j.toNatClampNeg) :: r, w, gA sh c .short j)
    | _ => none
  | .faload => match st with
    | .int j :: .ref c :: r => some (lv, .float (w.2.1 c j.toNatClampNeg) :: r, w, gA sh c .float j)
    | _ => none
  | .laload => match st with
    | .int j :: .ref c :: r => some (lv, .long (w.2.2.1 c j.toNatClampNeg) :: r, w, gA sh c .long j)
    | _ => none
  | .aaload => match st with
    | .int j :: .ref c :: r => some (lv, .ref a :: r, w, (∃ C, gA sh c (.object C) j) ∧ w.2.2.2 c j.toNatClampNeg = some a)
    | _ => none
  | .iastore => match st with
    | .int x :: .int j :: .ref c :: r => some (lv, r, (up2 w.1 c j.toNatClampNeg x, w.2.1, w.2.2.1, w.2.2.2), gA sh c .int j)
    | _ => none
  | .bastore => match st with
    | .int x :: .int j :: .ref c :: r => some (lv, r, (up2 w.1 c j.toNatClampNeg (vp_nar (bT a) x), w.2.1, w.2.2.1, w.2.2.2), gA sh c (bT a) j)
    | _ => none
  | .sastore => match st with
    | .int x :: .int j :: .ref c :: r => some (lv, r, (up2 w.1 c j.toNatClampNeg (vp_nar .short x), w.2.1, w.2.2.1, w.2.2.2), gA sh c .short j)
    | _ => none
  | .fastore => match st with
    | .float x :: .int j :: .ref c :: r => some (lv, r, (w.1, up2 w.2.1 c j.toNatClampNeg x, w.2.2.1, w.2.2.2), gA sh c .float j)
    | _ => none
  | .lastore => match st with
    | .long x :: .int j :: .ref c :: r => some (lv, r, (w.1, w.2.1, up2 w.2.2.1 c j.toNatClampNeg x, w.2.2.2), gA sh c .long j)
    | _ => none
  | .arraylength => match st with
    | .ref c :: r => some (lv, .int (Int32.ofNat a) :: r, w, ∃ ty, sh[c]? = some (.inl (ty, a)))
    | _ => none
  | .getfield ix => match st with
    | .ref c :: r => match fFind (mO id) ix with
      | some (ci, k) => match kd (fty ci k) with
        | 0 => some (lv, .int (w.1 c k) :: r, w, sh[c]? = some (.inr ci))
        | 1 => some (lv, .long (w.2.2.1 c k) :: r, w, sh[c]? = some (.inr ci))
        | 2 => some (lv, .float (w.2.1 c k) :: r, w, sh[c]? = some (.inr ci))
        | 3 => none
        | _ => some (lv, .ref a :: r, w, sh[c]? = some (.inr ci) ∧ w.2.2.2 c k = some a)
      | none => none
    | _ => none
  | .putfield ix => match st with
    | v :: .ref c :: r => match fFind (mO id) ix with
      | some (ci, k) => match v, kd (fty ci k) with
        | .int x, 0 => some (lv, r, (up2 w.1 c k x, w.2.1, w.2.2.1, w.2.2.2), sh[c]? = some (.inr ci) ∧ finG id ci k ∧ fitG (fty ci k) x)
        | .long x, 1 => some (lv, r, (w.1, w.2.1, up2 w.2.2.1 c k x, w.2.2.2), sh[c]? = some (.inr ci) ∧ finG id ci k)
        | .float x, 2 => some (lv, r, (w.1, up2 w.2.1 c k x, w.2.2.1, w.2.2.2), sh[c]? = some (.inr ci) ∧ finG id ci k)
        | .ref x, 4 => some (lv, r, (w.1, w.2.1, w.2.2.1, up2 w.2.2.2 c k (some x)), sh[c]? = some (.inr ci) ∧ finG id ci k)
        | _, _ => none
      | none => none
    | _ => none
  | .ldc ix => match cFind (mO id) ix with
    | some (.int x) => pI lv st w x
    | some (.float x) => pF lv st w x
    | _ => none
  | .ldc_w ix => match cFind (mO id) ix with
    | some (.int x) => pI lv st w x
    | _ => none
  | .ldc2_w ix => match cFind (mO id) ix with
    | some (.long x) => pL lv st w x
    | _ => none
  | _ => none
/-- an instruction's length -/
def ilen (i : Instr) : Nat := match i with
  | .bipush _ => 2
  | .sipush _ => 3
  | .iload _ => 2
  | .lload _ => 2
  | .fload _ => 2
  | .aload _ => 2
  | .istore _ => 2
  | .fstore _ => 2
  | .astore _ => 2
  | .lstore _ => 2
  | .iinc _ _ => 3
  | .getfield _ => 3
  | .putfield _ => 3
  | .ldc _ => 2
  | .ldc_w _ => 3
  | .ldc2_w _ => 3
  | _ => 1
end
