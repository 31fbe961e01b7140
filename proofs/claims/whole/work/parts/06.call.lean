section
theorem sim_ok (i : Instr) : SimOk i := by
  cases i with
  | iconst n => exact so_iconst n
  | bipush n => exact so_bipush n
  | sipush n => exact so_sipush n
  | lconst n => exact so_lconst n
  | fconst n => exact so_fconst n
  | iload n => exact so_iload n
  | iload_n n => exact so_iload_n n
  | lload n => exact so_lload n
  | lload_n n => exact so_lload_n n
  | fload n => exact so_fload n
  | fload_n n => exact so_fload_n n
  | aload n => exact so_aload n
  | aload_n n => exact so_aload_n n
  | istore n => exact so_istore n
  | istore_n n => exact so_istore_n n
  | fstore n => exact so_fstore n
  | fstore_n n => exact so_fstore_n n
  | lstore n => exact so_lstore n
  | lstore_n n => exact so_lstore_n n
  | astore n => exact so_astore n
  | astore_n n => exact so_astore_n n
  | iinc n q => exact so_iinc n q
  | iadd => exact so_iadd
  | isub => exact so_isub
  | imul => exact so_imul
  | iand => exact so_iand
  | ior => exact so_ior
  | ixor => exact so_ixor
  | ishl => exact so_ishl
  | ishr => exact so_ishr
  | ineg => exact so_ineg
  | ladd => exact so_ladd
  | lsub => exact so_lsub
  | lmul => exact so_lmul
  | i2f => exact so_i2f
  | f2i => exact so_f2i
  | f2l => exact so_f2l
  | fcmp op => exact so_fcmp op
  | iushr => exact so_iushr
  | lushr => exact so_lushr
  | i2l => exact so_i2l
  | l2i => exact so_l2i
  | i2b => exact so_i2b
  | i2s => exact so_i2s
  | idiv => exact so_idiv
  | irem => exact so_irem
  | ldiv => exact so_ldiv
  | lrem => exact so_lrem
  | fadd => exact so_fadd
  | fmul => exact so_fmul
  | fdiv => exact so_fdiv
  | frem => exact so_frem
  | lcmp => exact so_lcmp
  | dup => exact so_dup
  | pop => exact so_pop
  | dup2 => exact so_dup2
  | iaload => exact so_iaload
  | saload => exact so_saload
  | faload => exact so_faload
  | laload => exact so_laload
  | baload => exact so_baload
  | iastore => exact so_iastore
  | sastore => exact so_sastore
  | fastore => exact so_fastore
  | lastore => exact so_lastore
  | bastore => exact so_bastore
  | aaload => exact so_aaload
  | arraylength => exact so_arraylength
  | getfield ix => exact so_getfield ix
  | putfield ix => exact so_putfield ix
  | ldc ix => exact so_ldc ix
  | ldc_w ix => exact so_ldc_w ix
  | ldc2_w ix => exact so_ldc2_w ix
  | _ => (intro l id d mc ms P cc ss pc a lv lv' st st' sh w w' G h g hd k; simp only [sim] at h; cases h)
def runG (id : Nat) (sh : List Sh) : List Instr → List Nat → List (Nat × Value) → List Value → Wd → SR
  | [], _, lv, st, w => some (lv, st, w, True)
  | i :: r, as, lv, st, w => match sim id sh i as.head?.get! lv st w with
    | some (lv1, st1, w1, g1) => match runG id sh r as.tail lv1 st1 w1 with
      | some (lv2, st2, w2, g2) => some (lv2, st2, w2, g1 ∧ g2)
      | none => none
    | none => none
def segOk (b : ByteArray) : Nat → List Instr → Nat → Bool
  | pc, [], pc' => pc == pc'
  | pc, i :: r, pc' => (match decode b pc with
    | .ok x => decide (x = (i, ilen i))
    | .error _ => false) && segOk b (pc + ilen i) r pc'
theorem Wp_seg {l : LX} {id d mc ms : Nat} {P : RP} {cc ss : Nat} {sh : List Sh} : ∀ {is : List Instr} {as : List Nat} {pc pc' : Nat} {lv lv' : List (Nat × Value)} {st st' : List Value} {w w' : Wd} {G : Prop},
    segOk (mB id) pc is pc' = true → runG id sh is as lv st w = some (lv', st', w', G) → G → Wp l id d mc ms P cc ss pc' lv' st' sh w' → Wp l id d mc ms P cc ss pc lv st sh w := by
  intro is
  induction is with
  | nil =>
    intro as pc pc' lv lv' st st' w w' G h1 h2 _ k
    simp only [segOk, beq_iff_eq] at h1
    simp only [runG, Option.some.injEq, Prod.mk.injEq] at h2
    obtain ⟨rfl, rfl, rfl, -⟩ := h2
    subst h1
    exact k
  | cons i r ih =>
    intro as pc pc' lv lv' st st' w w' G h1 h2 g k
    simp only [segOk, Bool.and_eq_true] at h1
    obtain ⟨h1, h3⟩ := h1
    simp only [runG] at h2
    split at h2
    · rename_i lv1 st1 w1 g1 hs
      split at h2
      · rename_i lv2 st2 w2 g2 hr
        simp only [Option.some.injEq, Prod.mk.injEq] at h2
        obtain ⟨rfl, rfl, rfl, rfl⟩ := h2
        refine sim_ok i hs g.1 ?_ (ih h3 hr g.2 k)
        revert h1
        cases hd : decode (mB id) pc with
        | ok x => intro h1; simp only [decide_eq_true_eq] at h1; rw [h1]
        | error _ => intro h1; cases h1
      · cases h2
    · cases h2
theorem Wp_mono {l : LX} {id d mc ms : Nat} {P P' : RP} {cc ss pc : Nat} {lv : List (Nat × Value)} {st : List Value} {sh : List Sh} {w : Wd} (h : ∀ v s1 w1, P' v s1 w1 → P v s1 w1) (k : Wp l id d mc ms P' cc ss pc lv st sh w) : Wp l id d mc ms P cc ss pc lv st sh w := by
  intro D tyC B0 ad0 n0 p e R s m args below meth c Q hF hK hB hR hst hret
  exact k D tyC B0 ad0 n0 p e R s m args below meth c Q hF hK hB hR hst (fun v sh1 w1 H1 locs1 ls1 ad1 pc1 hp => hret v sh1 w1 H1 locs1 ls1 ad1 pc1 (h _ _ _ hp))
theorem Wp_sub {l : LX} {id d mc ms : Nat} {P : RP} {cc ss pc : Nat} {lv lv' : List (Nat × Value)} {st : List Value} {sh : List Sh} {w : Wd} (is : List Nat) (h : lv_pick lv is = lv') (k : Wp l id d mc ms P cc ss pc lv' st sh w) : Wp l id d mc ms P cc ss pc lv st sh w := by
  intro D tyC B0 ad0 n0 p e R s m args below meth c Q hF hK hB hR hst hret H locs ls ad hA hW hS hl hcc
  refine k D tyC B0 ad0 n0 p e R s m args below meth c Q hF hK hB hR hst hret H locs ls ad hA hW hS (lv_sub hl is ?_) hcc
  subst h
  unfold lv_pick lvc
  rw [List.map_filterMap]
  congr 1
  funext k
  simp
theorem Wp_ret {l : LX} {id d mc ms : Nat} {P : RP} {cc ss pc : Nat} {lv : List (Nat × Value)} {sh : List Sh} {w : Wd} {v : Option Value} (hr : retAt id pc v) (hp : P v sh w) : Wp l id d mc ms P cc ss pc lv v.toList sh w := by
  intro D tyC B0 ad0 n0 p e R s m args below meth c Q hF hK hB hR hst hret H locs ls ad hA hW hS hl hcc
  refine W.widen hcc.1 hcc.2 ?_
  have h := hret v sh w H locs ls ad pc hp hA hW hS hr
  cases v <;> exact h
theorem Wp_goto {l : LX} {id d mc ms : Nat} {P : RP} {cc ss pc : Nat} {lv : List (Nat × Value)} {st : List Value} {sh : List Sh} {w : Wd} {off : Int} {tgt : Nat} (hd : decode (mB id) pc = .ok (.goto off, 3)) (ht : (pc : Int) + off = (tgt : Int)) (k : Wp l id d mc ms P cc ss tgt lv st sh w) : Wp l id d mc ms P cc ss pc lv st sh w := by
  intro D tyC B0 ad0 n0 p e R s m args below meth c Q hF hK hB hR hst hret H locs ls ad hA hW hS hl hcc
  exact lv_goto hF.1 hF.2.1 hd ht (k D tyC B0 ad0 n0 p e R s m args below meth c Q hF hK hB hR hst hret H locs ls ad hA hW hS hl hcc)
/-- the condition of a branch, what stays on the stack, how far it goes -/
def brT (i : Instr) (st : List Value) : Option (Prop × List Value × Int) := match i with
  | .ifCond c off => match st with
    | .int x :: r => some (match c with
      | .eq => x = 0
      | .ne => ¬ x = 0
      | .lt => x < 0
      | .ge => 0 ≤ x
      | .gt => 0 < x
      | .le => x ≤ 0, r, off)
    | _ => none
  | .if_icmp c off => match st with
    | .int y :: .int x :: r => some (match c with
      | .eq => x = y
      | .ne => ¬ x = y
      | .lt => x < y
      | .ge => y ≤ x
      | .gt => y < x
      | .le => x ≤ y, r, off)
    | _ => none
  | _ => none
theorem Wp_br {l : LX} {id d mc ms : Nat} {P : RP} {cc ss pc : Nat} {lv : List (Nat × Value)} {st r : List Value} {sh : List Sh} {w : Wd} {i : Instr} {C : Prop} {off : Int} {tgt : Nat} (hb : brT i st = some (C, r, off)) (hd : decode (mB id) pc = .ok (i, 3)) (ht : (pc : Int) + off = (tgt : Int))
    (kt : C → Wp l id d mc ms P cc ss tgt lv r sh w) (kf : ¬ C → Wp l id d mc ms P cc ss (pc + 3) lv r sh w) : Wp l id d mc ms P cc ss pc lv st sh w := by
  intro D tyC B0 ad0 n0 p e R s m args below meth c Q hF hK hB hR hst hret H locs ls ad hA hW hS hl hcc
  have kt := fun z => kt z D tyC B0 ad0 n0 p e R s m args below meth c Q hF hK hB hR hst hret H locs ls ad hA hW hS hl hcc
  have kf := fun z => kf z D tyC B0 ad0 n0 p e R s m args below meth c Q hF hK hB hR hst hret H locs ls ad hA hW hS hl hcc
  cases i with
  | ifCond cnd o =>
    simp only [brT] at hb
    split at hb
    · simp only [Option.some.injEq, Prod.mk.injEq] at hb
      obtain ⟨rfl, rfl, rfl⟩ := hb
      cases cnd
      · exact lv_if_eq hF.1 hF.2.1 hd ht kt kf
      · exact lv_if_ne hF.1 hF.2.1 hd ht kt (fun z => kf (fun h => h z))
      · exact lv_if_lt hF.1 hF.2.1 hd ht kt kf
      · exact lv_if_ge hF.1 hF.2.1 hd ht kt kf
      · exact lv_if_gt hF.1 hF.2.1 hd ht kt kf
      · exact lv_if_le hF.1 hF.2.1 hd ht kt kf
    · cases hb
  | if_icmp cnd o =>
    simp only [brT] at hb
    split at hb
    · simp only [Option.some.injEq, Prod.mk.injEq] at hb
      obtain ⟨rfl, rfl, rfl⟩ := hb
      cases cnd
      · exact lv_icmp_eq hF.1 hF.2.1 hd ht kt kf
      · exact lv_icmp_ne hF.1 hF.2.1 hd ht kt (fun z => kf (fun h => h z))
      · exact lv_icmp_lt hF.1 hF.2.1 hd ht kt kf
      · exact lv_icmp_ge hF.1 hF.2.1 hd ht kt kf
      · exact lv_icmp_gt hF.1 hF.2.1 hd ht kt kf
      · exact lv_icmp_le hF.1 hF.2.1 hd ht kt kf
    · cases hb
  | _ => simp [brT] at hb
theorem Wp_tsIn {l : LX} {id d mc ms : Nat} {P : RP} {cc ss pc : Nat} {lv : List (Nat × Value)} {r : List Value} {sh : List Sh} {w : Wd} {dflt lo hi : Int} {offs : Array Int} {len : Nat} {x : Int32} {off : Int} {tgt : Nat} (hd : decode (mB id) pc = .ok (.tableswitch dflt lo hi offs, len)) (h1 : ¬ x.toInt < lo) (h2 : ¬ hi < x.toInt) (ho : offs[(x.toInt - lo).toNat]? = some off) (ht : (pc : Int) + off = (tgt : Int))
    (k : Wp l id d mc ms P cc ss tgt lv r sh w) : Wp l id d mc ms P cc ss pc lv (.int x :: r) sh w := by
  intro D tyC B0 ad0 n0 p e R s m args below meth c Q hF hK hB hR hst hret H locs ls ad hA hW hS hl hcc
  exact lv_tableIn hF.1 hF.2.1 hd h1 h2 ho ht (k D tyC B0 ad0 n0 p e R s m args below meth c Q hF hK hB hR hst hret H locs ls ad hA hW hS hl hcc)
theorem Wp_tsOut {l : LX} {id d mc ms : Nat} {P : RP} {cc ss pc : Nat} {lv : List (Nat × Value)} {r : List Value} {sh : List Sh} {w : Wd} {dflt lo hi : Int} {offs : Array Int} {len : Nat} {x : Int32} {tgt : Nat} (hd : decode (mB id) pc = .ok (.tableswitch dflt lo hi offs, len)) (h : x.toInt < lo ∨ hi < x.toInt) (ht : (pc : Int) + dflt = (tgt : Int))
    (k : Wp l id d mc ms P cc ss tgt lv r sh w) : Wp l id d mc ms P cc ss pc lv (.int x :: r) sh w := by
  intro D tyC B0 ad0 n0 p e R s m args below meth c Q hF hK hB hR hst hret H locs ls ad hA hW hS hl hcc
  exact lv_tableOut hF.1 hF.2.1 hd h ht (k D tyC B0 ad0 n0 p e R s m args below meth c Q hF hK hB hR hst hret H locs ls ad hA hW hS hl hcc)
end
