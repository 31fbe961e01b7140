section
variable {l : LX} {id d mc ms : Nat} {P : RP} {cc ss pc ix : Nat} {lv : List (Nat × Value)} {st rest : List Value} {sh : List Sh} {w : Wd}
/-- the law's script: an int of it -/
theorem Wp_sld {j : Int32} (hst0 : st = .int j :: .ref 1000050 :: rest) (hin : vp_in j l.2.1) (hd : decode (mB id) pc = .ok (.iaload, 1)) (kk : Wp l id d mc ms P cc ss (pc + 1) lv (.int (l.2.2 j.toNatClampNeg) :: rest) sh w) : Wp l id d mc ms P cc ss pc lv st sh w := by
  intro D tyC B0 ad0 n0 p e R s m args below meth c Q hF hK hB hR hst hret H locs ls ad hA hW hS hl hcc
  subst hst0
  have hst2 := Stat_ad (fun i hi => hA.2 i (by have := hW.1; omega)) hst
  exact va_ti hF.1 hF.2.1 hst2.2.2.2.2.2.1 hS hin rfl hd (kk D tyC B0 ad0 n0 p e R s m args below meth c Q hF hK hB hR hst hret H locs ls ad hA hW hS hl hcc)
theorem Wp_slen (hst0 : st = .ref 1000050 :: rest) (hd : decode (mB id) pc = .ok (.arraylength, 1)) (kk : Wp l id d mc ms P cc ss (pc + 1) lv (.int (Int32.ofNat l.2.1) :: rest) sh w) : Wp l id d mc ms P cc ss pc lv st sh w := by
  intro D tyC B0 ad0 n0 p e R s m args below meth c Q hF hK hB hR hst hret H locs ls ad hA hW hS hl hcc
  subst hst0
  have hst2 := Stat_ad (fun i hi => hA.2 i (by have := hW.1; omega)) hst
  exact va_tlen hF.1 hF.2.1 hst2.2.2.2.2.2.1 hS rfl hd (kk D tyC B0 ad0 n0 p e R s m args below meth c Q hF hK hB hR hst hret H locs ls ad hA hW hS hl hcc)
/-- the table ABOVE -/
theorem Wp_abget (ho : mO id = 2) (hd : decode (mB id) pc = .ok (.getstatic 30, 3)) (kk : Wp l id d mc ms P cc ss (pc + 3) lv (.ref 1000000 :: st) sh w) : Wp l id d mc ms P cc ss pc lv st sh w := by
  intro D tyC B0 ad0 n0 p e R s m args below meth c Q hF hK hB hR hst hret H locs ls ad hA hW hS hl hcc
  have hst2 := Stat_ad (fun i hi => hA.2 i (by have := hW.1; omega)) hst
  have hown := hF.2.2.2.2.1
  rw [ho] at hown
  exact va_gets hF.1 hF.2.1 hst2.2.2.2.1 hS hown (hF.2.2.2.2.2.1 _ ab_link) (fun _ h => h) hd (kk D tyC B0 ad0 n0 p e R s m args below meth c Q hF hK hB hR hst hret H locs ls ad hA hW hS hl hcc)
theorem Wp_abld {j : Int32} (hst0 : st = .int j :: .ref 1000000 :: rest) (hin : vp_in j 6) (hd : decode (mB id) pc = .ok (.iaload, 1)) (kk : Wp l id d mc ms P cc ss (pc + 1) lv (.int (abv j.toNatClampNeg) :: rest) sh w) : Wp l id d mc ms P cc ss pc lv st sh w := by
  intro D tyC B0 ad0 n0 p e R s m args below meth c Q hF hK hB hR hst hret H locs ls ad hA hW hS hl hcc
  subst hst0
  have hst2 := Stat_ad (fun i hi => hA.2 i (by have := hW.1; omega)) hst
  exact va_ti hF.1 hF.2.1 hst2.2.2.2.2.1 hS hin rfl hd (kk D tyC B0 ad0 n0 p e R s m args below meth c Q hF hK hB hR hst hret H locs ls ad hA hW hS hl hcc)
theorem Wp_ablen (hst0 : st = .ref 1000000 :: rest) (hd : decode (mB id) pc = .ok (.arraylength, 1)) (kk : Wp l id d mc ms P cc ss (pc + 1) lv (.int 6 :: rest) sh w) : Wp l id d mc ms P cc ss pc lv st sh w := by
  intro D tyC B0 ad0 n0 p e R s m args below meth c Q hF hK hB hR hst hret H locs ls ad hA hW hS hl hcc
  subst hst0
  have hst2 := Stat_ad (fun i hi => hA.2 i (by have := hW.1; omega)) hst
  exact va_tlen hF.1 hF.2.1 hst2.2.2.2.2.1 hS rfl hd (kk D tyC B0 ad0 n0 p e R s m args below meth c Q hF hK hB hR hst hret H locs ls ad hA hW hS hl hcc)
/-- a String constant of the reader's -/
theorem Wp_ldcS {i : Nat} {q : Nat × String × List Int32} (ho : mO id = 7) (hi : sTb[i]? = some q) (hd : decode (mB id) pc = .ok (.ldc q.1, 2)) (kk : Wp l id d mc ms P cc ss (pc + 2) lv (.ref (1000001 + i) :: st) sh w) : Wp l id d mc ms P cc ss pc lv st sh w := by
  intro D tyC B0 ad0 n0 p e R s m args below meth c Q hF hK hB hR hst hret H locs ls ad hA hW hS hl hcc
  have hst2 := Stat_ad (fun i hi => hA.2 i (by have := hW.1; omega)) hst
  have hown := hF.2.2.2.2.1
  rw [ho] at hown
  exact va_ldcS hF.1 hF.2.1 hown (hst2.2.2.2.2.2.2.2.1 i q hi) hd (kk D tyC B0 ad0 n0 p e R s m args below meth c Q hF hK hB hR hst hret H locs ls ad hA hW hS hl hcc)
end
