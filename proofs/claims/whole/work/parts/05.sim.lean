section
theorem nF_of {ci : Nat} {q : vw_C} (h : clsT[ci]? = some q) : nF ci = q.2.2 := by unfold nF; rw [List.getD_eq_getElem?_getD, h]; rfl
def SimOk (i : Instr) : Prop := ∀ {l : LX} {id d mc ms : Nat} {P : RP} {cc ss pc a : Nat} {lv lv' : List (Nat × Value)} {st st' : List Value} {sh : List Sh} {w w' : Wd} {G : Prop}, sim id sh i a lv st w = some (lv', st', w', G) → G → decode (mB id) pc = .ok (i, ilen i) → Wp l id d mc ms P cc ss (pc + ilen i) lv' st' sh w' → Wp l id d mc ms P cc ss pc lv st sh w
theorem so_iconst (n : Int) : SimOk (.iconst n) := by
  intro l id d mc ms P cc ss pc a lv lv' st st' sh w w' G h g hd k D tyC B0 ad0 n0 p e R s m args below meth c Q hF hK hB hR hst hret H locs ls ad hA hW hS hl hcc
  simp only [sim, pI, pL, pF, Option.some.injEq, Prod.mk.injEq] at h
  obtain ⟨rfl, rfl, rfl, rfl⟩ := h
  exact lv_iconst hF.1 hF.2.1 hd rfl (k D tyC B0 ad0 n0 p e R s m args below meth c Q hF hK hB hR hst hret H locs ls ad hA hW hS hl hcc)
theorem so_bipush (n : Int) : SimOk (.bipush n) := by
  intro l id d mc ms P cc ss pc a lv lv' st st' sh w w' G h g hd k D tyC B0 ad0 n0 p e R s m args below meth c Q hF hK hB hR hst hret H locs ls ad hA hW hS hl hcc
  simp only [sim, pI, pL, pF, Option.some.injEq, Prod.mk.injEq] at h
  obtain ⟨rfl, rfl, rfl, rfl⟩ := h
  exact lv_bipush hF.1 hF.2.1 hd rfl (k D tyC B0 ad0 n0 p e R s m args below meth c Q hF hK hB hR hst hret H locs ls ad hA hW hS hl hcc)
theorem so_sipush (n : Int) : SimOk (.sipush n) := by
  intro l id d mc ms P cc ss pc a lv lv' st st' sh w w' G h g hd k D tyC B0 ad0 n0 p e R s m args below meth c Q hF hK hB hR hst hret H locs ls ad hA hW hS hl hcc
  simp only [sim, pI, pL, pF, Option.some.injEq, Prod.mk.injEq] at h
  obtain ⟨rfl, rfl, rfl, rfl⟩ := h
  exact lv_sipush hF.1 hF.2.1 hd rfl (k D tyC B0 ad0 n0 p e R s m args below meth c Q hF hK hB hR hst hret H locs ls ad hA hW hS hl hcc)
theorem so_lconst (n : Fin 2) : SimOk (.lconst n) := by
  intro l id d mc ms P cc ss pc a lv lv' st st' sh w w' G h g hd k D tyC B0 ad0 n0 p e R s m args below meth c Q hF hK hB hR hst hret H locs ls ad hA hW hS hl hcc
  simp only [sim, pI, pL, pF, Option.some.injEq, Prod.mk.injEq] at h
  obtain ⟨rfl, rfl, rfl, rfl⟩ := h
  exact lv_lconst hF.1 hF.2.1 hd rfl (k D tyC B0 ad0 n0 p e R s m args below meth c Q hF hK hB hR hst hret H locs ls ad hA hW hS hl hcc)
theorem so_fconst (n : Fin 3) : SimOk (.fconst n) := by
  intro l id d mc ms P cc ss pc a lv lv' st st' sh w w' G h g hd k D tyC B0 ad0 n0 p e R s m args below meth c Q hF hK hB hR hst hret H locs ls ad hA hW hS hl hcc
  unfold sim at h
  match n, h, hd with
  | 0, h, hd => simp only [pF, Option.some.injEq, Prod.mk.injEq] at h; obtain ⟨rfl, rfl, rfl, rfl⟩ := h; exact lv_fconst0 hF.1 hF.2.1 hd (k D tyC B0 ad0 n0 p e R s m args below meth c Q hF hK hB hR hst hret H locs ls ad hA hW hS hl hcc)
  | 1, h, hd => simp only [pF, Option.some.injEq, Prod.mk.injEq] at h; obtain ⟨rfl, rfl, rfl, rfl⟩ := h; exact lv_fconst1 hF.1 hF.2.1 hd (k D tyC B0 ad0 n0 p e R s m args below meth c Q hF hK hB hR hst hret H locs ls ad hA hW hS hl hcc)
  | 2, h, hd => cases h
theorem so_iload (n : Nat) : SimOk (.iload n) := by
  intro l id d mc ms P cc ss pc a lv lv' st st' sh w w' G h g hd k D tyC B0 ad0 n0 p e R s m args below meth c Q hF hK hB hR hst hret H locs ls ad hA hW hS hl hcc
  simp only [sim, pI, pL, pF] at h
  split at h
  · rename_i x hx
    simp only [Option.some.injEq, Prod.mk.injEq] at h
    obtain ⟨rfl, rfl, rfl, rfl⟩ := h
    exact lv_iload hF.1 hF.2.1 hd (lv_rd hl hx) (k D tyC B0 ad0 n0 p e R s m args below meth c Q hF hK hB hR hst hret H locs ls ad hA hW hS hl hcc)
  · cases h
theorem so_iload_n (n : Fin 4) : SimOk (.iload_n n) := by
  intro l id d mc ms P cc ss pc a lv lv' st st' sh w w' G h g hd k D tyC B0 ad0 n0 p e R s m args below meth c Q hF hK hB hR hst hret H locs ls ad hA hW hS hl hcc
  simp only [sim, pI, pL, pF] at h
  split at h
  · rename_i x hx
    simp only [Option.some.injEq, Prod.mk.injEq] at h
    obtain ⟨rfl, rfl, rfl, rfl⟩ := h
    exact lv_iload_n hF.1 hF.2.1 hd rfl (lv_rd hl hx) (k D tyC B0 ad0 n0 p e R s m args below meth c Q hF hK hB hR hst hret H locs ls ad hA hW hS hl hcc)
  · cases h
theorem so_lload (n : Nat) : SimOk (.lload n) := by
  intro l id d mc ms P cc ss pc a lv lv' st st' sh w w' G h g hd k D tyC B0 ad0 n0 p e R s m args below meth c Q hF hK hB hR hst hret H locs ls ad hA hW hS hl hcc
  simp only [sim, pI, pL, pF] at h
  split at h
  · rename_i x hx
    simp only [Option.some.injEq, Prod.mk.injEq] at h
    obtain ⟨rfl, rfl, rfl, rfl⟩ := h
    exact lv_lload hF.1 hF.2.1 hd (lv_rd hl hx) (k D tyC B0 ad0 n0 p e R s m args below meth c Q hF hK hB hR hst hret H locs ls ad hA hW hS hl hcc)
  · cases h
theorem so_lload_n (n : Fin 4) : SimOk (.lload_n n) := by
  intro l id d mc ms P cc ss pc a lv lv' st st' sh w w' G h g hd k D tyC B0 ad0 n0 p e R s m args below meth c Q hF hK hB hR hst hret H locs ls ad hA hW hS hl hcc
  simp only [sim, pI, pL, pF] at h
  split at h
  · rename_i x hx
    simp only [Option.some.injEq, Prod.mk.injEq] at h
    obtain ⟨rfl, rfl, rfl, rfl⟩ := h
    exact lv_lload_n hF.1 hF.2.1 hd rfl (lv_rd hl hx) (k D tyC B0 ad0 n0 p e R s m args below meth c Q hF hK hB hR hst hret H locs ls ad hA hW hS hl hcc)
  · cases h
theorem so_fload (n : Nat) : SimOk (.fload n) := by
  intro l id d mc ms P cc ss pc a lv lv' st st' sh w w' G h g hd k D tyC B0 ad0 n0 p e R s m args below meth c Q hF hK hB hR hst hret H locs ls ad hA hW hS hl hcc
  simp only [sim, pI, pL, pF] at h
  split at h
  · rename_i x hx
    simp only [Option.some.injEq, Prod.mk.injEq] at h
    obtain ⟨rfl, rfl, rfl, rfl⟩ := h
    exact lv_fload hF.1 hF.2.1 hd (lv_rd hl hx) (k D tyC B0 ad0 n0 p e R s m args below meth c Q hF hK hB hR hst hret H locs ls ad hA hW hS hl hcc)
  · cases h
theorem so_fload_n (n : Fin 4) : SimOk (.fload_n n) := by
  intro l id d mc ms P cc ss pc a lv lv' st st' sh w w' G h g hd k D tyC B0 ad0 n0 p e R s m args below meth c Q hF hK hB hR hst hret H locs ls ad hA hW hS hl hcc
  simp only [sim, pI, pL, pF] at h
  split at h
  · rename_i x hx
    simp only [Option.some.injEq, Prod.mk.injEq] at h
    obtain ⟨rfl, rfl, rfl, rfl⟩ := h
    exact lv_fload_n hF.1 hF.2.1 hd rfl (lv_rd hl hx) (k D tyC B0 ad0 n0 p e R s m args below meth c Q hF hK hB hR hst hret H locs ls ad hA hW hS hl hcc)
  · cases h
theorem so_aload (n : Nat) : SimOk (.aload n) := by
  intro l id d mc ms P cc ss pc a lv lv' st st' sh w w' G h g hd k D tyC B0 ad0 n0 p e R s m args below meth c Q hF hK hB hR hst hret H locs ls ad hA hW hS hl hcc
  simp only [sim, pI, pL, pF] at h
  split at h
  · rename_i x hx
    simp only [Option.some.injEq, Prod.mk.injEq] at h
    obtain ⟨rfl, rfl, rfl, rfl⟩ := h
    exact lv_aload hF.1 hF.2.1 hd (lv_rd hl hx) (k D tyC B0 ad0 n0 p e R s m args below meth c Q hF hK hB hR hst hret H locs ls ad hA hW hS hl hcc)
  · cases h
theorem so_aload_n (n : Fin 4) : SimOk (.aload_n n) := by
  intro l id d mc ms P cc ss pc a lv lv' st st' sh w w' G h g hd k D tyC B0 ad0 n0 p e R s m args below meth c Q hF hK hB hR hst hret H locs ls ad hA hW hS hl hcc
  simp only [sim, pI, pL, pF] at h
  split at h
  · rename_i x hx
    simp only [Option.some.injEq, Prod.mk.injEq] at h
    obtain ⟨rfl, rfl, rfl, rfl⟩ := h
    exact lv_aload_n hF.1 hF.2.1 hd rfl (lv_rd hl hx) (k D tyC B0 ad0 n0 p e R s m args below meth c Q hF hK hB hR hst hret H locs ls ad hA hW hS hl hcc)
  · cases h
theorem so_istore (n : Nat) : SimOk (.istore n) := by
  intro l id d mc ms P cc ss pc a lv lv' st st' sh w w' G h g hd k D tyC B0 ad0 n0 p e R s m args below meth c Q hF hK hB hR hst hret H locs ls ad hA hW hS hl hcc
  simp only [sim] at h
  split at h
  · split at h
    · rename_i hn
      simp only [Option.some.injEq, Prod.mk.injEq] at h
      obtain ⟨rfl, rfl, rfl, rfl⟩ := h
      exact lv_istore hF.1 hF.2.1 hd hl hn rfl (fun ls1 hl1 => k D tyC B0 ad0 n0 p e R s m args below meth c Q hF hK hB hR hst hret H locs ls1 ad hA hW hS (by rw [← lvc_ls1]; exact hl1) hcc)
    · cases h
  · cases h
theorem so_istore_n (n : Fin 4) : SimOk (.istore_n n) := by
  intro l id d mc ms P cc ss pc a lv lv' st st' sh w w' G h g hd k D tyC B0 ad0 n0 p e R s m args below meth c Q hF hK hB hR hst hret H locs ls ad hA hW hS hl hcc
  simp only [sim] at h
  split at h
  · split at h
    · rename_i hn
      simp only [Option.some.injEq, Prod.mk.injEq] at h
      obtain ⟨rfl, rfl, rfl, rfl⟩ := h
      exact lv_istore_n hF.1 hF.2.1 hd rfl hl hn rfl (fun ls1 hl1 => k D tyC B0 ad0 n0 p e R s m args below meth c Q hF hK hB hR hst hret H locs ls1 ad hA hW hS (by rw [← lvc_ls1]; exact hl1) hcc)
    · cases h
  · cases h
theorem so_fstore (n : Nat) : SimOk (.fstore n) := by
  intro l id d mc ms P cc ss pc a lv lv' st st' sh w w' G h g hd k D tyC B0 ad0 n0 p e R s m args below meth c Q hF hK hB hR hst hret H locs ls ad hA hW hS hl hcc
  simp only [sim] at h
  split at h
  · split at h
    · rename_i hn
      simp only [Option.some.injEq, Prod.mk.injEq] at h
      obtain ⟨rfl, rfl, rfl, rfl⟩ := h
      exact lv_fstore hF.1 hF.2.1 hd hl hn rfl (fun ls1 hl1 => k D tyC B0 ad0 n0 p e R s m args below meth c Q hF hK hB hR hst hret H locs ls1 ad hA hW hS (by rw [← lvc_ls1]; exact hl1) hcc)
    · cases h
  · cases h
theorem so_fstore_n (n : Fin 4) : SimOk (.fstore_n n) := by
  intro l id d mc ms P cc ss pc a lv lv' st st' sh w w' G h g hd k D tyC B0 ad0 n0 p e R s m args below meth c Q hF hK hB hR hst hret H locs ls ad hA hW hS hl hcc
  simp only [sim] at h
  split at h
  · split at h
    · rename_i hn
      simp only [Option.some.injEq, Prod.mk.injEq] at h
      obtain ⟨rfl, rfl, rfl, rfl⟩ := h
      exact lv_fstore_n hF.1 hF.2.1 hd rfl hl hn rfl (fun ls1 hl1 => k D tyC B0 ad0 n0 p e R s m args below meth c Q hF hK hB hR hst hret H locs ls1 ad hA hW hS (by rw [← lvc_ls1]; exact hl1) hcc)
    · cases h
  · cases h
theorem so_lstore (n : Nat) : SimOk (.lstore n) := by
  intro l id d mc ms P cc ss pc a lv lv' st st' sh w w' G h g hd k D tyC B0 ad0 n0 p e R s m args below meth c Q hF hK hB hR hst hret H locs ls ad hA hW hS hl hcc
  simp only [sim] at h
  split at h
  · split at h
    · rename_i hn
      simp only [Option.some.injEq, Prod.mk.injEq] at h
      obtain ⟨rfl, rfl, rfl, rfl⟩ := h
      exact lv_lstore hF.1 hF.2.1 hd hl hn rfl (fun ls1 hl1 => k D tyC B0 ad0 n0 p e R s m args below meth c Q hF hK hB hR hst hret H locs ls1 ad hA hW hS (by rw [← lvc_ls2]; exact hl1) hcc)
    · cases h
  · cases h
theorem so_lstore_n (n : Fin 4) : SimOk (.lstore_n n) := by
  intro l id d mc ms P cc ss pc a lv lv' st st' sh w w' G h g hd k D tyC B0 ad0 n0 p e R s m args below meth c Q hF hK hB hR hst hret H locs ls ad hA hW hS hl hcc
  simp only [sim] at h
  split at h
  · split at h
    · rename_i hn
      simp only [Option.some.injEq, Prod.mk.injEq] at h
      obtain ⟨rfl, rfl, rfl, rfl⟩ := h
      exact lv_lstore_n hF.1 hF.2.1 hd rfl hl hn rfl (fun ls1 hl1 => k D tyC B0 ad0 n0 p e R s m args below meth c Q hF hK hB hR hst hret H locs ls1 ad hA hW hS (by rw [← lvc_ls2]; exact hl1) hcc)
    · cases h
  · cases h
theorem so_astore (n : Nat) : SimOk (.astore n) := by
  intro l id d mc ms P cc ss pc a lv lv' st st' sh w w' G h g hd k D tyC B0 ad0 n0 p e R s m args below meth c Q hF hK hB hR hst hret H locs ls ad hA hW hS hl hcc
  simp only [sim] at h
  split at h
  · split at h
    · rename_i hn
      simp only [Option.some.injEq, Prod.mk.injEq] at h
      obtain ⟨rfl, rfl, rfl, rfl⟩ := h
      exact lv_astore hF.1 hF.2.1 hd hl hn rfl (fun ls1 hl1 => k D tyC B0 ad0 n0 p e R s m args below meth c Q hF hK hB hR hst hret H locs ls1 ad hA hW hS (by rw [← lvc_ls1]; exact hl1) hcc)
    · cases h
  · cases h
theorem so_astore_n (n : Fin 4) : SimOk (.astore_n n) := by
  intro l id d mc ms P cc ss pc a lv lv' st st' sh w w' G h g hd k D tyC B0 ad0 n0 p e R s m args below meth c Q hF hK hB hR hst hret H locs ls ad hA hW hS hl hcc
  simp only [sim] at h
  split at h
  · split at h
    · rename_i hn
      simp only [Option.some.injEq, Prod.mk.injEq] at h
      obtain ⟨rfl, rfl, rfl, rfl⟩ := h
      exact lv_astore_n hF.1 hF.2.1 hd rfl hl hn rfl (fun ls1 hl1 => k D tyC B0 ad0 n0 p e R s m args below meth c Q hF hK hB hR hst hret H locs ls1 ad hA hW hS (by rw [← lvc_ls1]; exact hl1) hcc)
    · cases h
  · cases h
theorem so_iinc (n : Nat) (q : Int) : SimOk (.iinc n q) := by
  intro l id d mc ms P cc ss pc a lv lv' st st' sh w w' G h g hd k D tyC B0 ad0 n0 p e R s m args below meth c Q hF hK hB hR hst hret H locs ls ad hA hW hS hl hcc
  simp only [sim] at h
  split at h
  · rename_i x hx
    split at h
    · rename_i hn
      simp only [Option.some.injEq, Prod.mk.injEq] at h
      obtain ⟨rfl, rfl, rfl, rfl⟩ := h
      obtain ⟨kk, hkk⟩ := List.getElem?_of_mem (List.mem_map.mpr ⟨(n, .int x), lk_mem hx, rfl⟩ : (n, cvv ad (.int x)) ∈ lvc ad lv)
      exact lv_iinc hF.1 hF.2.1 hd hl hkk rfl hn rfl (fun ls1 hl1 => k D tyC B0 ad0 n0 p e R s m args below meth c Q hF hK hB hR hst hret H locs ls1 ad hA hW hS (by rw [← lvc_ls1]; exact hl1) hcc)
    · cases h
  · cases h
theorem so_iadd  : SimOk (.iadd) := by
  intro l id d mc ms P cc ss pc a lv lv' st st' sh w w' G h g hd k D tyC B0 ad0 n0 p e R s m args below meth c Q hF hK hB hR hst hret H locs ls ad hA hW hS hl hcc
  simp only [sim, pI, pL, pF] at h
  split at h
  · simp only [Option.some.injEq, Prod.mk.injEq] at h
    obtain ⟨rfl, rfl, rfl, rfl⟩ := h
    exact lv_iadd hF.1 hF.2.1 hd  (k D tyC B0 ad0 n0 p e R s m args below meth c Q hF hK hB hR hst hret H locs ls ad hA hW hS hl hcc)
  · cases h
theorem so_isub  : SimOk (.isub) := by
  intro l id d mc ms P cc ss pc a lv lv' st st' sh w w' G h g hd k D tyC B0 ad0 n0 p e R s m args below meth c Q hF hK hB hR hst hret H locs ls ad hA hW hS hl hcc
  simp only [sim, pI, pL, pF] at h
  split at h
  · simp only [Option.some.injEq, Prod.mk.injEq] at h
    obtain ⟨rfl, rfl, rfl, rfl⟩ := h
    exact lv_isub hF.1 hF.2.1 hd  (k D tyC B0 ad0 n0 p e R s m args below meth c Q hF hK hB hR hst hret H locs ls ad hA hW hS hl hcc)
  · cases h
theorem so_imul  : SimOk (.imul) := by
  intro l id d mc ms P cc ss pc a lv lv' st st' sh w w' G h g hd k D tyC B0 ad0 n0 p e R s m args below meth c Q hF hK hB hR hst hret H locs ls ad hA hW hS hl hcc
  simp only [sim, pI, pL, pF] at h
  split at h
  · simp only [Option.some.injEq, Prod.mk.injEq] at h
    obtain ⟨rfl, rfl, rfl, rfl⟩ := h
    exact lv_imul hF.1 hF.2.1 hd  (k D tyC B0 ad0 n0 p e R s m args below meth c Q hF hK hB hR hst hret H locs ls ad hA hW hS hl hcc)
  · cases h
theorem so_iand  : SimOk (.iand) := by
  intro l id d mc ms P cc ss pc a lv lv' st st' sh w w' G h g hd k D tyC B0 ad0 n0 p e R s m args below meth c Q hF hK hB hR hst hret H locs ls ad hA hW hS hl hcc
  simp only [sim, pI, pL, pF] at h
  split at h
  · simp only [Option.some.injEq, Prod.mk.injEq] at h
    obtain ⟨rfl, rfl, rfl, rfl⟩ := h
    exact lv_iand hF.1 hF.2.1 hd  (k D tyC B0 ad0 n0 p e R s m args below meth c Q hF hK hB hR hst hret H locs ls ad hA hW hS hl hcc)
  · cases h
theorem so_ior  : SimOk (.ior) := by
  intro l id d mc ms P cc ss pc a lv lv' st st' sh w w' G h g hd k D tyC B0 ad0 n0 p e R s m args below meth c Q hF hK hB hR hst hret H locs ls ad hA hW hS hl hcc
  simp only [sim, pI, pL, pF] at h
  split at h
  · simp only [Option.some.injEq, Prod.mk.injEq] at h
    obtain ⟨rfl, rfl, rfl, rfl⟩ := h
    exact lv_ior hF.1 hF.2.1 hd  (k D tyC B0 ad0 n0 p e R s m args below meth c Q hF hK hB hR hst hret H locs ls ad hA hW hS hl hcc)
  · cases h
theorem so_ixor  : SimOk (.ixor) := by
  intro l id d mc ms P cc ss pc a lv lv' st st' sh w w' G h g hd k D tyC B0 ad0 n0 p e R s m args below meth c Q hF hK hB hR hst hret H locs ls ad hA hW hS hl hcc
  simp only [sim, pI, pL, pF] at h
  split at h
  · simp only [Option.some.injEq, Prod.mk.injEq] at h
    obtain ⟨rfl, rfl, rfl, rfl⟩ := h
    exact lv_ixor hF.1 hF.2.1 hd  (k D tyC B0 ad0 n0 p e R s m args below meth c Q hF hK hB hR hst hret H locs ls ad hA hW hS hl hcc)
  · cases h
theorem so_ishl  : SimOk (.ishl) := by
  intro l id d mc ms P cc ss pc a lv lv' st st' sh w w' G h g hd k D tyC B0 ad0 n0 p e R s m args below meth c Q hF hK hB hR hst hret H locs ls ad hA hW hS hl hcc
  simp only [sim, pI, pL, pF] at h
  split at h
  · simp only [Option.some.injEq, Prod.mk.injEq] at h
    obtain ⟨rfl, rfl, rfl, rfl⟩ := h
    exact lv_ishl hF.1 hF.2.1 hd  (k D tyC B0 ad0 n0 p e R s m args below meth c Q hF hK hB hR hst hret H locs ls ad hA hW hS hl hcc)
  · cases h
theorem so_ishr  : SimOk (.ishr) := by
  intro l id d mc ms P cc ss pc a lv lv' st st' sh w w' G h g hd k D tyC B0 ad0 n0 p e R s m args below meth c Q hF hK hB hR hst hret H locs ls ad hA hW hS hl hcc
  simp only [sim, pI, pL, pF] at h
  split at h
  · simp only [Option.some.injEq, Prod.mk.injEq] at h
    obtain ⟨rfl, rfl, rfl, rfl⟩ := h
    exact lv_ishr hF.1 hF.2.1 hd  (k D tyC B0 ad0 n0 p e R s m args below meth c Q hF hK hB hR hst hret H locs ls ad hA hW hS hl hcc)
  · cases h
theorem so_ineg  : SimOk (.ineg) := by
  intro l id d mc ms P cc ss pc a lv lv' st st' sh w w' G h g hd k D tyC B0 ad0 n0 p e R s m args below meth c Q hF hK hB hR hst hret H locs ls ad hA hW hS hl hcc
  simp only [sim, pI, pL, pF] at h
  split at h
  · simp only [Option.some.injEq, Prod.mk.injEq] at h
    obtain ⟨rfl, rfl, rfl, rfl⟩ := h
    exact lv_ineg hF.1 hF.2.1 hd  (k D tyC B0 ad0 n0 p e R s m args below meth c Q hF hK hB hR hst hret H locs ls ad hA hW hS hl hcc)
  · cases h
theorem so_ladd  : SimOk (.ladd) := by
  intro l id d mc ms P cc ss pc a lv lv' st st' sh w w' G h g hd k D tyC B0 ad0 n0 p e R s m args below meth c Q hF hK hB hR hst hret H locs ls ad hA hW hS hl hcc
  simp only [sim, pI, pL, pF] at h
  split at h
  · simp only [Option.some.injEq, Prod.mk.injEq] at h
    obtain ⟨rfl, rfl, rfl, rfl⟩ := h
    exact lv_ladd hF.1 hF.2.1 hd  (k D tyC B0 ad0 n0 p e R s m args below meth c Q hF hK hB hR hst hret H locs ls ad hA hW hS hl hcc)
  · cases h
theorem so_lsub  : SimOk (.lsub) := by
  intro l id d mc ms P cc ss pc a lv lv' st st' sh w w' G h g hd k D tyC B0 ad0 n0 p e R s m args below meth c Q hF hK hB hR hst hret H locs ls ad hA hW hS hl hcc
  simp only [sim, pI, pL, pF] at h
  split at h
  · simp only [Option.some.injEq, Prod.mk.injEq] at h
    obtain ⟨rfl, rfl, rfl, rfl⟩ := h
    exact lv_lsub hF.1 hF.2.1 hd  (k D tyC B0 ad0 n0 p e R s m args below meth c Q hF hK hB hR hst hret H locs ls ad hA hW hS hl hcc)
  · cases h
theorem so_lmul  : SimOk (.lmul) := by
  intro l id d mc ms P cc ss pc a lv lv' st st' sh w w' G h g hd k D tyC B0 ad0 n0 p e R s m args below meth c Q hF hK hB hR hst hret H locs ls ad hA hW hS hl hcc
  simp only [sim, pI, pL, pF] at h
  split at h
  · simp only [Option.some.injEq, Prod.mk.injEq] at h
    obtain ⟨rfl, rfl, rfl, rfl⟩ := h
    exact lv_lmul hF.1 hF.2.1 hd  (k D tyC B0 ad0 n0 p e R s m args below meth c Q hF hK hB hR hst hret H locs ls ad hA hW hS hl hcc)
  · cases h
theorem so_i2f  : SimOk (.i2f) := by
  intro l id d mc ms P cc ss pc a lv lv' st st' sh w w' G h g hd k D tyC B0 ad0 n0 p e R s m args below meth c Q hF hK hB hR hst hret H locs ls ad hA hW hS hl hcc
  simp only [sim, pI, pL, pF] at h
  split at h
  · simp only [Option.some.injEq, Prod.mk.injEq] at h
    obtain ⟨rfl, rfl, rfl, rfl⟩ := h
    exact lv_i2f hF.1 hF.2.1 hd  (k D tyC B0 ad0 n0 p e R s m args below meth c Q hF hK hB hR hst hret H locs ls ad hA hW hS hl hcc)
  · cases h
theorem so_f2i  : SimOk (.f2i) := by
  intro l id d mc ms P cc ss pc a lv lv' st st' sh w w' G h g hd k D tyC B0 ad0 n0 p e R s m args below meth c Q hF hK hB hR hst hret H locs ls ad hA hW hS hl hcc
  simp only [sim, pI, pL, pF] at h
  split at h
  · simp only [Option.some.injEq, Prod.mk.injEq] at h
    obtain ⟨rfl, rfl, rfl, rfl⟩ := h
    exact lv_f2i hF.1 hF.2.1 hd  (k D tyC B0 ad0 n0 p e R s m args below meth c Q hF hK hB hR hst hret H locs ls ad hA hW hS hl hcc)
  · cases h
theorem so_f2l  : SimOk (.f2l) := by
  intro l id d mc ms P cc ss pc a lv lv' st st' sh w w' G h g hd k D tyC B0 ad0 n0 p e R s m args below meth c Q hF hK hB hR hst hret H locs ls ad hA hW hS hl hcc
  simp only [sim, pI, pL, pF] at h
  split at h
  · simp only [Option.some.injEq, Prod.mk.injEq] at h
    obtain ⟨rfl, rfl, rfl, rfl⟩ := h
    exact lv_f2l hF.1 hF.2.1 hd  (k D tyC B0 ad0 n0 p e R s m args below meth c Q hF hK hB hR hst hret H locs ls ad hA hW hS hl hcc)
  · cases h
theorem so_fcmp (op : CmpOp) : SimOk (.fcmp op) := by
  intro l id d mc ms P cc ss pc a lv lv' st st' sh w w' G h g hd k D tyC B0 ad0 n0 p e R s m args below meth c Q hF hK hB hR hst hret H locs ls ad hA hW hS hl hcc
  simp only [sim, pI, pL, pF] at h
  split at h
  · simp only [Option.some.injEq, Prod.mk.injEq] at h
    obtain ⟨rfl, rfl, rfl, rfl⟩ := h
    exact lv_fcmp hF.1 hF.2.1 hd  (k D tyC B0 ad0 n0 p e R s m args below meth c Q hF hK hB hR hst hret H locs ls ad hA hW hS hl hcc)
  · cases h
theorem so_iushr  : SimOk (.iushr) := by
  intro l id d mc ms P cc ss pc a lv lv' st st' sh w w' G h g hd k D tyC B0 ad0 n0 p e R s m args below meth c Q hF hK hB hR hst hret H locs ls ad hA hW hS hl hcc
  simp only [sim, pI, pL, pF] at h
  split at h
  · simp only [Option.some.injEq, Prod.mk.injEq] at h
    obtain ⟨rfl, rfl, rfl, rfl⟩ := h
    exact lv_iushr hF.1 hF.2.1 hd rfl  (k D tyC B0 ad0 n0 p e R s m args below meth c Q hF hK hB hR hst hret H locs ls ad hA hW hS hl hcc)
  · cases h
theorem so_lushr  : SimOk (.lushr) := by
  intro l id d mc ms P cc ss pc a lv lv' st st' sh w w' G h g hd k D tyC B0 ad0 n0 p e R s m args below meth c Q hF hK hB hR hst hret H locs ls ad hA hW hS hl hcc
  simp only [sim, pI, pL, pF] at h
  split at h
  · simp only [Option.some.injEq, Prod.mk.injEq] at h
    obtain ⟨rfl, rfl, rfl, rfl⟩ := h
    exact lv_lushr hF.1 hF.2.1 hd rfl  (k D tyC B0 ad0 n0 p e R s m args below meth c Q hF hK hB hR hst hret H locs ls ad hA hW hS hl hcc)
  · cases h
theorem so_i2l  : SimOk (.i2l) := by
  intro l id d mc ms P cc ss pc a lv lv' st st' sh w w' G h g hd k D tyC B0 ad0 n0 p e R s m args below meth c Q hF hK hB hR hst hret H locs ls ad hA hW hS hl hcc
  simp only [sim, pI, pL, pF] at h
  split at h
  · simp only [Option.some.injEq, Prod.mk.injEq] at h
    obtain ⟨rfl, rfl, rfl, rfl⟩ := h
    exact lv_i2l hF.1 hF.2.1 hd rfl  (k D tyC B0 ad0 n0 p e R s m args below meth c Q hF hK hB hR hst hret H locs ls ad hA hW hS hl hcc)
  · cases h
theorem so_l2i  : SimOk (.l2i) := by
  intro l id d mc ms P cc ss pc a lv lv' st st' sh w w' G h g hd k D tyC B0 ad0 n0 p e R s m args below meth c Q hF hK hB hR hst hret H locs ls ad hA hW hS hl hcc
  simp only [sim, pI, pL, pF] at h
  split at h
  · simp only [Option.some.injEq, Prod.mk.injEq] at h
    obtain ⟨rfl, rfl, rfl, rfl⟩ := h
    exact lv_l2i hF.1 hF.2.1 hd rfl  (k D tyC B0 ad0 n0 p e R s m args below meth c Q hF hK hB hR hst hret H locs ls ad hA hW hS hl hcc)
  · cases h
theorem so_i2b  : SimOk (.i2b) := by
  intro l id d mc ms P cc ss pc a lv lv' st st' sh w w' G h g hd k D tyC B0 ad0 n0 p e R s m args below meth c Q hF hK hB hR hst hret H locs ls ad hA hW hS hl hcc
  simp only [sim, pI, pL, pF] at h
  split at h
  · simp only [Option.some.injEq, Prod.mk.injEq] at h
    obtain ⟨rfl, rfl, rfl, rfl⟩ := h
    exact lv_i2b hF.1 hF.2.1 hd rfl  (k D tyC B0 ad0 n0 p e R s m args below meth c Q hF hK hB hR hst hret H locs ls ad hA hW hS hl hcc)
  · cases h
theorem so_i2s  : SimOk (.i2s) := by
  intro l id d mc ms P cc ss pc a lv lv' st st' sh w w' G h g hd k D tyC B0 ad0 n0 p e R s m args below meth c Q hF hK hB hR hst hret H locs ls ad hA hW hS hl hcc
  simp only [sim, pI, pL, pF] at h
  split at h
  · simp only [Option.some.injEq, Prod.mk.injEq] at h
    obtain ⟨rfl, rfl, rfl, rfl⟩ := h
    exact lv_i2s hF.1 hF.2.1 hd rfl  (k D tyC B0 ad0 n0 p e R s m args below meth c Q hF hK hB hR hst hret H locs ls ad hA hW hS hl hcc)
  · cases h
theorem so_idiv  : SimOk (.idiv) := by
  intro l id d mc ms P cc ss pc a lv lv' st st' sh w w' G h g hd k D tyC B0 ad0 n0 p e R s m args below meth c Q hF hK hB hR hst hret H locs ls ad hA hW hS hl hcc
  simp only [sim, pI, pL, pF] at h
  split at h
  · simp only [Option.some.injEq, Prod.mk.injEq] at h
    obtain ⟨rfl, rfl, rfl, rfl⟩ := h
    exact lv_idiv hF.1 hF.2.1 hd g (k D tyC B0 ad0 n0 p e R s m args below meth c Q hF hK hB hR hst hret H locs ls ad hA hW hS hl hcc)
  · cases h
theorem so_irem  : SimOk (.irem) := by
  intro l id d mc ms P cc ss pc a lv lv' st st' sh w w' G h g hd k D tyC B0 ad0 n0 p e R s m args below meth c Q hF hK hB hR hst hret H locs ls ad hA hW hS hl hcc
  simp only [sim, pI, pL, pF] at h
  split at h
  · simp only [Option.some.injEq, Prod.mk.injEq] at h
    obtain ⟨rfl, rfl, rfl, rfl⟩ := h
    exact lv_irem hF.1 hF.2.1 hd g (k D tyC B0 ad0 n0 p e R s m args below meth c Q hF hK hB hR hst hret H locs ls ad hA hW hS hl hcc)
  · cases h
theorem so_ldiv  : SimOk (.ldiv) := by
  intro l id d mc ms P cc ss pc a lv lv' st st' sh w w' G h g hd k D tyC B0 ad0 n0 p e R s m args below meth c Q hF hK hB hR hst hret H locs ls ad hA hW hS hl hcc
  simp only [sim, pI, pL, pF] at h
  split at h
  · simp only [Option.some.injEq, Prod.mk.injEq] at h
    obtain ⟨rfl, rfl, rfl, rfl⟩ := h
    exact lv_ldiv hF.1 hF.2.1 hd g (k D tyC B0 ad0 n0 p e R s m args below meth c Q hF hK hB hR hst hret H locs ls ad hA hW hS hl hcc)
  · cases h
theorem so_lrem  : SimOk (.lrem) := by
  intro l id d mc ms P cc ss pc a lv lv' st st' sh w w' G h g hd k D tyC B0 ad0 n0 p e R s m args below meth c Q hF hK hB hR hst hret H locs ls ad hA hW hS hl hcc
  simp only [sim, pI, pL, pF] at h
  split at h
  · simp only [Option.some.injEq, Prod.mk.injEq] at h
    obtain ⟨rfl, rfl, rfl, rfl⟩ := h
    exact lv_lrem hF.1 hF.2.1 hd g (k D tyC B0 ad0 n0 p e R s m args below meth c Q hF hK hB hR hst hret H locs ls ad hA hW hS hl hcc)
  · cases h
theorem so_fadd  : SimOk (.fadd) := by
  intro l id d mc ms P cc ss pc a lv lv' st st' sh w w' G h g hd k D tyC B0 ad0 n0 p e R s m args below meth c Q hF hK hB hR hst hret H locs ls ad hA hW hS hl hcc
  simp only [sim, pI, pL, pF] at h
  split at h
  · simp only [Option.some.injEq, Prod.mk.injEq] at h
    obtain ⟨rfl, rfl, rfl, rfl⟩ := h
    exact lv_fadd hF.1 hF.2.1 hd g (k D tyC B0 ad0 n0 p e R s m args below meth c Q hF hK hB hR hst hret H locs ls ad hA hW hS hl hcc)
  · cases h
theorem so_fmul  : SimOk (.fmul) := by
  intro l id d mc ms P cc ss pc a lv lv' st st' sh w w' G h g hd k D tyC B0 ad0 n0 p e R s m args below meth c Q hF hK hB hR hst hret H locs ls ad hA hW hS hl hcc
  simp only [sim, pI, pL, pF] at h
  split at h
  · simp only [Option.some.injEq, Prod.mk.injEq] at h
    obtain ⟨rfl, rfl, rfl, rfl⟩ := h
    exact lv_fmul hF.1 hF.2.1 hd g (k D tyC B0 ad0 n0 p e R s m args below meth c Q hF hK hB hR hst hret H locs ls ad hA hW hS hl hcc)
  · cases h
theorem so_fdiv  : SimOk (.fdiv) := by
  intro l id d mc ms P cc ss pc a lv lv' st st' sh w w' G h g hd k D tyC B0 ad0 n0 p e R s m args below meth c Q hF hK hB hR hst hret H locs ls ad hA hW hS hl hcc
  simp only [sim, pI, pL, pF] at h
  split at h
  · simp only [Option.some.injEq, Prod.mk.injEq] at h
    obtain ⟨rfl, rfl, rfl, rfl⟩ := h
    exact lv_fdiv hF.1 hF.2.1 hd g (k D tyC B0 ad0 n0 p e R s m args below meth c Q hF hK hB hR hst hret H locs ls ad hA hW hS hl hcc)
  · cases h
theorem so_frem  : SimOk (.frem) := by
  intro l id d mc ms P cc ss pc a lv lv' st st' sh w w' G h g hd k D tyC B0 ad0 n0 p e R s m args below meth c Q hF hK hB hR hst hret H locs ls ad hA hW hS hl hcc
  simp only [sim, pI, pL, pF] at h
  split at h
  · simp only [Option.some.injEq, Prod.mk.injEq] at h
    obtain ⟨rfl, rfl, rfl, rfl⟩ := h
    exact lv_frem hF.1 hF.2.1 hd g (k D tyC B0 ad0 n0 p e R s m args below meth c Q hF hK hB hR hst hret H locs ls ad hA hW hS hl hcc)
  · cases h
theorem so_lcmp  : SimOk (.lcmp) := by
  intro l id d mc ms P cc ss pc a lv lv' st st' sh w w' G h g hd k D tyC B0 ad0 n0 p e R s m args below meth c Q hF hK hB hR hst hret H locs ls ad hA hW hS hl hcc
  simp only [sim, pI, pL, pF] at h
  split at h
  · simp only [Option.some.injEq, Prod.mk.injEq] at h
    obtain ⟨rfl, rfl, rfl, rfl⟩ := h
    exact W.lcmp hF.1 hF.2.1 hd  (k D tyC B0 ad0 n0 p e R s m args below meth c Q hF hK hB hR hst hret H locs ls ad hA hW hS hl hcc)
  · cases h
theorem so_dup  : SimOk (.dup) := by
  intro l id d mc ms P cc ss pc a lv lv' st st' sh w w' G h g hd k D tyC B0 ad0 n0 p e R s m args below meth c Q hF hK hB hR hst hret H locs ls ad hA hW hS hl hcc
  simp only [sim] at h
  split at h
  · split at h
    · rename_i hx
      simp only [Option.some.injEq, Prod.mk.injEq] at h
      obtain ⟨rfl, rfl, rfl, rfl⟩ := h
      exact lv_dup hF.1 hF.2.1 hd (by rw [cvv_cat]; exact hx) (k D tyC B0 ad0 n0 p e R s m args below meth c Q hF hK hB hR hst hret H locs ls ad hA hW hS hl hcc)
    · cases h
  · cases h
theorem so_pop  : SimOk (.pop) := by
  intro l id d mc ms P cc ss pc a lv lv' st st' sh w w' G h g hd k D tyC B0 ad0 n0 p e R s m args below meth c Q hF hK hB hR hst hret H locs ls ad hA hW hS hl hcc
  simp only [sim] at h
  split at h
  · split at h
    · rename_i hx
      simp only [Option.some.injEq, Prod.mk.injEq] at h
      obtain ⟨rfl, rfl, rfl, rfl⟩ := h
      exact lv_pop hF.1 hF.2.1 hd (by rw [cvv_cat]; exact hx) (k D tyC B0 ad0 n0 p e R s m args below meth c Q hF hK hB hR hst hret H locs ls ad hA hW hS hl hcc)
    · cases h
  · cases h
theorem so_dup2  : SimOk (.dup2) := by
  intro l id d mc ms P cc ss pc a lv lv' st st' sh w w' G h g hd k D tyC B0 ad0 n0 p e R s m args below meth c Q hF hK hB hR hst hret H locs ls ad hA hW hS hl hcc
  simp only [sim] at h
  split at h
  · split at h
    · rename_i hx
      simp only [Option.some.injEq, Prod.mk.injEq] at h
      obtain ⟨rfl, rfl, rfl, rfl⟩ := h
      exact lv_dup2_11 hF.1 hF.2.1 hd (by rw [cvv_cat]; exact hx.1) (by rw [cvv_cat]; exact hx.2) (k D tyC B0 ad0 n0 p e R s m args below meth c Q hF hK hB hR hst hret H locs ls ad hA hW hS hl hcc)
    · cases h
  · cases h
theorem so_iaload  : SimOk (.iaload) := by
  intro l id d mc ms P cc ss pc a lv lv' st st' sh w w' G h g hd k D tyC B0 ad0 n0 p e R s m args below meth c Q hF hK hB hR hst hret H locs ls ad hA hW hS hl hcc
  simp only [sim] at h
  split at h
  · simp only [Option.some.injEq, Prod.mk.injEq] at h
    obtain ⟨rfl, rfl, rfl, rfl⟩ := h
    obtain ⟨n, h1, h2⟩ := g
    exact va_iald hF.1 hF.2.1 hK hW.2.1 _ 0 (wl_get h1) (tyL_at rfl) h2 hd (k D tyC B0 ad0 n0 p e R s m args below meth c Q hF hK hB hR hst hret H locs ls ad hA hW hS hl hcc)
  · cases h
theorem so_saload  : SimOk (.saload) := by
  intro l id d mc ms P cc ss pc a lv lv' st st' sh w w' G h g hd k D tyC B0 ad0 n0 p e R s m args below meth c Q hF hK hB hR hst hret H locs ls ad hA hW hS hl hcc
  simp only [sim] at h
  split at h
  · simp only [Option.some.injEq, Prod.mk.injEq] at h
    obtain ⟨rfl, rfl, rfl, rfl⟩ := h
    obtain ⟨n, h1, h2⟩ := g
    exact va_sald hF.1 hF.2.1 hK hW.2.1 _ 3 (wl_get h1) (tyL_at rfl) h2 hd (k D tyC B0 ad0 n0 p e R s m args below meth c Q hF hK hB hR hst hret H locs ls ad hA hW hS hl hcc)
  · cases h
theorem so_faload  : SimOk (.faload) := by
  intro l id d mc ms P cc ss pc a lv lv' st st' sh w w' G h g hd k D tyC B0 ad0 n0 p e R s m args below meth c Q hF hK hB hR hst hret H locs ls ad hA hW hS hl hcc
  simp only [sim] at h
  split at h
  · simp only [Option.some.injEq, Prod.mk.injEq] at h
    obtain ⟨rfl, rfl, rfl, rfl⟩ := h
    obtain ⟨n, h1, h2⟩ := g
    exact va_fald hF.1 hF.2.1 hK hW.2.1 _ 4 (wl_get h1) (tyL_at rfl) h2 hd (k D tyC B0 ad0 n0 p e R s m args below meth c Q hF hK hB hR hst hret H locs ls ad hA hW hS hl hcc)
  · cases h
theorem so_laload  : SimOk (.laload) := by
  intro l id d mc ms P cc ss pc a lv lv' st st' sh w w' G h g hd k D tyC B0 ad0 n0 p e R s m args below meth c Q hF hK hB hR hst hret H locs ls ad hA hW hS hl hcc
  simp only [sim] at h
  split at h
  · simp only [Option.some.injEq, Prod.mk.injEq] at h
    obtain ⟨rfl, rfl, rfl, rfl⟩ := h
    obtain ⟨n, h1, h2⟩ := g
    exact va_lald hF.1 hF.2.1 hK hW.2.1 _ 5 (wl_get h1) (tyL_at rfl) h2 hd (k D tyC B0 ad0 n0 p e R s m args below meth c Q hF hK hB hR hst hret H locs ls ad hA hW hS hl hcc)
  · cases h
theorem so_baload  : SimOk (.baload) := by
  intro l id d mc ms P cc ss pc a lv lv' st st' sh w w' G h g hd k D tyC B0 ad0 n0 p e R s m args below meth c Q hF hK hB hR hst hret H locs ls ad hA hW hS hl hcc
  simp only [sim] at h
  split at h
  · simp only [Option.some.injEq, Prod.mk.injEq] at h
    obtain ⟨rfl, rfl, rfl, rfl⟩ := h
    obtain ⟨n, h1, h2⟩ := g
    unfold bT at h1
    split at h1
    · exact va_bald hF.1 hF.2.1 hK hW.2.1 _ 2 (wl_get h1) (tyL_at rfl) h2 hd (k D tyC B0 ad0 n0 p e R s m args below meth c Q hF hK hB hR hst hret H locs ls ad hA hW hS hl hcc)
    · exact va_zald hF.1 hF.2.1 hK hW.2.1 _ 1 (wl_get h1) (tyL_at rfl) h2 hd (k D tyC B0 ad0 n0 p e R s m args below meth c Q hF hK hB hR hst hret H locs ls ad hA hW hS hl hcc)
  · cases h
theorem so_iastore  : SimOk (.iastore) := by
  intro l id d mc ms P cc ss pc a lv lv' st st' sh w w' G h g hd k D tyC B0 ad0 n0 p e R s m args below meth c Q hF hK hB hR hst hret H locs ls ad hA hW hS hl hcc
  simp only [sim] at h
  split at h
  · simp only [Option.some.injEq, Prod.mk.injEq] at h
    obtain ⟨rfl, rfl, rfl, rfl⟩ := h
    obtain ⟨n, h1, h2⟩ := g
    exact va_iast hF.1 hF.2.1 hK hW.2.1 hW.2.2.1 hS _ 0 (wl_get h1) (tyL_at rfl) h2 hd (fun H1 locs1 hP1 hD1 hS1 => k D tyC B0 ad0 n0 p e R s m args below meth c Q hF hK hB hR hst hret H1 locs1 ls ad hA (wok_set hW h1 (fun j hj => by simp [up2_ne hj]) (by simp [cellV, contA, kd, up2_at, upd, vf_upd, vp_updL]; try rfl) hP1 hD1) hS1 hl hcc)
  · cases h
theorem so_sastore  : SimOk (.sastore) := by
  intro l id d mc ms P cc ss pc a lv lv' st st' sh w w' G h g hd k D tyC B0 ad0 n0 p e R s m args below meth c Q hF hK hB hR hst hret H locs ls ad hA hW hS hl hcc
  simp only [sim] at h
  split at h
  · simp only [Option.some.injEq, Prod.mk.injEq] at h
    obtain ⟨rfl, rfl, rfl, rfl⟩ := h
    obtain ⟨n, h1, h2⟩ := g
    exact va_sast hF.1 hF.2.1 hK hW.2.1 hW.2.2.1 hS _ 3 (wl_get h1) (tyL_at rfl) h2 hd (fun H1 locs1 hP1 hD1 hS1 => k D tyC B0 ad0 n0 p e R s m args below meth c Q hF hK hB hR hst hret H1 locs1 ls ad hA (wok_set hW h1 (fun j hj => by simp [up2_ne hj]) (by simp [cellV, contA, kd, up2_at, upd, vf_upd, vp_updL]; try rfl) hP1 hD1) hS1 hl hcc)
  · cases h
theorem so_fastore  : SimOk (.fastore) := by
  intro l id d mc ms P cc ss pc a lv lv' st st' sh w w' G h g hd k D tyC B0 ad0 n0 p e R s m args below meth c Q hF hK hB hR hst hret H locs ls ad hA hW hS hl hcc
  simp only [sim] at h
  split at h
  · simp only [Option.some.injEq, Prod.mk.injEq] at h
    obtain ⟨rfl, rfl, rfl, rfl⟩ := h
    obtain ⟨n, h1, h2⟩ := g
    exact va_fast hF.1 hF.2.1 hK hW.2.1 hW.2.2.1 hS _ 4 (wl_get h1) (tyL_at rfl) h2 hd (fun H1 locs1 hP1 hD1 hS1 => k D tyC B0 ad0 n0 p e R s m args below meth c Q hF hK hB hR hst hret H1 locs1 ls ad hA (wok_set hW h1 (fun j hj => by simp [up2_ne hj]) (by simp [cellV, contA, kd, up2_at, upd, vf_upd, vp_updL]; try rfl) hP1 hD1) hS1 hl hcc)
  · cases h
theorem so_lastore  : SimOk (.lastore) := by
  intro l id d mc ms P cc ss pc a lv lv' st st' sh w w' G h g hd k D tyC B0 ad0 n0 p e R s m args below meth c Q hF hK hB hR hst hret H locs ls ad hA hW hS hl hcc
  simp only [sim] at h
  split at h
  · simp only [Option.some.injEq, Prod.mk.injEq] at h
    obtain ⟨rfl, rfl, rfl, rfl⟩ := h
    obtain ⟨n, h1, h2⟩ := g
    exact va_last hF.1 hF.2.1 hK hW.2.1 hW.2.2.1 hS _ 5 (wl_get h1) (tyL_at rfl) h2 hd (fun H1 locs1 hP1 hD1 hS1 => k D tyC B0 ad0 n0 p e R s m args below meth c Q hF hK hB hR hst hret H1 locs1 ls ad hA (wok_set hW h1 (fun j hj => by simp [up2_ne hj]) (by simp [cellV, contA, kd, up2_at, upd, vf_upd, vp_updL]; try rfl) hP1 hD1) hS1 hl hcc)
  · cases h
theorem so_bastore  : SimOk (.bastore) := by
  intro l id d mc ms P cc ss pc a lv lv' st st' sh w w' G h g hd k D tyC B0 ad0 n0 p e R s m args below meth c Q hF hK hB hR hst hret H locs ls ad hA hW hS hl hcc
  simp only [sim] at h
  split at h
  · simp only [Option.some.injEq, Prod.mk.injEq] at h
    obtain ⟨rfl, rfl, rfl, rfl⟩ := h
    obtain ⟨n, h1, h2⟩ := g
    unfold bT at h1
    split at h1
    · rename_i ha
      rw [show bT a = .byte from by unfold bT; rw [if_pos ha]] at k
      exact va_bast hF.1 hF.2.1 hK hW.2.1 hW.2.2.1 hS _ 2 (wl_get h1) (tyL_at rfl) h2 hd (fun H1 locs1 hP1 hD1 hS1 => k D tyC B0 ad0 n0 p e R s m args below meth c Q hF hK hB hR hst hret H1 locs1 ls ad hA (wok_set hW h1 (fun j hj => by simp [up2_ne hj]) (by simp [cellV, contA, kd, up2_at, upd, vf_upd, vp_updL]; try rfl) hP1 hD1) hS1 hl hcc)
    · rename_i ha
      rw [show bT a = .boolean from by unfold bT; rw [if_neg ha]] at k
      exact va_zast hF.1 hF.2.1 hK hW.2.1 hW.2.2.1 hS _ 1 (wl_get h1) (tyL_at rfl) h2 hd (fun H1 locs1 hP1 hD1 hS1 => k D tyC B0 ad0 n0 p e R s m args below meth c Q hF hK hB hR hst hret H1 locs1 ls ad hA (wok_set hW h1 (fun j hj => by simp [up2_ne hj]) (by simp [cellV, contA, kd, up2_at, upd, vf_upd, vp_updL]; try rfl) hP1 hD1) hS1 hl hcc)
  · cases h
theorem so_aaload  : SimOk (.aaload) := by
  intro l id d mc ms P cc ss pc a lv lv' st st' sh w w' G h g hd k D tyC B0 ad0 n0 p e R s m args below meth c Q hF hK hB hR hst hret H locs ls ad hA hW hS hl hcc
  simp only [sim] at h
  split at h
  · simp only [Option.some.injEq, Prod.mk.injEq] at h
    obtain ⟨rfl, rfl, rfl, rfl⟩ := h
    obtain ⟨⟨C, n, h1, h2⟩, h3⟩ := g
    obtain ⟨t0, ht0⟩ := List.getElem?_of_mem (show FieldType.object C ∈ tysL from hW.2.2.2 _ (List.mem_of_getElem? h1))
    refine va_aldq hF.1 hF.2.1 hK hW.2.1 _ t0 (wl_get h1) (tyL_at ht0) h2 hd ?_
    simp only [h3, Option.map_some, va_rf]
    exact k D tyC B0 ad0 n0 p e R s m args below meth c Q hF hK hB hR hst hret H locs ls ad hA hW hS hl hcc
  · cases h
theorem so_arraylength  : SimOk (.arraylength) := by
  intro l id d mc ms P cc ss pc a lv lv' st st' sh w w' G h g hd k D tyC B0 ad0 n0 p e R s m args below meth c Q hF hK hB hR hst hret H locs ls ad hA hW hS hl hcc
  simp only [sim] at h
  split at h
  · simp only [Option.some.injEq, Prod.mk.injEq] at h
    obtain ⟨rfl, rfl, rfl, rfl⟩ := h
    obtain ⟨ty, h1⟩ := g
    obtain ⟨t0, ht0⟩ := List.getElem?_of_mem (show ty ∈ tysL from hW.2.2.2 _ (List.mem_of_getElem? h1))
    exact va_alen hF.1 hF.2.1 hK hW.2.1 _ t0 (wl_get h1) (tyL_at ht0) rfl hd (k D tyC B0 ad0 n0 p e R s m args below meth c Q hF hK hB hR hst hret H locs ls ad hA hW hS hl hcc)
  · cases h
theorem so_getfield (ix : Nat) : SimOk (.getfield ix) := by
  intro l id d mc ms P cc ss pc a lv lv' st st' sh w w' G h g hd k D tyC B0 ad0 n0 p e R s m args below meth c Q hF hK hB hR hst hret H locs ls ad hA hW hS hl hcc
  simp only [sim] at h
  split at h
  · split at h
    · rename_i hff
      obtain ⟨q, hq, hk2, hlink⟩ := fFind_spec hF.2.2.2.2.2.2.2.2 hff
      obtain ⟨hin, hty, hnm⟩ := cls_facts _ q hq
      have hnF := nF_of hq
      split at h
      · rename_i hkd
        simp only [Option.some.injEq, Prod.mk.injEq] at h
        obtain ⟨rfl, rfl, rfl, rfl⟩ := h
        refine va_get hF.1 hF.2.1 hF.2.2.2.2.2.1 hin hF.2.2.2.2.1 hK hW.2.1 _ (wl_get g) hq _ hk2 (hF.2.2.2.2.2.1 _ hlink) (fun _ h => h) (v := _) (by rw [List.getElem?_map, List.getElem?_range (by rw [hnF]; exact hk2)]; simp [fval, hkd]; rfl) hd ?_
        exact k D tyC B0 ad0 n0 p e R s m args below meth c Q hF hK hB hR hst hret H locs ls ad hA hW hS hl hcc
      · rename_i hkd
        simp only [Option.some.injEq, Prod.mk.injEq] at h
        obtain ⟨rfl, rfl, rfl, rfl⟩ := h
        refine va_get hF.1 hF.2.1 hF.2.2.2.2.2.1 hin hF.2.2.2.2.1 hK hW.2.1 _ (wl_get g) hq _ hk2 (hF.2.2.2.2.2.1 _ hlink) (fun _ h => h) (v := _) (by rw [List.getElem?_map, List.getElem?_range (by rw [hnF]; exact hk2)]; simp [fval, hkd]; rfl) hd ?_
        exact k D tyC B0 ad0 n0 p e R s m args below meth c Q hF hK hB hR hst hret H locs ls ad hA hW hS hl hcc
      · rename_i hkd
        simp only [Option.some.injEq, Prod.mk.injEq] at h
        obtain ⟨rfl, rfl, rfl, rfl⟩ := h
        refine va_get hF.1 hF.2.1 hF.2.2.2.2.2.1 hin hF.2.2.2.2.1 hK hW.2.1 _ (wl_get g) hq _ hk2 (hF.2.2.2.2.2.1 _ hlink) (fun _ h => h) (v := _) (by rw [List.getElem?_map, List.getElem?_range (by rw [hnF]; exact hk2)]; simp [fval, hkd]; rfl) hd ?_
        exact k D tyC B0 ad0 n0 p e R s m args below meth c Q hF hK hB hR hst hret H locs ls ad hA hW hS hl hcc
      · cases h
      · rename_i hk0 hk1 hk2n hk3
        simp only [Option.some.injEq, Prod.mk.injEq] at h
        obtain ⟨rfl, rfl, rfl, rfl⟩ := h
        obtain ⟨g1, g2⟩ := g
        refine va_get hF.1 hF.2.1 hF.2.2.2.2.2.1 hin hF.2.2.2.2.1 hK hW.2.1 _ (wl_get g1) hq _ hk2 (hF.2.2.2.2.2.1 _ hlink) (fun _ h => h) (v := .ref (ad a)) (by rw [List.getElem?_map, List.getElem?_range (by rw [hnF]; exact hk2)]; simp [fval, g2, va_rf, cvv]) hd ?_
        exact k D tyC B0 ad0 n0 p e R s m args below meth c Q hF hK hB hR hst hret H locs ls ad hA hW hS hl hcc
    · cases h
  · cases h
theorem fv_set {tyC : FieldType → ClassId} {ad : Nat → Nat} {w w' : Wd} {c ci k : Nat} {v : Value} {q : vw_C} (hq : clsT[ci]? = some q) (h1 : fval w' c (fty ci k) k = v) (h2 : ∀ j, j ≠ k → fval w' c (fty ci j) j = fval w c (fty ci j) j) :
    cellV tyC ad w' c (.inr ci) = .inr (ci, ((List.range (nF ci)).map (fun j => cvv ad (fval w c (fty ci j) j))).set k (cvv ad v)) := by
  unfold cellV
  dsimp only
  congr 2
  apply List.ext_getElem?
  intro j
  by_cases hj : j = k
  · subst hj
    by_cases hn : j < nF ci
    · rw [List.getElem?_set_self (by simpa using hn)]
      simp [hn, h1]
    · have : ∀ l : List Value, l.length = nF ci → l[j]? = none := fun l hl => by rw [List.getElem?_eq_none_iff]; omega
      rw [this _ (by simp), this _ (by simp)]
  · rw [List.getElem?_set_ne (Ne.symm hj)]
    simp only [List.getElem?_map]
    cases hr : (List.range (nF ci))[j]? with
    | none => rfl
    | some y =>
      have hy : y = j := by
        have := List.getElem?_eq_some_iff.mp hr
        obtain ⟨a1, a2⟩ := this
        simpa using a2.symm
      subst hy
      simp [h2 y hj]
theorem so_putfield (ix : Nat) : SimOk (.putfield ix) := by
  intro l id d mc ms P cc ss pc a lv lv' st st' sh w w' G h g hd k D tyC B0 ad0 n0 p e R s m args below meth c Q hF hK hB hR hst hret H locs ls ad hA hW hS hl hcc
  simp only [sim] at h
  split at h
  · split at h
    · rename_i hff
      obtain ⟨q, hq, hk2, hlink⟩ := fFind_spec hF.2.2.2.2.2.2.2.2 hff
      obtain ⟨hin, hty, hnm⟩ := cls_facts _ q hq
      have hnF := nF_of hq
      split at h
      · rename_i hkd
        simp only [Option.some.injEq, Prod.mk.injEq] at h
        obtain ⟨rfl, rfl, rfl, rfl⟩ := h
        obtain ⟨g1, g2, g3⟩ := g
        unfold finG at g2
        rw [hq] at g2
        dsimp only at g2
        rcases g2 with h2 | ⟨h2, h2f, h3⟩
        · exact va_put hF.1 hF.2.1 hF.2.2.2.2.2.1 hin _ hty hnm hF.2.2.2.2.1 hK hW.2.1 hW.2.2.1 hS _ (wl_get g1) hq _ hk2 (hF.2.2.2.2.2.1 _ hlink) (fun _ h => h) h2 (hty _ hk2) (by rcases g3 with g3 | g3 <;> first | exact g3.1 | (rw [g3]; rfl)) (by rcases g3 with g3 | g3 <;> first | exact g3.2 | (rw [g3]; rfl)) (by simp [hnF, hk2]) hd (fun H1 locs1 hP1 hD1 hS1 => k D tyC B0 ad0 n0 p e R s m args below meth c Q hF hK hB hR hst hret H1 locs1 ls ad hA (wok_set hW g1 (fun j hj => by simp [up2_ne hj]) (fv_set hq (by simp [up2_at, fval, hkd, va_rf]) (fun j hj => by simp [up2_at, hj, fval])) hP1 hD1) hS1 hl hcc)
        · exact va_putF hF.1 hF.2.1 hF.2.2.2.2.2.1 hin _ hty hnm hF.2.2.2.2.1 hK hW.2.1 hW.2.2.1 hS _ (wl_get g1) hq _ hk2 (hF.2.2.2.2.2.1 _ hlink) (fun _ h => h) h2f (hF.2.2.2.2.2.2.2.1 h2) h3 (hty _ hk2) (by rcases g3 with g3 | g3 <;> first | exact g3.1 | (rw [g3]; rfl)) (by rcases g3 with g3 | g3 <;> first | exact g3.2 | (rw [g3]; rfl)) (by simp [hnF, hk2]) hd (fun H1 locs1 hP1 hD1 hS1 => k D tyC B0 ad0 n0 p e R s m args below meth c Q hF hK hB hR hst hret H1 locs1 ls ad hA (wok_set hW g1 (fun j hj => by simp [up2_ne hj]) (fv_set hq (by simp [up2_at, fval, hkd, va_rf]) (fun j hj => by simp [up2_at, hj, fval])) hP1 hD1) hS1 hl hcc)
      · rename_i hkd
        simp only [Option.some.injEq, Prod.mk.injEq] at h
        obtain ⟨rfl, rfl, rfl, rfl⟩ := h
        obtain ⟨g1, g2⟩ := g
        unfold finG at g2
        rw [hq] at g2
        dsimp only at g2
        rcases g2 with h2 | ⟨h2, h2f, h3⟩
        · exact va_put hF.1 hF.2.1 hF.2.2.2.2.2.1 hin _ hty hnm hF.2.2.2.2.1 hK hW.2.1 hW.2.2.1 hS _ (wl_get g1) hq _ hk2 (hF.2.2.2.2.2.1 _ hlink) (fun _ h => h) h2 (hty _ hk2) (by revert hkd; generalize fty _ _ = ty; cases ty <;> first | (intro _; rfl) | (intro hz; cases hz)) (by revert hkd; generalize fty _ _ = ty; cases ty <;> first | (intro _; rfl) | (intro hz; cases hz)) (by simp [hnF, hk2]) hd (fun H1 locs1 hP1 hD1 hS1 => k D tyC B0 ad0 n0 p e R s m args below meth c Q hF hK hB hR hst hret H1 locs1 ls ad hA (wok_set hW g1 (fun j hj => by simp [up2_ne hj]) (fv_set hq (by simp [up2_at, fval, hkd, va_rf]) (fun j hj => by simp [up2_at, hj, fval])) hP1 hD1) hS1 hl hcc)
        · exact va_putF hF.1 hF.2.1 hF.2.2.2.2.2.1 hin _ hty hnm hF.2.2.2.2.1 hK hW.2.1 hW.2.2.1 hS _ (wl_get g1) hq _ hk2 (hF.2.2.2.2.2.1 _ hlink) (fun _ h => h) h2f (hF.2.2.2.2.2.2.2.1 h2) h3 (hty _ hk2) (by revert hkd; generalize fty _ _ = ty; cases ty <;> first | (intro _; rfl) | (intro hz; cases hz)) (by revert hkd; generalize fty _ _ = ty; cases ty <;> first | (intro _; rfl) | (intro hz; cases hz)) (by simp [hnF, hk2]) hd (fun H1 locs1 hP1 hD1 hS1 => k D tyC B0 ad0 n0 p e R s m args below meth c Q hF hK hB hR hst hret H1 locs1 ls ad hA (wok_set hW g1 (fun j hj => by simp [up2_ne hj]) (fv_set hq (by simp [up2_at, fval, hkd, va_rf]) (fun j hj => by simp [up2_at, hj, fval])) hP1 hD1) hS1 hl hcc)
      · rename_i hkd
        simp only [Option.some.injEq, Prod.mk.injEq] at h
        obtain ⟨rfl, rfl, rfl, rfl⟩ := h
        obtain ⟨g1, g2⟩ := g
        unfold finG at g2
        rw [hq] at g2
        dsimp only at g2
        rcases g2 with h2 | ⟨h2, h2f, h3⟩
        · exact va_put hF.1 hF.2.1 hF.2.2.2.2.2.1 hin _ hty hnm hF.2.2.2.2.1 hK hW.2.1 hW.2.2.1 hS _ (wl_get g1) hq _ hk2 (hF.2.2.2.2.2.1 _ hlink) (fun _ h => h) h2 (hty _ hk2) (by revert hkd; generalize fty _ _ = ty; cases ty <;> first | (intro _; rfl) | (intro hz; cases hz)) (by revert hkd; generalize fty _ _ = ty; cases ty <;> first | (intro _; rfl) | (intro hz; cases hz)) (by simp [hnF, hk2]) hd (fun H1 locs1 hP1 hD1 hS1 => k D tyC B0 ad0 n0 p e R s m args below meth c Q hF hK hB hR hst hret H1 locs1 ls ad hA (wok_set hW g1 (fun j hj => by simp [up2_ne hj]) (fv_set hq (by simp [up2_at, fval, hkd, va_rf]) (fun j hj => by simp [up2_at, hj, fval])) hP1 hD1) hS1 hl hcc)
        · exact va_putF hF.1 hF.2.1 hF.2.2.2.2.2.1 hin _ hty hnm hF.2.2.2.2.1 hK hW.2.1 hW.2.2.1 hS _ (wl_get g1) hq _ hk2 (hF.2.2.2.2.2.1 _ hlink) (fun _ h => h) h2f (hF.2.2.2.2.2.2.2.1 h2) h3 (hty _ hk2) (by revert hkd; generalize fty _ _ = ty; cases ty <;> first | (intro _; rfl) | (intro hz; cases hz)) (by revert hkd; generalize fty _ _ = ty; cases ty <;> first | (intro _; rfl) | (intro hz; cases hz)) (by simp [hnF, hk2]) hd (fun H1 locs1 hP1 hD1 hS1 => k D tyC B0 ad0 n0 p e R s m args below meth c Q hF hK hB hR hst hret H1 locs1 ls ad hA (wok_set hW g1 (fun j hj => by simp [up2_ne hj]) (fv_set hq (by simp [up2_at, fval, hkd, va_rf]) (fun j hj => by simp [up2_at, hj, fval])) hP1 hD1) hS1 hl hcc)
      · rename_i hkd
        simp only [Option.some.injEq, Prod.mk.injEq] at h
        obtain ⟨rfl, rfl, rfl, rfl⟩ := h
        obtain ⟨g1, g2⟩ := g
        unfold finG at g2
        rw [hq] at g2
        dsimp only at g2
        rcases g2 with h2 | ⟨h2, h2f, h3⟩
        · exact va_put hF.1 hF.2.1 hF.2.2.2.2.2.1 hin _ hty hnm hF.2.2.2.2.1 hK hW.2.1 hW.2.2.1 hS _ (wl_get g1) hq _ hk2 (hF.2.2.2.2.2.1 _ hlink) (fun _ h => h) h2 (hty _ hk2) (by revert hkd; generalize fty _ _ = ty; cases ty <;> first | (intro _; rfl) | (intro hz; cases hz)) (by revert hkd; generalize fty _ _ = ty; cases ty <;> first | (intro _; rfl) | (intro hz; cases hz)) (by simp [hnF, hk2]) hd (fun H1 locs1 hP1 hD1 hS1 => k D tyC B0 ad0 n0 p e R s m args below meth c Q hF hK hB hR hst hret H1 locs1 ls ad hA (wok_set hW g1 (fun j hj => by simp [up2_ne hj]) (fv_set hq (by simp [up2_at, fval, hkd, va_rf]) (fun j hj => by simp [up2_at, hj, fval])) hP1 hD1) hS1 hl hcc)
        · exact va_putF hF.1 hF.2.1 hF.2.2.2.2.2.1 hin _ hty hnm hF.2.2.2.2.1 hK hW.2.1 hW.2.2.1 hS _ (wl_get g1) hq _ hk2 (hF.2.2.2.2.2.1 _ hlink) (fun _ h => h) h2f (hF.2.2.2.2.2.2.2.1 h2) h3 (hty _ hk2) (by revert hkd; generalize fty _ _ = ty; cases ty <;> first | (intro _; rfl) | (intro hz; cases hz)) (by revert hkd; generalize fty _ _ = ty; cases ty <;> first | (intro _; rfl) | (intro hz; cases hz)) (by simp [hnF, hk2]) hd (fun H1 locs1 hP1 hD1 hS1 => k D tyC B0 ad0 n0 p e R s m args below meth c Q hF hK hB hR hst hret H1 locs1 ls ad hA (wok_set hW g1 (fun j hj => by simp [up2_ne hj]) (fv_set hq (by simp [up2_at, fval, hkd, va_rf]) (fun j hj => by simp [up2_at, hj, fval])) hP1 hD1) hS1 hl hcc)
      · cases h
    · cases h
  · cases h
theorem so_ldc (ix : Nat) : SimOk (.ldc ix) := by
  intro l id d mc ms P cc ss pc a lv lv' st st' sh w w' G h g hd k D tyC B0 ad0 n0 p e R s m args below meth c Q hF hK hB hR hst hret H locs ls ad hA hW hS hl hcc
  simp only [sim, pI, pL, pF] at h
  split at h
  · rename_i x hx
    simp only [Option.some.injEq, Prod.mk.injEq] at h
    obtain ⟨rfl, rfl, rfl, rfl⟩ := h
    exact lv_ldc hF.1 hF.2.1 hF.2.2.2.2.1 (hF.2.2.2.2.2.1 _ (cFind_spec hF.2.2.2.2.2.2.2.2 hx)) hd (k D tyC B0 ad0 n0 p e R s m args below meth c Q hF hK hB hR hst hret H locs ls ad hA hW hS hl hcc)
  · rename_i x hx
    simp only [Option.some.injEq, Prod.mk.injEq] at h
    obtain ⟨rfl, rfl, rfl, rfl⟩ := h
    exact lv_ldcf hF.1 hF.2.1 hF.2.2.2.2.1 (hF.2.2.2.2.2.1 _ (cFind_spec hF.2.2.2.2.2.2.2.2 hx)) hd (k D tyC B0 ad0 n0 p e R s m args below meth c Q hF hK hB hR hst hret H locs ls ad hA hW hS hl hcc)
  · cases h
theorem so_ldc_w (ix : Nat) : SimOk (.ldc_w ix) := by
  intro l id d mc ms P cc ss pc a lv lv' st st' sh w w' G h g hd k D tyC B0 ad0 n0 p e R s m args below meth c Q hF hK hB hR hst hret H locs ls ad hA hW hS hl hcc
  simp only [sim, pI, pL, pF] at h
  split at h
  · rename_i x hx
    simp only [Option.some.injEq, Prod.mk.injEq] at h
    obtain ⟨rfl, rfl, rfl, rfl⟩ := h
    exact lv_ldcw hF.1 hF.2.1 hF.2.2.2.2.1 (hF.2.2.2.2.2.1 _ (cFind_spec hF.2.2.2.2.2.2.2.2 hx)) hd (k D tyC B0 ad0 n0 p e R s m args below meth c Q hF hK hB hR hst hret H locs ls ad hA hW hS hl hcc)
  · cases h
theorem so_ldc2_w (ix : Nat) : SimOk (.ldc2_w ix) := by
  intro l id d mc ms P cc ss pc a lv lv' st st' sh w w' G h g hd k D tyC B0 ad0 n0 p e R s m args below meth c Q hF hK hB hR hst hret H locs ls ad hA hW hS hl hcc
  simp only [sim, pI, pL, pF] at h
  split at h
  · rename_i x hx
    simp only [Option.some.injEq, Prod.mk.injEq] at h
    obtain ⟨rfl, rfl, rfl, rfl⟩ := h
    exact lv_ldc2 hF.1 hF.2.1 hF.2.2.2.2.1 (hF.2.2.2.2.2.1 _ (cFind_spec hF.2.2.2.2.2.2.2.2 hx)) hd (k D tyC B0 ad0 n0 p e R s m args below meth c Q hF hK hB hR hst hret H locs ls ad hA hW hS hl hcc)
  · cases h
end
