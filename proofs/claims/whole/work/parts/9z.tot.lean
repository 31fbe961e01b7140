section
variable {S : Nat → List Int32 × List Int32} {nv nc tc r t : Nat} {I J I' J' : WI} {L L' : WL} {F G F' G' : WF}
/-! all of it, in two heaps -/
theorem qT_cg (h : qT I J) (hI : I' 31 1 = I 31 1) (h32 : ∀ i, I' 32 i = I 32 i) (h6 : J' 74 6 = J 74 6) (h77 : ∀ i, J' 77 i = J 77 i) : qT I' J' := by
  obtain ⟨n, a1, a2, a3, a4⟩ := h
  refine ⟨n, a1, hI.trans a2, h6.trans a3, fun i hi => ?_⟩
  rw [h32 i, h77 i]
  exact a4 i hi
theorem kIm_cg (h : kIm tc I J) (hI : ∀ c k, (c = 0 ∧ k = 10) ∨ (11 ≤ c ∧ c < 21) → I' c k = I c k) (hJ : ∀ c k, (c = 74 ∧ 60 ≤ k) ∨ (101 ≤ c ∧ c ≤ 110) → J' c k = J c k) : kIm tc I' J' := by
  rcases h with ⟨a, b⟩ | ⟨a, nv, nc, k1⟩
  · exact Or.inl ⟨(hI 0 10 (by omega)).trans a, (hJ 74 60 (by omega)).trans b⟩
  · refine Or.inr ⟨(hI 0 10 (by omega)).trans a, nv, nc, kR_cgI (kR_cgJ k1 (fun c k z => ?_)) (fun c k z => hI c k (by omega))⟩
    obtain ⟨q1, q2, q3⟩ := KJ_74 (J := J)
    obtain ⟨p1, p2, p3⟩ := KJ_74 (J := J')
    rcases z with ⟨rfl, z⟩ | z
    · rcases z with rfl | rfl | rfl
      · rw [q3, p3]; exact hJ _ _ (by omega)
      · rw [q2, p2]; exact hJ _ _ (by omega)
      · rw [q1, p1]; exact hJ _ _ (by omega)
    · rw [KJ_c z, KJ_c z]; exact hJ _ _ (by omega)
def T2 (I J : WI) (F G : WF) (L : WL) (t : Nat) : Prop := ∃ (S : Nat → List Int32 × List Int32) (nv nc tc r : Nat), WJ S 1 nv nc tc r I J L ∧ I 0 9 = nI tc ∧ J 74 3 = nI tc ∧ qT I J ∧ kHs I J F G ∧ kIm tc I J ∧ isT t
theorem KC_74 {c k : Nat} (h : KC nc c k) : (c = 74 ∧ (k = 4 ∨ k = 13 ∨ k = 18)) ∨ (78 ≤ c ∧ c ≤ 87) := by
  unfold KC at h; omega
theorem T2_cg (h : T2 I J F G L t) (hI : ∀ c k, c < 74 → I' c k = I c k) (hJ : ∀ c k, 74 ≤ c → J' c k = J c k) (hF : ∀ c k, c < 74 → F' c k = F c k) (hG : ∀ c k, 74 ≤ c → G' c k = G c k) : T2 I' J' F' G' L t := by
  obtain ⟨S, nv, nc, tc, r, hw, h9, h3, hq, hh, hk, ht⟩ := h
  have hM := hw.2.2.2.1
  exact ⟨S, nv, nc, tc, r, WJ_in hw (fun c k y => hI c k (by omega)) (fun c k y => hJ c k (by have := KC_74 y; omega)) (fun c k y => hJ c k (by omega)) (kM_cg hM (fun k => hJ 89 k (by omega))), (hI 0 9 (by omega)).trans h9, (hJ 74 3 (by omega)).trans h3, qT_cg hq (hI _ _ (by omega)) (fun i => hI _ _ (by omega)) (hJ _ _ (by omega)) (fun i => hJ _ _ (by omega)), kHs_cg hh (fun c k a b => hI c k b) (fun c k a b => hF c k b) (fun c k y => hJ c k (by omega)) (fun k => hG 115 k (by omega)), kIm_cg hk (fun c k y => hI c k (by omega)) (fun c k y => hJ c k (by omega)), ht⟩
/-- what is left alone by all but a few calls -/
def lfI (I I' : WI) : Prop := ∀ c k, (c = 0 ∨ (11 ≤ c ∧ c ≤ 20) ∨ (31 ≤ c ∧ c ≤ 34) ∨ (45 ≤ c ∧ c ≤ 57)) → I' c k = I c k
def lfJ (J J' : WI) : Prop := ∀ c k, ((c = 74 ∧ (k = 3 ∨ k = 6 ∨ 60 ≤ k)) ∨ (75 ≤ c ∧ c ≤ 77) ∨ (101 ≤ c ∧ c ≤ 110)) → J' c k = J c k
def shI4 (I I' : WI) : Prop := ∀ c k, 58 ≤ c → c < 74 → I' c k = I c k
def shF4 (F F' : WF) : Prop := ∀ c k, 58 ≤ c → c < 74 → F' c k = F c k
def shJ4 (J J' : WI) : Prop := ∀ c k, 111 ≤ c → c ≤ 116 → J' c k = J c k
theorem T2_w {nv' nc' r' : Nat} (hw : WJ S 1 nv' nc' tc r' I' J' L') (h9 : I 0 9 = nI tc) (h3 : J 74 3 = nI tc) (hq : qT I J) (hk : kIm tc I J) (ht : isT t) (hh : kHs I' J' F' G') (hI : lfI I I') (hJ : lfJ J J') : T2 I' J' F' G' L' t :=
  ⟨S, nv', nc', tc, r', hw, (hI 0 9 (by omega)).trans h9, (hJ 74 3 (by omega)).trans h3, qT_cg hq (hI _ _ (by omega)) (fun i => hI _ _ (by omega)) (hJ _ _ (by omega)) (fun i => hJ _ _ (by omega)), hh, kIm_cg hk (fun c k y => hI c k (by omega)) (fun c k y => hJ c k (by omega)), ht⟩
/-- a call that changes the shelf -/
theorem T2_kR (h : T2 I J F G L t) (f : ∀ nv nc tc, tc ≤ 6 → kR 1 nv nc tc I J → I 0 9 = nI tc → J 74 3 = nI tc → kIm tc I J → ∃ nv' nc', kR 1 nv' nc' tc I' J') (hI : lfI I I') (h4 : shI4 I I') (hJ : lfJ J J') (h5 : shJ4 J J') (h89 : ∀ k, J' 89 k = J 89 k) : T2 I' J' F G L t := by
  obtain ⟨S, nv, nc, tc, r, ⟨k1, k2, k3, k4, k5, k6⟩, h9, h3, hq, hh, hk, ht⟩ := h
  obtain ⟨nv', nc', kr⟩ := f nv nc tc k3 k1 h9 h3 hk
  obtain ⟨-, -, -, -, -, -, -, -, r', hr, hr'⟩ := id kr
  exact T2_w ⟨kr, fun q hq => TxtP_cg (k2 q hq) (fun c k x => hI c k (by omega)) (fun c k x => hJ c k (by omega)), k3, kM_cg k4 h89, hr, hr'⟩ h9 h3 hq hk ht (kHs_cg hh h4 (fun _ _ _ _ => rfl) (fun c k x => h5 c k (by omega) (by omega)) (fun _ => rfl)) hI hJ
/-- a call that reads the shelf -/
theorem T2_rd (hw : WJ S 1 nv nc tc r I J L) (h9 : I 0 9 = nI tc) (h3 : J 74 3 = nI tc) (hq : qT I J) (hh : kHs I J F G) (hk : kIm tc I J) (ht : isT t) (hI : ∀ c k, c < 21 ∨ (31 ≤ c ∧ c ≤ 34) ∨ (45 ≤ c ∧ c < 74) → I' c k = I c k) (hF : shF4 F F') (hR : RB nc J J') (hM : kM S tc J' L') : T2 I' J' F' G L' t :=
  T2_w (WJ_in hw (fun c k y => hI c k (by omega)) hR.1 (fun c k y => hR.2 c k (by omega) (by omega) (by omega) (by omega)) hM) h9 h3 hq hk ht (kHs_cg hh (fun c k a b => hI c k (by omega)) hF (fun c k y => hR.2 c k (by omega) (by omega) (by omega) (by omega)) (fun _ => rfl)) (fun c k y => hI c k (by omega)) (fun c k y => hR.2 c k (by omega) (by omega) (by omega) (by omega))
theorem RB_y (h : RY J J') : RB nc J J' := ⟨fun c k x => by have := KC_74 x; exact h c k (by omega) (by omega) (by omega) (by omega), fun c k a b d e => h c k (by omega) (by omega) (by omega) (by omega)⟩
theorem RB_x (h : RX J J') : RB nc J J' := RB_y (RY_of h)
theorem RB_o (h : RO J J') : RB nc J J' := RB_x (RX_of h)
/-- sheets alone -/
theorem T2_sh (h : T2 I J F G L t) (hh : kHs I J F G → kHs I' J' F' G') (hI : ∀ c k, c < 58 → I' c k = I c k) (hJ : ∀ c k, ¬ (111 ≤ c ∧ c ≤ 116) → J' c k = J c k) : T2 I' J' F' G' L t := by
  obtain ⟨S, nv, nc, tc, r, hw, h9, h3, hq, hh0, hk, ht⟩ := h
  have hM := hw.2.2.2.1
  exact T2_w (WJ_in hw (fun c k y => hI c k (by omega)) (fun c k y => hJ c k (by have := KC_74 y; omega)) (fun c k y => hJ c k (by omega)) (kM_cg hM (fun k => hJ 89 k (by omega)))) h9 h3 hq hk ht (hh hh0) (fun c k y => hI c k (by omega)) (fun c k y => hJ c k (by omega))
end
