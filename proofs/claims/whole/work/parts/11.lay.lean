section
/-- the shapes of all cells, the class's object first (0), then the reference's (74) -/
def SH : List Sh := [.inr 8, .inr 5, .inr 2, .inl (.int, 3), .inl (.int, 3), .inl (.int, 12), .inl (.int, 12), .inl (.int, 12), .inl (.int, 36), .inl (.int, 12), .inl (.int, 12), .inr 5, .inr 2, .inl (.int, 3), .inl (.int, 3), .inl (.int, 12), .inl (.int, 12), .inl (.int, 12), .inl (.int, 36), .inl (.int, 12), .inl (.int, 12), .inr 5, .inr 2, .inl (.int, 3), .inl (.int, 3), .inl (.int, 12), .inl (.int, 12), .inl (.int, 12), .inl (.int, 36), .inl (.int, 12), .inl (.int, 12), .inr 7, .inl (.int, 160), .inr 6, .inl (.int, 160), .inr 1, .inl (.int, 160), .inl (.int, 12), .inr 3, .inl (.float, 4), .inl (.int, 6), .inl (.int, 6), .inr 0, .inl (.int, 12), .inl ((.object "VectorShelf$Text"), 6), .inr 6, .inl (.int, 160), .inr 6, .inl (.int, 160), .inr 6, .inl (.int, 160), .inr 6, .inl (.int, 160), .inr 6, .inl (.int, 160), .inr 6, .inl (.int, 160), .inl ((.object "VectorShelf$Sheet"), 4), .inr 4, .inl (.float, 40), .inl (.byte, 40), .inl (.short, 40), .inr 4, .inl (.float, 40), .inl (.byte, 40), .inl (.short, 40), .inr 4, .inl (.float, 40), .inl (.byte, 40), .inl (.short, 40), .inr 4, .inl (.float, 40), .inl (.byte, 40), .inl (.short, 40), .inr 9, .inl (.int, 960), .inl (.int, 6), .inl (.int, 160), .inl (.int, 7), .inl (.int, 3), .inl (.int, 12), .inl (.int, 12), .inl (.int, 12), .inl (.boolean, 4), .inl (.int, 36), .inl (.int, 12), .inl (.int, 12), .inl (.int, 12), .inl (.long, 512), .inl (.int, 512), .inl (.int, 12), .inl (.int, 12), .inl (.int, 12), .inl (.boolean, 4), .inl (.int, 12), .inl (.int, 3), .inl (.int, 12), .inl (.boolean, 12), .inl (.boolean, 12), .inl (.boolean, 4), .inl (.int, 12), .inl (.int, 7), .inl (.int, 3), .inl (.int, 12), .inl (.int, 12), .inl (.int, 12), .inl (.boolean, 4), .inl (.int, 36), .inl (.int, 12), .inl (.int, 12), .inl (.int, 12), .inl (.boolean, 4), .inl (.int, 4), .inl (.int, 4), .inl (.int, 160), .inl (.float, 160), .inl (.boolean, 160)]
def rtl : List (Nat × Nat × Nat) := [(0, 0, 1), (0, 1, 11), (0, 2, 21), (0, 3, 44), (0, 4, 31), (0, 5, 35), (0, 6, 38), (0, 7, 42), (0, 8, 57), (1, 0, 2), (1, 3, 4), (1, 5, 5), (1, 6, 6), (1, 7, 7), (1, 9, 8), (1, 10, 9), (1, 11, 10), (2, 3, 3), (11, 0, 12), (11, 3, 14), (11, 5, 15), (11, 6, 16), (11, 7, 17), (11, 9, 18), (11, 10, 19), (11, 11, 20), (12, 3, 13), (21, 0, 22), (21, 3, 24), (21, 5, 25), (21, 6, 26), (21, 7, 27), (21, 9, 28), (21, 10, 29), (21, 11, 30), (22, 3, 23), (31, 0, 32), (33, 0, 34), (35, 0, 36), (35, 3, 37), (38, 0, 39), (38, 1, 40), (38, 2, 41), (42, 0, 43), (45, 0, 46), (47, 0, 48), (49, 0, 50), (51, 0, 52), (53, 0, 54), (55, 0, 56), (58, 2, 59), (58, 3, 60), (58, 4, 61), (62, 2, 63), (62, 3, 64), (62, 4, 65), (66, 2, 67), (66, 3, 68), (66, 4, 69), (70, 2, 71), (70, 3, 72), (70, 4, 73), (74, 1, 75), (74, 2, 76), (74, 5, 77), (74, 7, 78), (74, 8, 79), (74, 9, 80), (74, 10, 81), (74, 11, 82), (74, 12, 83), (74, 14, 84), (74, 15, 85), (74, 16, 86), (74, 17, 87), (74, 34, 88), (74, 35, 89), (74, 36, 90), (74, 37, 91), (74, 38, 92), (74, 39, 93), (74, 40, 94), (74, 41, 95), (74, 42, 96), (74, 43, 97), (74, 44, 98), (74, 45, 99), (74, 49, 100), (74, 50, 101), (74, 51, 102), (74, 52, 103), (74, 53, 104), (74, 54, 105), (74, 55, 106), (74, 56, 107), (74, 57, 108), (74, 58, 109), (74, 59, 110), (74, 63, 111), (74, 64, 112), (74, 65, 113), (74, 66, 114), (74, 67, 115), (74, 68, 116)]
def rtab (c k : Nat) : Option Nat := if c = 44 then (if k < 6 then some (45 + 2 * k) else none) else if c = 57 then (if k < 4 then some (58 + 4 * k) else none) else (rtl.find? (fun e => e.1 == c && e.2.1 == k)).map (fun e => e.2.2)
/-- the references: all are fixed but the text that the reader writes into (t) -/
def RT (t : Nat) : Nat → Nat → Option Nat := fun c k => if c = 31 ∧ k = 7 then some t else rtab c k
theorem rt_upd (t q : Nat) : up2 (RT t) 31 7 (some q) = RT q := by
  funext c k
  unfold up2 RT
  split <;> rfl
def isS (b : Nat) : Prop := b = 1 ∨ b = 11 ∨ b = 21
theorem sf5_0 {b : Nat} (h : isS b) : SH[b]? = some (.inr 5) := by rcases h with rfl | rfl | rfl <;> rfl
theorem sf5_1 {b : Nat} (h : isS b) : SH[b + 1]? = some (.inr 2) := by rcases h with rfl | rfl | rfl <;> rfl
theorem sf5_2 {b : Nat} (h : isS b) : SH[b + 2]? = some (.inl (.int, 3)) := by rcases h with rfl | rfl | rfl <;> rfl
theorem sf5_3 {b : Nat} (h : isS b) : SH[b + 3]? = some (.inl (.int, 3)) := by rcases h with rfl | rfl | rfl <;> rfl
theorem sf5_4 {b : Nat} (h : isS b) : SH[b + 4]? = some (.inl (.int, 12)) := by rcases h with rfl | rfl | rfl <;> rfl
theorem sf5_5 {b : Nat} (h : isS b) : SH[b + 5]? = some (.inl (.int, 12)) := by rcases h with rfl | rfl | rfl <;> rfl
theorem sf5_6 {b : Nat} (h : isS b) : SH[b + 6]? = some (.inl (.int, 12)) := by rcases h with rfl | rfl | rfl <;> rfl
theorem sf5_7 {b : Nat} (h : isS b) : SH[b + 7]? = some (.inl (.int, 36)) := by rcases h with rfl | rfl | rfl <;> rfl
theorem sf5_8 {b : Nat} (h : isS b) : SH[b + 8]? = some (.inl (.int, 12)) := by rcases h with rfl | rfl | rfl <;> rfl
theorem sf5_9 {b : Nat} (h : isS b) : SH[b + 9]? = some (.inl (.int, 12)) := by rcases h with rfl | rfl | rfl <;> rfl
theorem rf5_0_0 {b t : Nat} (h : isS b) : RT t b 0 = some (b + 1) := by rcases h with rfl | rfl | rfl <;> rfl
theorem rf5_0_3 {b t : Nat} (h : isS b) : RT t b 3 = some (b + 3) := by rcases h with rfl | rfl | rfl <;> rfl
theorem rf5_0_5 {b t : Nat} (h : isS b) : RT t b 5 = some (b + 4) := by rcases h with rfl | rfl | rfl <;> rfl
theorem rf5_0_6 {b t : Nat} (h : isS b) : RT t b 6 = some (b + 5) := by rcases h with rfl | rfl | rfl <;> rfl
theorem rf5_0_7 {b t : Nat} (h : isS b) : RT t b 7 = some (b + 6) := by rcases h with rfl | rfl | rfl <;> rfl
theorem rf5_0_9 {b t : Nat} (h : isS b) : RT t b 9 = some (b + 7) := by rcases h with rfl | rfl | rfl <;> rfl
theorem rf5_0_10 {b t : Nat} (h : isS b) : RT t b 10 = some (b + 8) := by rcases h with rfl | rfl | rfl <;> rfl
theorem rf5_0_11 {b t : Nat} (h : isS b) : RT t b 11 = some (b + 9) := by rcases h with rfl | rfl | rfl <;> rfl
def isM (b : Nat) : Prop := b = 2 ∨ b = 12 ∨ b = 22
theorem sf2_0 {b : Nat} (h : isM b) : SH[b]? = some (.inr 2) := by rcases h with rfl | rfl | rfl <;> rfl
theorem sf2_1 {b : Nat} (h : isM b) : SH[b + 1]? = some (.inl (.int, 3)) := by rcases h with rfl | rfl | rfl <;> rfl
theorem rf2_0_3 {b t : Nat} (h : isM b) : RT t b 3 = some (b + 1) := by rcases h with rfl | rfl | rfl <;> rfl
def isT (b : Nat) : Prop := b = 33 ∨ b = 45 ∨ b = 47 ∨ b = 49 ∨ b = 51 ∨ b = 53 ∨ b = 55
theorem sf6_0 {b : Nat} (h : isT b) : SH[b]? = some (.inr 6) := by rcases h with rfl | rfl | rfl | rfl | rfl | rfl | rfl <;> rfl
theorem sf6_1 {b : Nat} (h : isT b) : SH[b + 1]? = some (.inl (.int, 160)) := by rcases h with rfl | rfl | rfl | rfl | rfl | rfl | rfl <;> rfl
theorem rf6_0_0 {b t : Nat} (h : isT b) : RT t b 0 = some (b + 1) := by rcases h with rfl | rfl | rfl | rfl | rfl | rfl | rfl <;> rfl
def isH (b : Nat) : Prop := b = 58 ∨ b = 62 ∨ b = 66 ∨ b = 70
theorem sf4_0 {b : Nat} (h : isH b) : SH[b]? = some (.inr 4) := by rcases h with rfl | rfl | rfl | rfl <;> rfl
theorem sf4_1 {b : Nat} (h : isH b) : SH[b + 1]? = some (.inl (.float, 40)) := by rcases h with rfl | rfl | rfl | rfl <;> rfl
theorem sf4_2 {b : Nat} (h : isH b) : SH[b + 2]? = some (.inl (.byte, 40)) := by rcases h with rfl | rfl | rfl | rfl <;> rfl
theorem sf4_3 {b : Nat} (h : isH b) : SH[b + 3]? = some (.inl (.short, 40)) := by rcases h with rfl | rfl | rfl | rfl <;> rfl
theorem rf4_0_2 {b t : Nat} (h : isH b) : RT t b 2 = some (b + 1) := by rcases h with rfl | rfl | rfl | rfl <;> rfl
theorem rf4_0_3 {b t : Nat} (h : isH b) : RT t b 3 = some (b + 2) := by rcases h with rfl | rfl | rfl | rfl <;> rfl
theorem rf4_0_4 {b t : Nat} (h : isH b) : RT t b 4 = some (b + 3) := by rcases h with rfl | rfl | rfl | rfl <;> rfl
theorem isM_S {b : Nat} (h : isS b) : isM (b + 1) := by unfold isS at h; unfold isM; omega
theorem rf5_1_3 {b t : Nat} (h : isS b) : RT t (b + 1) 3 = some (b + 2) := by rcases h with rfl | rfl | rfl <;> rfl
theorem mp_0 : 0 = mP 0 := by decide +kernel
theorem mp_1 : 2 = mP 1 := by decide +kernel
theorem mp_2 : 2 = mP 2 := by decide +kernel
theorem mp_3 : 2 = mP 3 := by decide +kernel
theorem mp_4 : 4 = mP 4 := by decide +kernel
theorem mp_5 : 2 = mP 5 := by decide +kernel
theorem mp_6 : 2 = mP 6 := by decide +kernel
theorem mp_7 : 3 = mP 7 := by decide +kernel
theorem mp_8 : 2 = mP 8 := by decide +kernel
theorem mp_9 : 3 = mP 9 := by decide +kernel
theorem mp_10 : 2 = mP 10 := by decide +kernel
theorem mp_11 : 0 = mP 11 := by decide +kernel
theorem mp_12 : 2 = mP 12 := by decide +kernel
theorem mp_13 : 5 = mP 13 := by decide +kernel
theorem mp_14 : 1 = mP 14 := by decide +kernel
theorem mp_15 : 3 = mP 15 := by decide +kernel
theorem mp_16 : 1 = mP 16 := by decide +kernel
theorem mp_17 : 1 = mP 17 := by decide +kernel
theorem mp_18 : 1 = mP 18 := by decide +kernel
theorem mp_19 : 3 = mP 19 := by decide +kernel
theorem mp_20 : 2 = mP 20 := by decide +kernel
theorem mp_21 : 1 = mP 21 := by decide +kernel
theorem mp_22 : 2 = mP 22 := by decide +kernel
theorem mp_23 : 1 = mP 23 := by decide +kernel
theorem mp_24 : 0 = mP 24 := by decide +kernel
theorem mp_25 : 3 = mP 25 := by decide +kernel
theorem mp_26 : 2 = mP 26 := by decide +kernel
theorem mp_27 : 2 = mP 27 := by decide +kernel
theorem mp_28 : 1 = mP 28 := by decide +kernel
theorem mp_29 : 3 = mP 29 := by decide +kernel
theorem mp_30 : 2 = mP 30 := by decide +kernel
theorem mp_31 : 1 = mP 31 := by decide +kernel
theorem mp_32 : 1 = mP 32 := by decide +kernel
theorem mp_33 : 1 = mP 33 := by decide +kernel
theorem mp_34 : 0 = mP 34 := by decide +kernel
theorem mp_35 : 3 = mP 35 := by decide +kernel
theorem mp_36 : 1 = mP 36 := by decide +kernel
theorem mp_37 : 1 = mP 37 := by decide +kernel
theorem mp_38 : 2 = mP 38 := by decide +kernel
theorem mp_39 : 4 = mP 39 := by decide +kernel
theorem mp_40 : 3 = mP 40 := by decide +kernel
theorem mp_41 : 0 = mP 41 := by decide +kernel
theorem mp_42 : 1 = mP 42 := by decide +kernel
theorem mp_43 : 0 = mP 43 := by decide +kernel
theorem mp_44 : 0 = mP 44 := by decide +kernel
theorem mp_45 : 1 = mP 45 := by decide +kernel
theorem mp_46 : 2 = mP 46 := by decide +kernel
theorem mp_47 : 2 = mP 47 := by decide +kernel
theorem mp_48 : 2 = mP 48 := by decide +kernel
theorem mp_49 : 1 = mP 49 := by decide +kernel
theorem mp_50 : 4 = mP 50 := by decide +kernel
theorem mp_51 : 1 = mP 51 := by decide +kernel
theorem mp_52 : 0 = mP 52 := by decide +kernel
theorem mp_53 : 3 = mP 53 := by decide +kernel
theorem mp_54 : 1 = mP 54 := by decide +kernel
theorem mp_55 : 4 = mP 55 := by decide +kernel
theorem mp_56 : 2 = mP 56 := by decide +kernel
theorem mp_57 : 4 = mP 57 := by decide +kernel
theorem mp_58 : 1 = mP 58 := by decide +kernel
theorem mp_59 : 2 = mP 59 := by decide +kernel
theorem mp_60 : 2 = mP 60 := by decide +kernel
theorem mp_61 : 1 = mP 61 := by decide +kernel
theorem mp_62 : 2 = mP 62 := by decide +kernel
theorem mp_63 : 1 = mP 63 := by decide +kernel
theorem mp_64 : 2 = mP 64 := by decide +kernel
theorem mp_65 : 3 = mP 65 := by decide +kernel
theorem mp_66 : 1 = mP 66 := by decide +kernel
theorem mp_67 : 1 = mP 67 := by decide +kernel
theorem mp_68 : 1 = mP 68 := by decide +kernel
theorem mp_69 : 2 = mP 69 := by decide +kernel
theorem mp_70 : 3 = mP 70 := by decide +kernel
theorem mp_71 : 2 = mP 71 := by decide +kernel
theorem mp_72 : 1 = mP 72 := by decide +kernel
theorem mp_73 : 1 = mP 73 := by decide +kernel
theorem mp_74 : 0 = mP 74 := by decide +kernel
theorem mp_75 : 1 = mP 75 := by decide +kernel
theorem mp_76 : 1 = mP 76 := by decide +kernel
theorem mp_77 : 0 = mP 77 := by decide +kernel
theorem mp_78 : 1 = mP 78 := by decide +kernel
theorem mp_79 : 0 = mP 79 := by decide +kernel
theorem mp_80 : 0 = mP 80 := by decide +kernel
theorem mp_81 : 1 = mP 81 := by decide +kernel
theorem mp_82 : 0 = mP 82 := by decide +kernel
theorem mp_83 : 1 = mP 83 := by decide +kernel
theorem mp_84 : 1 = mP 84 := by decide +kernel
theorem mp_85 : 0 = mP 85 := by decide +kernel
theorem mp_86 : 1 = mP 86 := by decide +kernel
theorem mp_87 : 1 = mP 87 := by decide +kernel
theorem mp_88 : 1 = mP 88 := by decide +kernel
theorem mp_89 : 0 = mP 89 := by decide +kernel
theorem mp_90 : 0 = mP 90 := by decide +kernel
theorem mp_91 : 1 = mP 91 := by decide +kernel
theorem mp_92 : 0 = mP 92 := by decide +kernel
theorem mp_93 : 1 = mP 93 := by decide +kernel
theorem mp_94 : 0 = mP 94 := by decide +kernel
theorem mp_95 : 1 = mP 95 := by decide +kernel
theorem mp_96 : 0 = mP 96 := by decide +kernel
theorem mp_97 : 1 = mP 97 := by decide +kernel
theorem mp_98 : 1 = mP 98 := by decide +kernel
theorem mp_99 : 1 = mP 99 := by decide +kernel
theorem mp_100 : 1 = mP 100 := by decide +kernel
theorem mp_101 : 1 = mP 101 := by decide +kernel
theorem mp_102 : 1 = mP 102 := by decide +kernel
theorem mp_103 : 1 = mP 103 := by decide +kernel
theorem mp_104 : 0 = mP 104 := by decide +kernel
theorem mp_105 : 3 = mP 105 := by decide +kernel
theorem mp_106 : 3 = mP 106 := by decide +kernel
theorem mp_107 : 3 = mP 107 := by decide +kernel
theorem mp_108 : 4 = mP 108 := by decide +kernel
theorem mp_109 : 4 = mP 109 := by decide +kernel
theorem mp_110 : 1 = mP 110 := by decide +kernel
theorem mp_111 : 2 = mP 111 := by decide +kernel
theorem mp_112 : 2 = mP 112 := by decide +kernel
theorem mp_113 : 2 = mP 113 := by decide +kernel
theorem mp_114 : 2 = mP 114 := by decide +kernel
theorem mp_115 : 1 = mP 115 := by decide +kernel
theorem mp_116 : 2 = mP 116 := by decide +kernel
theorem mp_117 : 2 = mP 117 := by decide +kernel
theorem mp_118 : 2 = mP 118 := by decide +kernel
theorem mp_119 : 3 = mP 119 := by decide +kernel
theorem mp_120 : 0 = mP 120 := by decide +kernel
theorem mp_121 : 2 = mP 121 := by decide +kernel
theorem mp_122 : 1 = mP 122 := by decide +kernel
theorem mp_123 : 1 = mP 123 := by decide +kernel
theorem mp_124 : 0 = mP 124 := by decide +kernel
theorem mp_125 : 1 = mP 125 := by decide +kernel
theorem mp_126 : 0 = mP 126 := by decide +kernel
theorem mp_127 : 1 = mP 127 := by decide +kernel
theorem mp_128 : 2 = mP 128 := by decide +kernel
theorem mp_129 : 4 = mP 129 := by decide +kernel
theorem mp_130 : 2 = mP 130 := by decide +kernel
theorem mp_131 : 1 = mP 131 := by decide +kernel
theorem mp_132 : 2 = mP 132 := by decide +kernel
theorem mp_133 : 1 = mP 133 := by decide +kernel
theorem mp_134 : 2 = mP 134 := by decide +kernel
theorem mp_135 : 1 = mP 135 := by decide +kernel
theorem mp_136 : 1 = mP 136 := by decide +kernel
theorem mp_137 : 2 = mP 137 := by decide +kernel
theorem mp_138 : 1 = mP 138 := by decide +kernel
theorem mp_139 : 2 = mP 139 := by decide +kernel
theorem mp_140 : 1 = mP 140 := by decide +kernel
theorem mp_141 : 3 = mP 141 := by decide +kernel
theorem mp_142 : 4 = mP 142 := by decide +kernel
theorem mp_143 : 2 = mP 143 := by decide +kernel
theorem mp_144 : 2 = mP 144 := by decide +kernel
theorem mp_145 : 2 = mP 145 := by decide +kernel
theorem mp_146 : 1 = mP 146 := by decide +kernel
theorem mp_147 : 1 = mP 147 := by decide +kernel
theorem mp_148 : 1 = mP 148 := by decide +kernel
theorem mp_149 : 1 = mP 149 := by decide +kernel
theorem mp_150 : 1 = mP 150 := by decide +kernel
theorem mp_151 : 1 = mP 151 := by decide +kernel
theorem mp_152 : 2 = mP 152 := by decide +kernel
theorem mp_153 : 0 = mP 153 := by decide +kernel
theorem mp_154 : 0 = mP 154 := by decide +kernel
theorem mp_155 : 1 = mP 155 := by decide +kernel
theorem mp_156 : 3 = mP 156 := by decide +kernel
theorem mp_157 : 3 = mP 157 := by decide +kernel
theorem mp_158 : 4 = mP 158 := by decide +kernel
theorem mp_159 : 2 = mP 159 := by decide +kernel
theorem mp_160 : 2 = mP 160 := by decide +kernel
theorem mp_161 : 5 = mP 161 := by decide +kernel
theorem mp_162 : 3 = mP 162 := by decide +kernel
theorem mp_163 : 4 = mP 163 := by decide +kernel
theorem mp_164 : 2 = mP 164 := by decide +kernel
theorem mp_165 : 3 = mP 165 := by decide +kernel
theorem mp_166 : 1 = mP 166 := by decide +kernel
theorem mp_167 : 0 = mP 167 := by decide +kernel
theorem mp_168 : 9 = mP 168 := by decide +kernel
theorem mp_169 : 2 = mP 169 := by decide +kernel
theorem mp_170 : 3 = mP 170 := by decide +kernel
theorem mp_171 : 1 = mP 171 := by decide +kernel
theorem mp_172 : 3 = mP 172 := by decide +kernel
theorem mp_173 : 3 = mP 173 := by decide +kernel
theorem mp_174 : 4 = mP 174 := by decide +kernel
theorem mp_175 : 4 = mP 175 := by decide +kernel
theorem mp_176 : 1 = mP 176 := by decide +kernel
theorem mp_177 : 2 = mP 177 := by decide +kernel
theorem mp_178 : 4 = mP 178 := by decide +kernel
theorem mp_179 : 1 = mP 179 := by decide +kernel
theorem mp_180 : 1 = mP 180 := by decide +kernel
theorem mp_181 : 2 = mP 181 := by decide +kernel
theorem mp_182 : 2 = mP 182 := by decide +kernel
theorem mp_183 : 2 = mP 183 := by decide +kernel
theorem mp_184 : 2 = mP 184 := by decide +kernel
theorem mp_185 : 3 = mP 185 := by decide +kernel
theorem mp_186 : 2 = mP 186 := by decide +kernel
theorem mp_187 : 0 = mP 187 := by decide +kernel
theorem mp_188 : 1 = mP 188 := by decide +kernel
theorem mp_189 : 1 = mP 189 := by decide +kernel
theorem mp_190 : 1 = mP 190 := by decide +kernel
theorem mp_191 : 1 = mP 191 := by decide +kernel
theorem mp_192 : 0 = mP 192 := by decide +kernel
theorem mp_193 : 2 = mP 193 := by decide +kernel
theorem mp_194 : 0 = mP 194 := by decide +kernel
theorem mp_195 : 1 = mP 195 := by decide +kernel
theorem mp_196 : 8 = mP 196 := by decide +kernel
theorem mp_197 : 2 = mP 197 := by decide +kernel
theorem mp_198 : 1 = mP 198 := by decide +kernel
theorem mp_199 : 0 = mP 199 := by decide +kernel
theorem mp_200 : 0 = mP 200 := by decide +kernel
theorem mp_201 : 0 = mP 201 := by decide +kernel
theorem mp_202 : 0 = mP 202 := by decide +kernel
theorem mp_203 : 0 = mP 203 := by decide +kernel
theorem mp_204 : 0 = mP 204 := by decide +kernel
theorem mp_205 : 0 = mP 205 := by decide +kernel
theorem mp_206 : 0 = mP 206 := by decide +kernel
theorem mp_207 : 1 = mP 207 := by decide +kernel
theorem mp_208 : 0 = mP 208 := by decide +kernel
theorem mp_209 : 1 = mP 209 := by decide +kernel
theorem mp_210 : 2 = mP 210 := by decide +kernel
theorem mp_211 : 2 = mP 211 := by decide +kernel
theorem mp_212 : 2 = mP 212 := by decide +kernel
theorem mp_213 : 1 = mP 213 := by decide +kernel
theorem mp_214 : 2 = mP 214 := by decide +kernel
theorem mp_215 : 1 = mP 215 := by decide +kernel
theorem mp_216 : 3 = mP 216 := by decide +kernel
theorem mp_217 : 1 = mP 217 := by decide +kernel
theorem mp_218 : 1 = mP 218 := by decide +kernel
theorem mp_219 : 2 = mP 219 := by decide +kernel
theorem mp_220 : 3 = mP 220 := by decide +kernel
theorem mp_221 : 3 = mP 221 := by decide +kernel
theorem mp_222 : 2 = mP 222 := by decide +kernel
theorem mp_223 : 2 = mP 223 := by decide +kernel
theorem mp_224 : 1 = mP 224 := by decide +kernel
theorem mp_225 : 1 = mP 225 := by decide +kernel
theorem mp_226 : 2 = mP 226 := by decide +kernel
theorem mp_227 : 3 = mP 227 := by decide +kernel
theorem mp_228 : 0 = mP 228 := by decide +kernel
theorem mp_229 : 1 = mP 229 := by decide +kernel
theorem mp_230 : 1 = mP 230 := by decide +kernel
theorem mp_231 : 0 = mP 231 := by decide +kernel
theorem mp_232 : 0 = mP 232 := by decide +kernel
theorem mp_233 : 1 = mP 233 := by decide +kernel
theorem mp_234 : 0 = mP 234 := by decide +kernel
theorem mp_235 : 0 = mP 235 := by decide +kernel
theorem mp_236 : 2 = mP 236 := by decide +kernel
theorem mp_237 : 1 = mP 237 := by decide +kernel
theorem mp_238 : 0 = mP 238 := by decide +kernel
theorem mp_239 : 0 = mP 239 := by decide +kernel
theorem mp_240 : 2 = mP 240 := by decide +kernel
theorem mp_241 : 2 = mP 241 := by decide +kernel
theorem mp_242 : 2 = mP 242 := by decide +kernel
theorem mp_243 : 2 = mP 243 := by decide +kernel
theorem mp_244 : 1 = mP 244 := by decide +kernel
theorem mp_245 : 2 = mP 245 := by decide +kernel
theorem mp_246 : 1 = mP 246 := by decide +kernel
theorem mp_247 : 1 = mP 247 := by decide +kernel
theorem mp_248 : 1 = mP 248 := by decide +kernel
theorem mp_249 : 2 = mP 249 := by decide +kernel
theorem mp_250 : 2 = mP 250 := by decide +kernel
theorem mp_251 : 1 = mP 251 := by decide +kernel
theorem mp_252 : 1 = mP 252 := by decide +kernel
theorem mp_253 : 1 = mP 253 := by decide +kernel
theorem mp_254 : 2 = mP 254 := by decide +kernel
theorem mp_255 : 0 = mP 255 := by decide +kernel
theorem mp_256 : 1 = mP 256 := by decide +kernel
theorem mp_257 : 1 = mP 257 := by decide +kernel
theorem mp_258 : 3 = mP 258 := by decide +kernel
theorem mp_259 : 2 = mP 259 := by decide +kernel
theorem mp_260 : 4 = mP 260 := by decide +kernel
theorem mp_261 : 2 = mP 261 := by decide +kernel
theorem mp_262 : 1 = mP 262 := by decide +kernel
theorem mp_263 : 1 = mP 263 := by decide +kernel
theorem mp_264 : 2 = mP 264 := by decide +kernel
theorem mp_265 : 3 = mP 265 := by decide +kernel
theorem mp_266 : 2 = mP 266 := by decide +kernel
theorem mp_267 : 3 = mP 267 := by decide +kernel
theorem mp_268 : 0 = mP 268 := by decide +kernel
theorem mp_269 : 0 = mP 269 := by decide +kernel
theorem mp_270 : 1 = mP 270 := by decide +kernel
theorem mp_271 : 3 = mP 271 := by decide +kernel
theorem mp_272 : 2 = mP 272 := by decide +kernel
theorem mp_273 : 2 = mP 273 := by decide +kernel
theorem mp_274 : 2 = mP 274 := by decide +kernel
theorem mp_275 : 5 = mP 275 := by decide +kernel
theorem mp_276 : 3 = mP 276 := by decide +kernel
theorem mp_277 : 4 = mP 277 := by decide +kernel
theorem mp_278 : 2 = mP 278 := by decide +kernel
theorem mp_279 : 3 = mP 279 := by decide +kernel
theorem mp_280 : 1 = mP 280 := by decide +kernel
theorem mp_281 : 1 = mP 281 := by decide +kernel
theorem mp_282 : 2 = mP 282 := by decide +kernel
theorem mp_283 : 2 = mP 283 := by decide +kernel
theorem mp_284 : 2 = mP 284 := by decide +kernel
theorem mp_285 : 1 = mP 285 := by decide +kernel
theorem mp_286 : 1 = mP 286 := by decide +kernel
def rI (r : Int32) (w : Wd) : RP := fun v s1 w1 => v = some (.int r) ∧ s1 = SH ∧ w1 = w
def rL (r : Int64) (w : Wd) : RP := fun v s1 w1 => v = some (.long r) ∧ s1 = SH ∧ w1 = w
def rF (r : UInt32) (w : Wd) : RP := fun v s1 w1 => v = some (.float r) ∧ s1 = SH ∧ w1 = w
def rR (r : Nat) (w : Wd) : RP := fun v s1 w1 => v = some (.ref r) ∧ s1 = SH ∧ w1 = w
def rV (w : Wd) : RP := fun v s1 w1 => v = none ∧ s1 = SH ∧ w1 = w
abbrev QW : Type := (Nat → Nat → Int32) → (Nat → Nat → UInt32) → (Nat → Nat → Int64) → Nat → Prop
def rIQ (Q : Int32 → QW) : RP := fun v s1 w1 => ∃ (z : Int32) (I1 : Nat → Nat → Int32) (F1 : Nat → Nat → UInt32) (L1 : Nat → Nat → Int64) (t1 : Nat), v = some (.int z) ∧ s1 = SH ∧ w1 = (I1, F1, L1, RT t1) ∧ Q z I1 F1 L1 t1
def rLQ (Q : Int64 → QW) : RP := fun v s1 w1 => ∃ (z : Int64) (I1 : Nat → Nat → Int32) (F1 : Nat → Nat → UInt32) (L1 : Nat → Nat → Int64) (t1 : Nat), v = some (.long z) ∧ s1 = SH ∧ w1 = (I1, F1, L1, RT t1) ∧ Q z I1 F1 L1 t1
def rVQ (Q : QW) : RP := fun v s1 w1 => ∃ (I1 : Nat → Nat → Int32) (F1 : Nat → Nat → UInt32) (L1 : Nat → Nat → Int64) (t1 : Nat), v = none ∧ s1 = SH ∧ w1 = (I1, F1, L1, RT t1) ∧ Q I1 F1 L1 t1
theorem Wp_cR {l : LX} {id d mc ms : Nat} {P : RP} {cc ss pc : Nat} {lv : List (Nat × Value)} {st : List Value} {sh : List Sh} {I : Nat → Nat → Int32} {F : Nat → Nat → UInt32} {L : Nat → Nat → Int64} {R R1 : Nat → Nat → Option Nat} (h : R = R1) (k : Wp l id d mc ms P cc ss pc lv st sh (I, F, L, R1)) : Wp l id d mc ms P cc ss pc lv st sh (I, F, L, R) := by subst h; exact k
theorem ts_out0_6 {x : Int32} (h0 : ¬ x = 0) (h1 : ¬ x = 1) (h2 : ¬ x = 2) (h3 : ¬ x = 3) (h4 : ¬ x = 4) (h5 : ¬ x = 5) : x.toInt < 0 ∨ 5 < x.toInt := by
  have f : ∀ k : Int32, ¬ x = k → x.toInt ≠ k.toInt := fun k h e => h (Int32.toInt_inj.mp e)
  have e0 := f 0 h0
  rw [show (0 : Int32).toInt = 0 from rfl] at e0
  have e1 := f 1 h1
  rw [show (1 : Int32).toInt = 1 from rfl] at e1
  have e2 := f 2 h2
  rw [show (2 : Int32).toInt = 2 from rfl] at e2
  have e3 := f 3 h3
  rw [show (3 : Int32).toInt = 3 from rfl] at e3
  have e4 := f 4 h4
  rw [show (4 : Int32).toInt = 4 from rfl] at e4
  have e5 := f 5 h5
  rw [show (5 : Int32).toInt = 5 from rfl] at e5
  omega
theorem ts_out0_7 {x : Int32} (h0 : ¬ x = 0) (h1 : ¬ x = 1) (h2 : ¬ x = 2) (h3 : ¬ x = 3) (h4 : ¬ x = 4) (h5 : ¬ x = 5) (h6 : ¬ x = 6) : x.toInt < 0 ∨ 6 < x.toInt := by
  have f : ∀ k : Int32, ¬ x = k → x.toInt ≠ k.toInt := fun k h e => h (Int32.toInt_inj.mp e)
  have e0 := f 0 h0
  rw [show (0 : Int32).toInt = 0 from rfl] at e0
  have e1 := f 1 h1
  rw [show (1 : Int32).toInt = 1 from rfl] at e1
  have e2 := f 2 h2
  rw [show (2 : Int32).toInt = 2 from rfl] at e2
  have e3 := f 3 h3
  rw [show (3 : Int32).toInt = 3 from rfl] at e3
  have e4 := f 4 h4
  rw [show (4 : Int32).toInt = 4 from rfl] at e4
  have e5 := f 5 h5
  rw [show (5 : Int32).toInt = 5 from rfl] at e5
  have e6 := f 6 h6
  rw [show (6 : Int32).toInt = 6 from rfl] at e6
  omega
theorem ts_out0_8 {x : Int32} (h0 : ¬ x = 0) (h1 : ¬ x = 1) (h2 : ¬ x = 2) (h3 : ¬ x = 3) (h4 : ¬ x = 4) (h5 : ¬ x = 5) (h6 : ¬ x = 6) (h7 : ¬ x = 7) : x.toInt < 0 ∨ 7 < x.toInt := by
  have f : ∀ k : Int32, ¬ x = k → x.toInt ≠ k.toInt := fun k h e => h (Int32.toInt_inj.mp e)
  have e0 := f 0 h0
  rw [show (0 : Int32).toInt = 0 from rfl] at e0
  have e1 := f 1 h1
  rw [show (1 : Int32).toInt = 1 from rfl] at e1
  have e2 := f 2 h2
  rw [show (2 : Int32).toInt = 2 from rfl] at e2
  have e3 := f 3 h3
  rw [show (3 : Int32).toInt = 3 from rfl] at e3
  have e4 := f 4 h4
  rw [show (4 : Int32).toInt = 4 from rfl] at e4
  have e5 := f 5 h5
  rw [show (5 : Int32).toInt = 5 from rfl] at e5
  have e6 := f 6 h6
  rw [show (6 : Int32).toInt = 6 from rfl] at e6
  have e7 := f 7 h7
  rw [show (7 : Int32).toInt = 7 from rfl] at e7
  omega
theorem ts_out0_13 {x : Int32} (h0 : ¬ x = 0) (h1 : ¬ x = 1) (h2 : ¬ x = 2) (h3 : ¬ x = 3) (h4 : ¬ x = 4) (h5 : ¬ x = 5) (h6 : ¬ x = 6) (h7 : ¬ x = 7) (h8 : ¬ x = 8) (h9 : ¬ x = 9) (h10 : ¬ x = 10) (h11 : ¬ x = 11) (h12 : ¬ x = 12) : x.toInt < 0 ∨ 12 < x.toInt := by
  have f : ∀ k : Int32, ¬ x = k → x.toInt ≠ k.toInt := fun k h e => h (Int32.toInt_inj.mp e)
  have e0 := f 0 h0
  rw [show (0 : Int32).toInt = 0 from rfl] at e0
  have e1 := f 1 h1
  rw [show (1 : Int32).toInt = 1 from rfl] at e1
  have e2 := f 2 h2
  rw [show (2 : Int32).toInt = 2 from rfl] at e2
  have e3 := f 3 h3
  rw [show (3 : Int32).toInt = 3 from rfl] at e3
  have e4 := f 4 h4
  rw [show (4 : Int32).toInt = 4 from rfl] at e4
  have e5 := f 5 h5
  rw [show (5 : Int32).toInt = 5 from rfl] at e5
  have e6 := f 6 h6
  rw [show (6 : Int32).toInt = 6 from rfl] at e6
  have e7 := f 7 h7
  rw [show (7 : Int32).toInt = 7 from rfl] at e7
  have e8 := f 8 h8
  rw [show (8 : Int32).toInt = 8 from rfl] at e8
  have e9 := f 9 h9
  rw [show (9 : Int32).toInt = 9 from rfl] at e9
  have e10 := f 10 h10
  rw [show (10 : Int32).toInt = 10 from rfl] at e10
  have e11 := f 11 h11
  rw [show (11 : Int32).toInt = 11 from rfl] at e11
  have e12 := f 12 h12
  rw [show (12 : Int32).toInt = 12 from rfl] at e12
  omega
theorem ts_out0_5 {x : Int32} (h0 : ¬ x = 0) (h1 : ¬ x = 1) (h2 : ¬ x = 2) (h3 : ¬ x = 3) (h4 : ¬ x = 4) : x.toInt < 0 ∨ 4 < x.toInt := by
  have f : ∀ k : Int32, ¬ x = k → x.toInt ≠ k.toInt := fun k h e => h (Int32.toInt_inj.mp e)
  have e0 := f 0 h0
  rw [show (0 : Int32).toInt = 0 from rfl] at e0
  have e1 := f 1 h1
  rw [show (1 : Int32).toInt = 1 from rfl] at e1
  have e2 := f 2 h2
  rw [show (2 : Int32).toInt = 2 from rfl] at e2
  have e3 := f 3 h3
  rw [show (3 : Int32).toInt = 3 from rfl] at e3
  have e4 := f 4 h4
  rw [show (4 : Int32).toInt = 4 from rfl] at e4
  omega
theorem ts_out0_3 {x : Int32} (h0 : ¬ x = 0) (h1 : ¬ x = 1) (h2 : ¬ x = 2) : x.toInt < 0 ∨ 2 < x.toInt := by
  have f : ∀ k : Int32, ¬ x = k → x.toInt ≠ k.toInt := fun k h e => h (Int32.toInt_inj.mp e)
  have e0 := f 0 h0
  rw [show (0 : Int32).toInt = 0 from rfl] at e0
  have e1 := f 1 h1
  rw [show (1 : Int32).toInt = 1 from rfl] at e1
  have e2 := f 2 h2
  rw [show (2 : Int32).toInt = 2 from rfl] at e2
  omega
theorem ts_out0_4 {x : Int32} (h0 : ¬ x = 0) (h1 : ¬ x = 1) (h2 : ¬ x = 2) (h3 : ¬ x = 3) : x.toInt < 0 ∨ 3 < x.toInt := by
  have f : ∀ k : Int32, ¬ x = k → x.toInt ≠ k.toInt := fun k h e => h (Int32.toInt_inj.mp e)
  have e0 := f 0 h0
  rw [show (0 : Int32).toInt = 0 from rfl] at e0
  have e1 := f 1 h1
  rw [show (1 : Int32).toInt = 1 from rfl] at e1
  have e2 := f 2 h2
  rw [show (2 : Int32).toInt = 2 from rfl] at e2
  have e3 := f 3 h3
  rw [show (3 : Int32).toInt = 3 from rfl] at e3
  omega
theorem ts_outm5_4 {x : Int32} (h0 : ¬ x = (-5)) (h1 : ¬ x = (-4)) (h2 : ¬ x = (-3)) (h3 : ¬ x = (-2)) : x.toInt < (-5) ∨ (-2) < x.toInt := by
  have f : ∀ k : Int32, ¬ x = k → x.toInt ≠ k.toInt := fun k h e => h (Int32.toInt_inj.mp e)
  have e0 := f (-5) h0
  rw [show ((-5) : Int32).toInt = (-5) from rfl] at e0
  have e1 := f (-4) h1
  rw [show ((-4) : Int32).toInt = (-4) from rfl] at e1
  have e2 := f (-3) h2
  rw [show ((-3) : Int32).toInt = (-3) from rfl] at e2
  have e3 := f (-2) h3
  rw [show ((-2) : Int32).toInt = (-2) from rfl] at e3
  omega
theorem ts_outm5_5 {x : Int32} (h0 : ¬ x = (-5)) (h1 : ¬ x = (-4)) (h2 : ¬ x = (-3)) (h3 : ¬ x = (-2)) (h4 : ¬ x = (-1)) : x.toInt < (-5) ∨ (-1) < x.toInt := by
  have f : ∀ k : Int32, ¬ x = k → x.toInt ≠ k.toInt := fun k h e => h (Int32.toInt_inj.mp e)
  have e0 := f (-5) h0
  rw [show ((-5) : Int32).toInt = (-5) from rfl] at e0
  have e1 := f (-4) h1
  rw [show ((-4) : Int32).toInt = (-4) from rfl] at e1
  have e2 := f (-3) h2
  rw [show ((-3) : Int32).toInt = (-3) from rfl] at e2
  have e3 := f (-2) h3
  rw [show ((-2) : Int32).toInt = (-2) from rfl] at e3
  have e4 := f (-1) h4
  rw [show ((-1) : Int32).toInt = (-1) from rfl] at e4
  omega
theorem ts_outm5_6 {x : Int32} (h0 : ¬ x = (-5)) (h1 : ¬ x = (-4)) (h2 : ¬ x = (-3)) (h3 : ¬ x = (-2)) (h4 : ¬ x = (-1)) (h5 : ¬ x = 0) : x.toInt < (-5) ∨ 0 < x.toInt := by
  have f : ∀ k : Int32, ¬ x = k → x.toInt ≠ k.toInt := fun k h e => h (Int32.toInt_inj.mp e)
  have e0 := f (-5) h0
  rw [show ((-5) : Int32).toInt = (-5) from rfl] at e0
  have e1 := f (-4) h1
  rw [show ((-4) : Int32).toInt = (-4) from rfl] at e1
  have e2 := f (-3) h2
  rw [show ((-3) : Int32).toInt = (-3) from rfl] at e2
  have e3 := f (-2) h3
  rw [show ((-2) : Int32).toInt = (-2) from rfl] at e3
  have e4 := f (-1) h4
  rw [show ((-1) : Int32).toInt = (-1) from rfl] at e4
  have e5 := f 0 h5
  rw [show (0 : Int32).toInt = 0 from rfl] at e5
  omega
theorem ts_outm14_6 {x : Int32} (h0 : ¬ x = (-14)) (h1 : ¬ x = (-13)) (h2 : ¬ x = (-12)) (h3 : ¬ x = (-11)) (h4 : ¬ x = (-10)) (h5 : ¬ x = (-9)) : x.toInt < (-14) ∨ (-9) < x.toInt := by
  have f : ∀ k : Int32, ¬ x = k → x.toInt ≠ k.toInt := fun k h e => h (Int32.toInt_inj.mp e)
  have e0 := f (-14) h0
  rw [show ((-14) : Int32).toInt = (-14) from rfl] at e0
  have e1 := f (-13) h1
  rw [show ((-13) : Int32).toInt = (-13) from rfl] at e1
  have e2 := f (-12) h2
  rw [show ((-12) : Int32).toInt = (-12) from rfl] at e2
  have e3 := f (-11) h3
  rw [show ((-11) : Int32).toInt = (-11) from rfl] at e3
  have e4 := f (-10) h4
  rw [show ((-10) : Int32).toInt = (-10) from rfl] at e4
  have e5 := f (-9) h5
  rw [show ((-9) : Int32).toInt = (-9) from rfl] at e5
  omega
theorem ts_out3_10 {x : Int32} (h0 : ¬ x = 3) (h1 : ¬ x = 4) (h2 : ¬ x = 5) (h3 : ¬ x = 6) (h4 : ¬ x = 7) (h5 : ¬ x = 8) (h6 : ¬ x = 9) (h7 : ¬ x = 10) (h8 : ¬ x = 11) (h9 : ¬ x = 12) : x.toInt < 3 ∨ 12 < x.toInt := by
  have f : ∀ k : Int32, ¬ x = k → x.toInt ≠ k.toInt := fun k h e => h (Int32.toInt_inj.mp e)
  have e0 := f 3 h0
  rw [show (3 : Int32).toInt = 3 from rfl] at e0
  have e1 := f 4 h1
  rw [show (4 : Int32).toInt = 4 from rfl] at e1
  have e2 := f 5 h2
  rw [show (5 : Int32).toInt = 5 from rfl] at e2
  have e3 := f 6 h3
  rw [show (6 : Int32).toInt = 6 from rfl] at e3
  have e4 := f 7 h4
  rw [show (7 : Int32).toInt = 7 from rfl] at e4
  have e5 := f 8 h5
  rw [show (8 : Int32).toInt = 8 from rfl] at e5
  have e6 := f 9 h6
  rw [show (9 : Int32).toInt = 9 from rfl] at e6
  have e7 := f 10 h7
  rw [show (10 : Int32).toInt = 10 from rfl] at e7
  have e8 := f 11 h8
  rw [show (11 : Int32).toInt = 11 from rfl] at e8
  have e9 := f 12 h9
  rw [show (12 : Int32).toInt = 12 from rfl] at e9
  omega
theorem ts_out5_5 {x : Int32} (h0 : ¬ x = 5) (h1 : ¬ x = 6) (h2 : ¬ x = 7) (h3 : ¬ x = 8) (h4 : ¬ x = 9) : x.toInt < 5 ∨ 9 < x.toInt := by
  have f : ∀ k : Int32, ¬ x = k → x.toInt ≠ k.toInt := fun k h e => h (Int32.toInt_inj.mp e)
  have e0 := f 5 h0
  rw [show (5 : Int32).toInt = 5 from rfl] at e0
  have e1 := f 6 h1
  rw [show (6 : Int32).toInt = 6 from rfl] at e1
  have e2 := f 7 h2
  rw [show (7 : Int32).toInt = 7 from rfl] at e2
  have e3 := f 8 h3
  rw [show (8 : Int32).toInt = 8 from rfl] at e3
  have e4 := f 9 h4
  rw [show (9 : Int32).toInt = 9 from rfl] at e4
  omega
theorem ts_out0_11 {x : Int32} (h0 : ¬ x = 0) (h1 : ¬ x = 1) (h2 : ¬ x = 2) (h3 : ¬ x = 3) (h4 : ¬ x = 4) (h5 : ¬ x = 5) (h6 : ¬ x = 6) (h7 : ¬ x = 7) (h8 : ¬ x = 8) (h9 : ¬ x = 9) (h10 : ¬ x = 10) : x.toInt < 0 ∨ 10 < x.toInt := by
  have f : ∀ k : Int32, ¬ x = k → x.toInt ≠ k.toInt := fun k h e => h (Int32.toInt_inj.mp e)
  have e0 := f 0 h0
  rw [show (0 : Int32).toInt = 0 from rfl] at e0
  have e1 := f 1 h1
  rw [show (1 : Int32).toInt = 1 from rfl] at e1
  have e2 := f 2 h2
  rw [show (2 : Int32).toInt = 2 from rfl] at e2
  have e3 := f 3 h3
  rw [show (3 : Int32).toInt = 3 from rfl] at e3
  have e4 := f 4 h4
  rw [show (4 : Int32).toInt = 4 from rfl] at e4
  have e5 := f 5 h5
  rw [show (5 : Int32).toInt = 5 from rfl] at e5
  have e6 := f 6 h6
  rw [show (6 : Int32).toInt = 6 from rfl] at e6
  have e7 := f 7 h7
  rw [show (7 : Int32).toInt = 7 from rfl] at e7
  have e8 := f 8 h8
  rw [show (8 : Int32).toInt = 8 from rfl] at e8
  have e9 := f 9 h9
  rw [show (9 : Int32).toInt = 9 from rfl] at e9
  have e10 := f 10 h10
  rw [show (10 : Int32).toInt = 10 from rfl] at e10
  omega
theorem ts_out0_10 {x : Int32} (h0 : ¬ x = 0) (h1 : ¬ x = 1) (h2 : ¬ x = 2) (h3 : ¬ x = 3) (h4 : ¬ x = 4) (h5 : ¬ x = 5) (h6 : ¬ x = 6) (h7 : ¬ x = 7) (h8 : ¬ x = 8) (h9 : ¬ x = 9) : x.toInt < 0 ∨ 9 < x.toInt := by
  have f : ∀ k : Int32, ¬ x = k → x.toInt ≠ k.toInt := fun k h e => h (Int32.toInt_inj.mp e)
  have e0 := f 0 h0
  rw [show (0 : Int32).toInt = 0 from rfl] at e0
  have e1 := f 1 h1
  rw [show (1 : Int32).toInt = 1 from rfl] at e1
  have e2 := f 2 h2
  rw [show (2 : Int32).toInt = 2 from rfl] at e2
  have e3 := f 3 h3
  rw [show (3 : Int32).toInt = 3 from rfl] at e3
  have e4 := f 4 h4
  rw [show (4 : Int32).toInt = 4 from rfl] at e4
  have e5 := f 5 h5
  rw [show (5 : Int32).toInt = 5 from rfl] at e5
  have e6 := f 6 h6
  rw [show (6 : Int32).toInt = 6 from rfl] at e6
  have e7 := f 7 h7
  rw [show (7 : Int32).toInt = 7 from rfl] at e7
  have e8 := f 8 h8
  rw [show (8 : Int32).toInt = 8 from rfl] at e8
  have e9 := f 9 h9
  rw [show (9 : Int32).toInt = 9 from rfl] at e9
  omega
theorem ts_out0_12 {x : Int32} (h0 : ¬ x = 0) (h1 : ¬ x = 1) (h2 : ¬ x = 2) (h3 : ¬ x = 3) (h4 : ¬ x = 4) (h5 : ¬ x = 5) (h6 : ¬ x = 6) (h7 : ¬ x = 7) (h8 : ¬ x = 8) (h9 : ¬ x = 9) (h10 : ¬ x = 10) (h11 : ¬ x = 11) : x.toInt < 0 ∨ 11 < x.toInt := by
  have f : ∀ k : Int32, ¬ x = k → x.toInt ≠ k.toInt := fun k h e => h (Int32.toInt_inj.mp e)
  have e0 := f 0 h0
  rw [show (0 : Int32).toInt = 0 from rfl] at e0
  have e1 := f 1 h1
  rw [show (1 : Int32).toInt = 1 from rfl] at e1
  have e2 := f 2 h2
  rw [show (2 : Int32).toInt = 2 from rfl] at e2
  have e3 := f 3 h3
  rw [show (3 : Int32).toInt = 3 from rfl] at e3
  have e4 := f 4 h4
  rw [show (4 : Int32).toInt = 4 from rfl] at e4
  have e5 := f 5 h5
  rw [show (5 : Int32).toInt = 5 from rfl] at e5
  have e6 := f 6 h6
  rw [show (6 : Int32).toInt = 6 from rfl] at e6
  have e7 := f 7 h7
  rw [show (7 : Int32).toInt = 7 from rfl] at e7
  have e8 := f 8 h8
  rw [show (8 : Int32).toInt = 8 from rfl] at e8
  have e9 := f 9 h9
  rw [show (9 : Int32).toInt = 9 from rfl] at e9
  have e10 := f 10 h10
  rw [show (10 : Int32).toInt = 10 from rfl] at e10
  have e11 := f 11 h11
  rw [show (11 : Int32).toInt = 11 from rfl] at e11
  omega
theorem ts_out0_9 {x : Int32} (h0 : ¬ x = 0) (h1 : ¬ x = 1) (h2 : ¬ x = 2) (h3 : ¬ x = 3) (h4 : ¬ x = 4) (h5 : ¬ x = 5) (h6 : ¬ x = 6) (h7 : ¬ x = 7) (h8 : ¬ x = 8) : x.toInt < 0 ∨ 8 < x.toInt := by
  have f : ∀ k : Int32, ¬ x = k → x.toInt ≠ k.toInt := fun k h e => h (Int32.toInt_inj.mp e)
  have e0 := f 0 h0
  rw [show (0 : Int32).toInt = 0 from rfl] at e0
  have e1 := f 1 h1
  rw [show (1 : Int32).toInt = 1 from rfl] at e1
  have e2 := f 2 h2
  rw [show (2 : Int32).toInt = 2 from rfl] at e2
  have e3 := f 3 h3
  rw [show (3 : Int32).toInt = 3 from rfl] at e3
  have e4 := f 4 h4
  rw [show (4 : Int32).toInt = 4 from rfl] at e4
  have e5 := f 5 h5
  rw [show (5 : Int32).toInt = 5 from rfl] at e5
  have e6 := f 6 h6
  rw [show (6 : Int32).toInt = 6 from rfl] at e6
  have e7 := f 7 h7
  rw [show (7 : Int32).toInt = 7 from rfl] at e7
  have e8 := f 8 h8
  rw [show (8 : Int32).toInt = 8 from rfl] at e8
  omega
theorem ts_out0_2 {x : Int32} (h0 : ¬ x = 0) (h1 : ¬ x = 1) : x.toInt < 0 ∨ 1 < x.toInt := by
  have f : ∀ k : Int32, ¬ x = k → x.toInt ≠ k.toInt := fun k h e => h (Int32.toInt_inj.mp e)
  have e0 := f 0 h0
  rw [show (0 : Int32).toInt = 0 from rfl] at e0
  have e1 := f 1 h1
  rw [show (1 : Int32).toInt = 1 from rfl] at e1
  omega
end
