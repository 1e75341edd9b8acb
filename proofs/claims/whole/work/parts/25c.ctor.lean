/-! ===== the constructors, by program ===== -/
abbrev HC_128 : am_Hp := (125, 4017, S_127, I_127, L_127, R_128)
def S_129 : Nat → Nat × Nat := fun i => bif Nat.beq i 125 then (7, 7) else (S_127) i
def I_129 : Nat → Nat → Int32 := uR (I_127) 125 (fun _ => 0)
def L_129 : Nat → Nat → Int64 := uR (L_127) 125 (fun _ => 0)
def R_129 : Nat → Nat → Option Nat := uR (R_128) 125 (fun _ => none)
abbrev HC_129 : am_Hp := (126, 4024, S_129, I_129, L_129, R_129)
def S_130 : Nat → Nat × Nat := fun i => bif Nat.beq i 126 then (100, 8) else (S_129) i
def I_130 : Nat → Nat → Int32 := uR (u2 (u2 (u2 (I_129) 125 0 (-1)) 125 1 (0)) 125 2 (0)) 126 (fun _ => 0)
def L_130 : Nat → Nat → Int64 := uR (L_129) 126 (fun _ => 0)
def R_130 : Nat → Nat → Option Nat := uR (R_129) 126 (fun _ => none)
abbrev HC_130 : am_Hp := (127, 4032, S_130, I_130, L_130, R_130)
def S_131 : Nat → Nat × Nat := fun i => bif Nat.beq i 128 then (100, 4) else (fun i => bif Nat.beq i 127 then (100, 4) else (S_130) i) i
def I_131 : Nat → Nat → Int32 := uR (uR (I_130) 127 (fun _ => 0)) 128 (fun _ => 0)
def L_131 : Nat → Nat → Int64 := uR (uR (L_130) 127 (fun _ => 0)) 128 (fun _ => 0)
def R_131 : Nat → Nat → Option Nat := uR (u2 (uR (u2 (R_130) 125 3 (some 126)) 127 (fun _ => none)) 125 4 (some 127)) 128 (fun _ => none)
abbrev HC_131 : am_Hp := (129, 4040, S_131, I_131, L_131, R_131)
def S_132 : Nat → Nat × Nat := fun i => bif Nat.beq i 129 then (100, 60) else (S_131) i
def I_132 : Nat → Nat → Int32 := uR (I_131) 129 (fun _ => 0)
def L_132 : Nat → Nat → Int64 := uR (L_131) 129 (fun _ => 0)
def R_132 : Nat → Nat → Option Nat := u2 (uR (u2 (R_131) 125 5 (some 128)) 129 (fun _ => none)) 125 6 (some 129)
abbrev HC_132 : am_Hp := (130, 4100, S_132, I_132, L_132, R_132)
set_option maxRecDepth 100000 in
theorem q_30_1 {d : Nat} {Q : am_Q} (h : pW cd_78 (130, 4100) d Q 24 [some (.ref 125)] [(.ref 126), (.ref 125)] HC_130) : pW cd_78 (130, 4100) d Q 0 [some (.ref 125)] [] HC_129 := pW.run (am_in [24]) 15 (And.intro (show ¬ (8 : Int32) < 0 by decide +kernel) (And.intro (show (8 : Int32).toNatClampNeg ≤ 10000 by decide +kernel) (And.intro (by decide +kernel) (And.intro (by decide +kernel) h))))
set_option maxRecDepth 100000 in
theorem q_30_2 {d : Nat} {Q : am_Q} (h : pW cd_78 (130, 4100) d Q 38 [some (.ref 125)] [(.ref 128), (.ref 125)] HC_131) : pW cd_78 (130, 4100) d Q 24 [some (.ref 125)] [(.ref 126), (.ref 125)] HC_130 := pW.run (am_in [38]) 9 (And.intro (show ¬ (4 : Int32) < 0 by decide +kernel) (And.intro (show (4 : Int32).toNatClampNeg ≤ 10000 by decide +kernel) (And.intro (by decide +kernel) (And.intro (by decide +kernel) (And.intro (show ¬ (4 : Int32) < 0 by decide +kernel) (And.intro (show (4 : Int32).toNatClampNeg ≤ 10000 by decide +kernel) (And.intro (by decide +kernel) (And.intro (by decide +kernel) h))))))))
set_option maxRecDepth 100000 in
theorem q_30_3 {d : Nat} {Q : am_Q} (w : Q none HC_132) : pW cd_78 (130, 4100) d Q 38 [some (.ref 125)] [(.ref 128), (.ref 125)] HC_131 := pW.run (am_in []) 7 (And.intro (show ¬ (60 : Int32) < 0 by decide +kernel) (And.intro (show (60 : Int32).toNatClampNeg ≤ 10000 by decide +kernel) (And.intro (by decide +kernel) (And.intro (by decide +kernel) ⟨rfl, rfl, w⟩))))
set_option maxRecDepth 100000 in
theorem ct_30 {d : Nat} {Q : am_Q} (w : Q none HC_132) : am_Spec PR (d + 1) 78 (130, 4100) [(.ref 125)] HC_129 Q := pS.of rfl (q_30_1 (q_30_2 (q_30_3 w)))
def R_133 : Nat → Nat → Option Nat := u2 (R_132) 34 18 (some 125)
abbrev HC_133 : am_Hp := (130, 4100, S_132, I_132, L_132, R_133)
def S_134 : Nat → Nat × Nat := fun i => bif Nat.beq i 130 then (7, 7) else (S_132) i
def I_134 : Nat → Nat → Int32 := uR (I_132) 130 (fun _ => 0)
def L_134 : Nat → Nat → Int64 := uR (L_132) 130 (fun _ => 0)
def R_134 : Nat → Nat → Option Nat := uR (R_133) 130 (fun _ => none)
abbrev HC_134 : am_Hp := (131, 4107, S_134, I_134, L_134, R_134)
def S_135 : Nat → Nat × Nat := fun i => bif Nat.beq i 131 then (100, 8) else (S_134) i
def I_135 : Nat → Nat → Int32 := uR (u2 (u2 (u2 (I_134) 130 0 (-1)) 130 1 (0)) 130 2 (0)) 131 (fun _ => 0)
def L_135 : Nat → Nat → Int64 := uR (L_134) 131 (fun _ => 0)
def R_135 : Nat → Nat → Option Nat := uR (R_134) 131 (fun _ => none)
abbrev HC_135 : am_Hp := (132, 4115, S_135, I_135, L_135, R_135)
def S_136 : Nat → Nat × Nat := fun i => bif Nat.beq i 133 then (100, 4) else (fun i => bif Nat.beq i 132 then (100, 4) else (S_135) i) i
def I_136 : Nat → Nat → Int32 := uR (uR (I_135) 132 (fun _ => 0)) 133 (fun _ => 0)
def L_136 : Nat → Nat → Int64 := uR (uR (L_135) 132 (fun _ => 0)) 133 (fun _ => 0)
def R_136 : Nat → Nat → Option Nat := uR (u2 (uR (u2 (R_135) 130 3 (some 131)) 132 (fun _ => none)) 130 4 (some 132)) 133 (fun _ => none)
abbrev HC_136 : am_Hp := (134, 4123, S_136, I_136, L_136, R_136)
def S_137 : Nat → Nat × Nat := fun i => bif Nat.beq i 134 then (100, 60) else (S_136) i
def I_137 : Nat → Nat → Int32 := uR (I_136) 134 (fun _ => 0)
def L_137 : Nat → Nat → Int64 := uR (L_136) 134 (fun _ => 0)
def R_137 : Nat → Nat → Option Nat := u2 (uR (u2 (R_136) 130 5 (some 133)) 134 (fun _ => none)) 130 6 (some 134)
abbrev HC_137 : am_Hp := (135, 4183, S_137, I_137, L_137, R_137)
set_option maxRecDepth 100000 in
theorem q_31_1 {d : Nat} {Q : am_Q} (h : pW cd_78 (135, 4183) d Q 24 [some (.ref 130)] [(.ref 131), (.ref 130)] HC_135) : pW cd_78 (135, 4183) d Q 0 [some (.ref 130)] [] HC_134 := pW.run (am_in [24]) 15 (And.intro (show ¬ (8 : Int32) < 0 by decide +kernel) (And.intro (show (8 : Int32).toNatClampNeg ≤ 10000 by decide +kernel) (And.intro (by decide +kernel) (And.intro (by decide +kernel) h))))
set_option maxRecDepth 100000 in
theorem q_31_2 {d : Nat} {Q : am_Q} (h : pW cd_78 (135, 4183) d Q 38 [some (.ref 130)] [(.ref 133), (.ref 130)] HC_136) : pW cd_78 (135, 4183) d Q 24 [some (.ref 130)] [(.ref 131), (.ref 130)] HC_135 := pW.run (am_in [38]) 9 (And.intro (show ¬ (4 : Int32) < 0 by decide +kernel) (And.intro (show (4 : Int32).toNatClampNeg ≤ 10000 by decide +kernel) (And.intro (by decide +kernel) (And.intro (by decide +kernel) (And.intro (show ¬ (4 : Int32) < 0 by decide +kernel) (And.intro (show (4 : Int32).toNatClampNeg ≤ 10000 by decide +kernel) (And.intro (by decide +kernel) (And.intro (by decide +kernel) h))))))))
set_option maxRecDepth 100000 in
theorem q_31_3 {d : Nat} {Q : am_Q} (w : Q none HC_137) : pW cd_78 (135, 4183) d Q 38 [some (.ref 130)] [(.ref 133), (.ref 130)] HC_136 := pW.run (am_in []) 7 (And.intro (show ¬ (60 : Int32) < 0 by decide +kernel) (And.intro (show (60 : Int32).toNatClampNeg ≤ 10000 by decide +kernel) (And.intro (by decide +kernel) (And.intro (by decide +kernel) ⟨rfl, rfl, w⟩))))
set_option maxRecDepth 100000 in
theorem ct_31 {d : Nat} {Q : am_Q} (w : Q none HC_137) : am_Spec PR (d + 1) 78 (135, 4183) [(.ref 130)] HC_134 Q := pS.of rfl (q_31_1 (q_31_2 (q_31_3 w)))
def R_138 : Nat → Nat → Option Nat := u2 (R_137) 34 19 (some 130)
abbrev HC_138 : am_Hp := (135, 4183, S_137, I_137, L_137, R_138)
def S_139 : Nat → Nat × Nat := fun i => bif Nat.beq i 135 then (7, 7) else (S_137) i
def I_139 : Nat → Nat → Int32 := uR (I_137) 135 (fun _ => 0)
def L_139 : Nat → Nat → Int64 := uR (L_137) 135 (fun _ => 0)
def R_139 : Nat → Nat → Option Nat := uR (R_138) 135 (fun _ => none)
abbrev HC_139 : am_Hp := (136, 4190, S_139, I_139, L_139, R_139)
def S_140 : Nat → Nat × Nat := fun i => bif Nat.beq i 136 then (100, 8) else (S_139) i
def I_140 : Nat → Nat → Int32 := uR (u2 (u2 (u2 (I_139) 135 0 (-1)) 135 1 (0)) 135 2 (0)) 136 (fun _ => 0)
def L_140 : Nat → Nat → Int64 := uR (L_139) 136 (fun _ => 0)
def R_140 : Nat → Nat → Option Nat := uR (R_139) 136 (fun _ => none)
abbrev HC_140 : am_Hp := (137, 4198, S_140, I_140, L_140, R_140)
def S_141 : Nat → Nat × Nat := fun i => bif Nat.beq i 138 then (100, 4) else (fun i => bif Nat.beq i 137 then (100, 4) else (S_140) i) i
def I_141 : Nat → Nat → Int32 := uR (uR (I_140) 137 (fun _ => 0)) 138 (fun _ => 0)
def L_141 : Nat → Nat → Int64 := uR (uR (L_140) 137 (fun _ => 0)) 138 (fun _ => 0)
def R_141 : Nat → Nat → Option Nat := uR (u2 (uR (u2 (R_140) 135 3 (some 136)) 137 (fun _ => none)) 135 4 (some 137)) 138 (fun _ => none)
abbrev HC_141 : am_Hp := (139, 4206, S_141, I_141, L_141, R_141)
def S_142 : Nat → Nat × Nat := fun i => bif Nat.beq i 139 then (100, 60) else (S_141) i
def I_142 : Nat → Nat → Int32 := uR (I_141) 139 (fun _ => 0)
def L_142 : Nat → Nat → Int64 := uR (L_141) 139 (fun _ => 0)
def R_142 : Nat → Nat → Option Nat := u2 (uR (u2 (R_141) 135 5 (some 138)) 139 (fun _ => none)) 135 6 (some 139)
abbrev HC_142 : am_Hp := (140, 4266, S_142, I_142, L_142, R_142)
set_option maxRecDepth 100000 in
theorem q_32_1 {d : Nat} {Q : am_Q} (h : pW cd_78 (140, 4266) d Q 24 [some (.ref 135)] [(.ref 136), (.ref 135)] HC_140) : pW cd_78 (140, 4266) d Q 0 [some (.ref 135)] [] HC_139 := pW.run (am_in [24]) 15 (And.intro (show ¬ (8 : Int32) < 0 by decide +kernel) (And.intro (show (8 : Int32).toNatClampNeg ≤ 10000 by decide +kernel) (And.intro (by decide +kernel) (And.intro (by decide +kernel) h))))
set_option maxRecDepth 100000 in
theorem q_32_2 {d : Nat} {Q : am_Q} (h : pW cd_78 (140, 4266) d Q 38 [some (.ref 135)] [(.ref 138), (.ref 135)] HC_141) : pW cd_78 (140, 4266) d Q 24 [some (.ref 135)] [(.ref 136), (.ref 135)] HC_140 := pW.run (am_in [38]) 9 (And.intro (show ¬ (4 : Int32) < 0 by decide +kernel) (And.intro (show (4 : Int32).toNatClampNeg ≤ 10000 by decide +kernel) (And.intro (by decide +kernel) (And.intro (by decide +kernel) (And.intro (show ¬ (4 : Int32) < 0 by decide +kernel) (And.intro (show (4 : Int32).toNatClampNeg ≤ 10000 by decide +kernel) (And.intro (by decide +kernel) (And.intro (by decide +kernel) h))))))))
set_option maxRecDepth 100000 in
theorem q_32_3 {d : Nat} {Q : am_Q} (w : Q none HC_142) : pW cd_78 (140, 4266) d Q 38 [some (.ref 135)] [(.ref 138), (.ref 135)] HC_141 := pW.run (am_in []) 7 (And.intro (show ¬ (60 : Int32) < 0 by decide +kernel) (And.intro (show (60 : Int32).toNatClampNeg ≤ 10000 by decide +kernel) (And.intro (by decide +kernel) (And.intro (by decide +kernel) ⟨rfl, rfl, w⟩))))
set_option maxRecDepth 100000 in
theorem ct_32 {d : Nat} {Q : am_Q} (w : Q none HC_142) : am_Spec PR (d + 1) 78 (140, 4266) [(.ref 135)] HC_139 Q := pS.of rfl (q_32_1 (q_32_2 (q_32_3 w)))
def R_143 : Nat → Nat → Option Nat := u2 (R_142) 34 20 (some 135)
abbrev HC_143 : am_Hp := (140, 4266, S_142, I_142, L_142, R_143)
def S_144 : Nat → Nat × Nat := fun i => bif Nat.beq i 140 then (7, 7) else (S_142) i
def I_144 : Nat → Nat → Int32 := uR (I_142) 140 (fun _ => 0)
def L_144 : Nat → Nat → Int64 := uR (L_142) 140 (fun _ => 0)
def R_144 : Nat → Nat → Option Nat := uR (R_143) 140 (fun _ => none)
abbrev HC_144 : am_Hp := (141, 4273, S_144, I_144, L_144, R_144)
def S_145 : Nat → Nat × Nat := fun i => bif Nat.beq i 141 then (100, 8) else (S_144) i
def I_145 : Nat → Nat → Int32 := uR (u2 (u2 (u2 (I_144) 140 0 (-1)) 140 1 (0)) 140 2 (0)) 141 (fun _ => 0)
def L_145 : Nat → Nat → Int64 := uR (L_144) 141 (fun _ => 0)
def R_145 : Nat → Nat → Option Nat := uR (R_144) 141 (fun _ => none)
abbrev HC_145 : am_Hp := (142, 4281, S_145, I_145, L_145, R_145)
def S_146 : Nat → Nat × Nat := fun i => bif Nat.beq i 143 then (100, 4) else (fun i => bif Nat.beq i 142 then (100, 4) else (S_145) i) i
def I_146 : Nat → Nat → Int32 := uR (uR (I_145) 142 (fun _ => 0)) 143 (fun _ => 0)
def L_146 : Nat → Nat → Int64 := uR (uR (L_145) 142 (fun _ => 0)) 143 (fun _ => 0)
def R_146 : Nat → Nat → Option Nat := uR (u2 (uR (u2 (R_145) 140 3 (some 141)) 142 (fun _ => none)) 140 4 (some 142)) 143 (fun _ => none)
abbrev HC_146 : am_Hp := (144, 4289, S_146, I_146, L_146, R_146)
def S_147 : Nat → Nat × Nat := fun i => bif Nat.beq i 144 then (100, 60) else (S_146) i
def I_147 : Nat → Nat → Int32 := uR (I_146) 144 (fun _ => 0)
def L_147 : Nat → Nat → Int64 := uR (L_146) 144 (fun _ => 0)
def R_147 : Nat → Nat → Option Nat := u2 (uR (u2 (R_146) 140 5 (some 143)) 144 (fun _ => none)) 140 6 (some 144)
abbrev HC_147 : am_Hp := (145, 4349, S_147, I_147, L_147, R_147)
set_option maxRecDepth 100000 in
theorem q_33_1 {d : Nat} {Q : am_Q} (h : pW cd_78 (145, 4349) d Q 24 [some (.ref 140)] [(.ref 141), (.ref 140)] HC_145) : pW cd_78 (145, 4349) d Q 0 [some (.ref 140)] [] HC_144 := pW.run (am_in [24]) 15 (And.intro (show ¬ (8 : Int32) < 0 by decide +kernel) (And.intro (show (8 : Int32).toNatClampNeg ≤ 10000 by decide +kernel) (And.intro (by decide +kernel) (And.intro (by decide +kernel) h))))
set_option maxRecDepth 100000 in
theorem q_33_2 {d : Nat} {Q : am_Q} (h : pW cd_78 (145, 4349) d Q 38 [some (.ref 140)] [(.ref 143), (.ref 140)] HC_146) : pW cd_78 (145, 4349) d Q 24 [some (.ref 140)] [(.ref 141), (.ref 140)] HC_145 := pW.run (am_in [38]) 9 (And.intro (show ¬ (4 : Int32) < 0 by decide +kernel) (And.intro (show (4 : Int32).toNatClampNeg ≤ 10000 by decide +kernel) (And.intro (by decide +kernel) (And.intro (by decide +kernel) (And.intro (show ¬ (4 : Int32) < 0 by decide +kernel) (And.intro (show (4 : Int32).toNatClampNeg ≤ 10000 by decide +kernel) (And.intro (by decide +kernel) (And.intro (by decide +kernel) h))))))))
set_option maxRecDepth 100000 in
theorem q_33_3 {d : Nat} {Q : am_Q} (w : Q none HC_147) : pW cd_78 (145, 4349) d Q 38 [some (.ref 140)] [(.ref 143), (.ref 140)] HC_146 := pW.run (am_in []) 7 (And.intro (show ¬ (60 : Int32) < 0 by decide +kernel) (And.intro (show (60 : Int32).toNatClampNeg ≤ 10000 by decide +kernel) (And.intro (by decide +kernel) (And.intro (by decide +kernel) ⟨rfl, rfl, w⟩))))
set_option maxRecDepth 100000 in
theorem ct_33 {d : Nat} {Q : am_Q} (w : Q none HC_147) : am_Spec PR (d + 1) 78 (145, 4349) [(.ref 140)] HC_144 Q := pS.of rfl (q_33_1 (q_33_2 (q_33_3 w)))
def R_148 : Nat → Nat → Option Nat := u2 (R_147) 34 21 (some 140)
abbrev HC_148 : am_Hp := (145, 4349, S_147, I_147, L_147, R_148)
def S_149 : Nat → Nat × Nat := fun i => bif Nat.beq i 145 then (7, 7) else (S_147) i
def I_149 : Nat → Nat → Int32 := uR (I_147) 145 (fun _ => 0)
def L_149 : Nat → Nat → Int64 := uR (L_147) 145 (fun _ => 0)
def R_149 : Nat → Nat → Option Nat := uR (R_148) 145 (fun _ => none)
abbrev HC_149 : am_Hp := (146, 4356, S_149, I_149, L_149, R_149)
def S_150 : Nat → Nat × Nat := fun i => bif Nat.beq i 146 then (100, 8) else (S_149) i
def I_150 : Nat → Nat → Int32 := uR (u2 (u2 (u2 (I_149) 145 0 (-1)) 145 1 (0)) 145 2 (0)) 146 (fun _ => 0)
def L_150 : Nat → Nat → Int64 := uR (L_149) 146 (fun _ => 0)
def R_150 : Nat → Nat → Option Nat := uR (R_149) 146 (fun _ => none)
abbrev HC_150 : am_Hp := (147, 4364, S_150, I_150, L_150, R_150)
def S_151 : Nat → Nat × Nat := fun i => bif Nat.beq i 148 then (100, 4) else (fun i => bif Nat.beq i 147 then (100, 4) else (S_150) i) i
def I_151 : Nat → Nat → Int32 := uR (uR (I_150) 147 (fun _ => 0)) 148 (fun _ => 0)
def L_151 : Nat → Nat → Int64 := uR (uR (L_150) 147 (fun _ => 0)) 148 (fun _ => 0)
def R_151 : Nat → Nat → Option Nat := uR (u2 (uR (u2 (R_150) 145 3 (some 146)) 147 (fun _ => none)) 145 4 (some 147)) 148 (fun _ => none)
abbrev HC_151 : am_Hp := (149, 4372, S_151, I_151, L_151, R_151)
def S_152 : Nat → Nat × Nat := fun i => bif Nat.beq i 149 then (100, 60) else (S_151) i
def I_152 : Nat → Nat → Int32 := uR (I_151) 149 (fun _ => 0)
def L_152 : Nat → Nat → Int64 := uR (L_151) 149 (fun _ => 0)
def R_152 : Nat → Nat → Option Nat := u2 (uR (u2 (R_151) 145 5 (some 148)) 149 (fun _ => none)) 145 6 (some 149)
abbrev HC_152 : am_Hp := (150, 4432, S_152, I_152, L_152, R_152)
set_option maxRecDepth 100000 in
theorem q_34_1 {d : Nat} {Q : am_Q} (h : pW cd_78 (150, 4432) d Q 24 [some (.ref 145)] [(.ref 146), (.ref 145)] HC_150) : pW cd_78 (150, 4432) d Q 0 [some (.ref 145)] [] HC_149 := pW.run (am_in [24]) 15 (And.intro (show ¬ (8 : Int32) < 0 by decide +kernel) (And.intro (show (8 : Int32).toNatClampNeg ≤ 10000 by decide +kernel) (And.intro (by decide +kernel) (And.intro (by decide +kernel) h))))
set_option maxRecDepth 100000 in
theorem q_34_2 {d : Nat} {Q : am_Q} (h : pW cd_78 (150, 4432) d Q 38 [some (.ref 145)] [(.ref 148), (.ref 145)] HC_151) : pW cd_78 (150, 4432) d Q 24 [some (.ref 145)] [(.ref 146), (.ref 145)] HC_150 := pW.run (am_in [38]) 9 (And.intro (show ¬ (4 : Int32) < 0 by decide +kernel) (And.intro (show (4 : Int32).toNatClampNeg ≤ 10000 by decide +kernel) (And.intro (by decide +kernel) (And.intro (by decide +kernel) (And.intro (show ¬ (4 : Int32) < 0 by decide +kernel) (And.intro (show (4 : Int32).toNatClampNeg ≤ 10000 by decide +kernel) (And.intro (by decide +kernel) (And.intro (by decide +kernel) h))))))))
set_option maxRecDepth 100000 in
theorem q_34_3 {d : Nat} {Q : am_Q} (w : Q none HC_152) : pW cd_78 (150, 4432) d Q 38 [some (.ref 145)] [(.ref 148), (.ref 145)] HC_151 := pW.run (am_in []) 7 (And.intro (show ¬ (60 : Int32) < 0 by decide +kernel) (And.intro (show (60 : Int32).toNatClampNeg ≤ 10000 by decide +kernel) (And.intro (by decide +kernel) (And.intro (by decide +kernel) ⟨rfl, rfl, w⟩))))
set_option maxRecDepth 100000 in
theorem ct_34 {d : Nat} {Q : am_Q} (w : Q none HC_152) : am_Spec PR (d + 1) 78 (150, 4432) [(.ref 145)] HC_149 Q := pS.of rfl (q_34_1 (q_34_2 (q_34_3 w)))
def R_153 : Nat → Nat → Option Nat := u2 (R_152) 34 22 (some 145)
abbrev HC_153 : am_Hp := (150, 4432, S_152, I_152, L_152, R_153)
def S_154 : Nat → Nat × Nat := fun i => bif Nat.beq i 150 then (7, 7) else (S_152) i
def I_154 : Nat → Nat → Int32 := uR (I_152) 150 (fun _ => 0)
def L_154 : Nat → Nat → Int64 := uR (L_152) 150 (fun _ => 0)
def R_154 : Nat → Nat → Option Nat := uR (R_153) 150 (fun _ => none)
abbrev HC_154 : am_Hp := (151, 4439, S_154, I_154, L_154, R_154)
def S_155 : Nat → Nat × Nat := fun i => bif Nat.beq i 151 then (100, 8) else (S_154) i
def I_155 : Nat → Nat → Int32 := uR (u2 (u2 (u2 (I_154) 150 0 (-1)) 150 1 (0)) 150 2 (0)) 151 (fun _ => 0)
def L_155 : Nat → Nat → Int64 := uR (L_154) 151 (fun _ => 0)
def R_155 : Nat → Nat → Option Nat := uR (R_154) 151 (fun _ => none)
abbrev HC_155 : am_Hp := (152, 4447, S_155, I_155, L_155, R_155)
def S_156 : Nat → Nat × Nat := fun i => bif Nat.beq i 153 then (100, 4) else (fun i => bif Nat.beq i 152 then (100, 4) else (S_155) i) i
def I_156 : Nat → Nat → Int32 := uR (uR (I_155) 152 (fun _ => 0)) 153 (fun _ => 0)
def L_156 : Nat → Nat → Int64 := uR (uR (L_155) 152 (fun _ => 0)) 153 (fun _ => 0)
def R_156 : Nat → Nat → Option Nat := uR (u2 (uR (u2 (R_155) 150 3 (some 151)) 152 (fun _ => none)) 150 4 (some 152)) 153 (fun _ => none)
abbrev HC_156 : am_Hp := (154, 4455, S_156, I_156, L_156, R_156)
def S_157 : Nat → Nat × Nat := fun i => bif Nat.beq i 154 then (100, 60) else (S_156) i
def I_157 : Nat → Nat → Int32 := uR (I_156) 154 (fun _ => 0)
def L_157 : Nat → Nat → Int64 := uR (L_156) 154 (fun _ => 0)
def R_157 : Nat → Nat → Option Nat := u2 (uR (u2 (R_156) 150 5 (some 153)) 154 (fun _ => none)) 150 6 (some 154)
abbrev HC_157 : am_Hp := (155, 4515, S_157, I_157, L_157, R_157)
set_option maxRecDepth 100000 in
theorem q_35_1 {d : Nat} {Q : am_Q} (h : pW cd_78 (155, 4515) d Q 24 [some (.ref 150)] [(.ref 151), (.ref 150)] HC_155) : pW cd_78 (155, 4515) d Q 0 [some (.ref 150)] [] HC_154 := pW.run (am_in [24]) 15 (And.intro (show ¬ (8 : Int32) < 0 by decide +kernel) (And.intro (show (8 : Int32).toNatClampNeg ≤ 10000 by decide +kernel) (And.intro (by decide +kernel) (And.intro (by decide +kernel) h))))
set_option maxRecDepth 100000 in
theorem q_35_2 {d : Nat} {Q : am_Q} (h : pW cd_78 (155, 4515) d Q 38 [some (.ref 150)] [(.ref 153), (.ref 150)] HC_156) : pW cd_78 (155, 4515) d Q 24 [some (.ref 150)] [(.ref 151), (.ref 150)] HC_155 := pW.run (am_in [38]) 9 (And.intro (show ¬ (4 : Int32) < 0 by decide +kernel) (And.intro (show (4 : Int32).toNatClampNeg ≤ 10000 by decide +kernel) (And.intro (by decide +kernel) (And.intro (by decide +kernel) (And.intro (show ¬ (4 : Int32) < 0 by decide +kernel) (And.intro (show (4 : Int32).toNatClampNeg ≤ 10000 by decide +kernel) (And.intro (by decide +kernel) (And.intro (by decide +kernel) h))))))))
set_option maxRecDepth 100000 in
theorem q_35_3 {d : Nat} {Q : am_Q} (w : Q none HC_157) : pW cd_78 (155, 4515) d Q 38 [some (.ref 150)] [(.ref 153), (.ref 150)] HC_156 := pW.run (am_in []) 7 (And.intro (show ¬ (60 : Int32) < 0 by decide +kernel) (And.intro (show (60 : Int32).toNatClampNeg ≤ 10000 by decide +kernel) (And.intro (by decide +kernel) (And.intro (by decide +kernel) ⟨rfl, rfl, w⟩))))
set_option maxRecDepth 100000 in
theorem ct_35 {d : Nat} {Q : am_Q} (w : Q none HC_157) : am_Spec PR (d + 1) 78 (155, 4515) [(.ref 150)] HC_154 Q := pS.of rfl (q_35_1 (q_35_2 (q_35_3 w)))
def R_158 : Nat → Nat → Option Nat := u2 (R_157) 34 23 (some 150)
abbrev HC_158 : am_Hp := (155, 4515, S_157, I_157, L_157, R_158)
def S_159 : Nat → Nat × Nat := fun i => bif Nat.beq i 155 then (7, 7) else (S_157) i
def I_159 : Nat → Nat → Int32 := uR (I_157) 155 (fun _ => 0)
def L_159 : Nat → Nat → Int64 := uR (L_157) 155 (fun _ => 0)
def R_159 : Nat → Nat → Option Nat := uR (R_158) 155 (fun _ => none)
abbrev HC_159 : am_Hp := (156, 4522, S_159, I_159, L_159, R_159)
def S_160 : Nat → Nat × Nat := fun i => bif Nat.beq i 156 then (100, 8) else (S_159) i
def I_160 : Nat → Nat → Int32 := uR (u2 (u2 (u2 (I_159) 155 0 (-1)) 155 1 (0)) 155 2 (0)) 156 (fun _ => 0)
def L_160 : Nat → Nat → Int64 := uR (L_159) 156 (fun _ => 0)
def R_160 : Nat → Nat → Option Nat := uR (R_159) 156 (fun _ => none)
abbrev HC_160 : am_Hp := (157, 4530, S_160, I_160, L_160, R_160)
def S_161 : Nat → Nat × Nat := fun i => bif Nat.beq i 158 then (100, 4) else (fun i => bif Nat.beq i 157 then (100, 4) else (S_160) i) i
def I_161 : Nat → Nat → Int32 := uR (uR (I_160) 157 (fun _ => 0)) 158 (fun _ => 0)
def L_161 : Nat → Nat → Int64 := uR (uR (L_160) 157 (fun _ => 0)) 158 (fun _ => 0)
def R_161 : Nat → Nat → Option Nat := uR (u2 (uR (u2 (R_160) 155 3 (some 156)) 157 (fun _ => none)) 155 4 (some 157)) 158 (fun _ => none)
abbrev HC_161 : am_Hp := (159, 4538, S_161, I_161, L_161, R_161)
def S_162 : Nat → Nat × Nat := fun i => bif Nat.beq i 159 then (100, 60) else (S_161) i
def I_162 : Nat → Nat → Int32 := uR (I_161) 159 (fun _ => 0)
def L_162 : Nat → Nat → Int64 := uR (L_161) 159 (fun _ => 0)
def R_162 : Nat → Nat → Option Nat := u2 (uR (u2 (R_161) 155 5 (some 158)) 159 (fun _ => none)) 155 6 (some 159)
abbrev HC_162 : am_Hp := (160, 4598, S_162, I_162, L_162, R_162)
set_option maxRecDepth 100000 in
theorem q_36_1 {d : Nat} {Q : am_Q} (h : pW cd_78 (160, 4598) d Q 24 [some (.ref 155)] [(.ref 156), (.ref 155)] HC_160) : pW cd_78 (160, 4598) d Q 0 [some (.ref 155)] [] HC_159 := pW.run (am_in [24]) 15 (And.intro (show ¬ (8 : Int32) < 0 by decide +kernel) (And.intro (show (8 : Int32).toNatClampNeg ≤ 10000 by decide +kernel) (And.intro (by decide +kernel) (And.intro (by decide +kernel) h))))
set_option maxRecDepth 100000 in
theorem q_36_2 {d : Nat} {Q : am_Q} (h : pW cd_78 (160, 4598) d Q 38 [some (.ref 155)] [(.ref 158), (.ref 155)] HC_161) : pW cd_78 (160, 4598) d Q 24 [some (.ref 155)] [(.ref 156), (.ref 155)] HC_160 := pW.run (am_in [38]) 9 (And.intro (show ¬ (4 : Int32) < 0 by decide +kernel) (And.intro (show (4 : Int32).toNatClampNeg ≤ 10000 by decide +kernel) (And.intro (by decide +kernel) (And.intro (by decide +kernel) (And.intro (show ¬ (4 : Int32) < 0 by decide +kernel) (And.intro (show (4 : Int32).toNatClampNeg ≤ 10000 by decide +kernel) (And.intro (by decide +kernel) (And.intro (by decide +kernel) h))))))))
set_option maxRecDepth 100000 in
theorem q_36_3 {d : Nat} {Q : am_Q} (w : Q none HC_162) : pW cd_78 (160, 4598) d Q 38 [some (.ref 155)] [(.ref 158), (.ref 155)] HC_161 := pW.run (am_in []) 7 (And.intro (show ¬ (60 : Int32) < 0 by decide +kernel) (And.intro (show (60 : Int32).toNatClampNeg ≤ 10000 by decide +kernel) (And.intro (by decide +kernel) (And.intro (by decide +kernel) ⟨rfl, rfl, w⟩))))
set_option maxRecDepth 100000 in
theorem ct_36 {d : Nat} {Q : am_Q} (w : Q none HC_162) : am_Spec PR (d + 1) 78 (160, 4598) [(.ref 155)] HC_159 Q := pS.of rfl (q_36_1 (q_36_2 (q_36_3 w)))
def R_163 : Nat → Nat → Option Nat := u2 (R_162) 34 24 (some 155)
abbrev HC_163 : am_Hp := (160, 4598, S_162, I_162, L_162, R_163)
def S_164 : Nat → Nat × Nat := fun i => bif Nat.beq i 160 then (7, 7) else (S_162) i
def I_164 : Nat → Nat → Int32 := uR (I_162) 160 (fun _ => 0)
def L_164 : Nat → Nat → Int64 := uR (L_162) 160 (fun _ => 0)
def R_164 : Nat → Nat → Option Nat := uR (R_163) 160 (fun _ => none)
abbrev HC_164 : am_Hp := (161, 4605, S_164, I_164, L_164, R_164)
def S_165 : Nat → Nat × Nat := fun i => bif Nat.beq i 161 then (100, 8) else (S_164) i
def I_165 : Nat → Nat → Int32 := uR (u2 (u2 (u2 (I_164) 160 0 (-1)) 160 1 (0)) 160 2 (0)) 161 (fun _ => 0)
def L_165 : Nat → Nat → Int64 := uR (L_164) 161 (fun _ => 0)
def R_165 : Nat → Nat → Option Nat := uR (R_164) 161 (fun _ => none)
abbrev HC_165 : am_Hp := (162, 4613, S_165, I_165, L_165, R_165)
def S_166 : Nat → Nat × Nat := fun i => bif Nat.beq i 163 then (100, 4) else (fun i => bif Nat.beq i 162 then (100, 4) else (S_165) i) i
def I_166 : Nat → Nat → Int32 := uR (uR (I_165) 162 (fun _ => 0)) 163 (fun _ => 0)
def L_166 : Nat → Nat → Int64 := uR (uR (L_165) 162 (fun _ => 0)) 163 (fun _ => 0)
def R_166 : Nat → Nat → Option Nat := uR (u2 (uR (u2 (R_165) 160 3 (some 161)) 162 (fun _ => none)) 160 4 (some 162)) 163 (fun _ => none)
abbrev HC_166 : am_Hp := (164, 4621, S_166, I_166, L_166, R_166)
def S_167 : Nat → Nat × Nat := fun i => bif Nat.beq i 164 then (100, 60) else (S_166) i
def I_167 : Nat → Nat → Int32 := uR (I_166) 164 (fun _ => 0)
def L_167 : Nat → Nat → Int64 := uR (L_166) 164 (fun _ => 0)
def R_167 : Nat → Nat → Option Nat := u2 (uR (u2 (R_166) 160 5 (some 163)) 164 (fun _ => none)) 160 6 (some 164)
abbrev HC_167 : am_Hp := (165, 4681, S_167, I_167, L_167, R_167)
set_option maxRecDepth 100000 in
theorem q_37_1 {d : Nat} {Q : am_Q} (h : pW cd_78 (165, 4681) d Q 24 [some (.ref 160)] [(.ref 161), (.ref 160)] HC_165) : pW cd_78 (165, 4681) d Q 0 [some (.ref 160)] [] HC_164 := pW.run (am_in [24]) 15 (And.intro (show ¬ (8 : Int32) < 0 by decide +kernel) (And.intro (show (8 : Int32).toNatClampNeg ≤ 10000 by decide +kernel) (And.intro (by decide +kernel) (And.intro (by decide +kernel) h))))
set_option maxRecDepth 100000 in
theorem q_37_2 {d : Nat} {Q : am_Q} (h : pW cd_78 (165, 4681) d Q 38 [some (.ref 160)] [(.ref 163), (.ref 160)] HC_166) : pW cd_78 (165, 4681) d Q 24 [some (.ref 160)] [(.ref 161), (.ref 160)] HC_165 := pW.run (am_in [38]) 9 (And.intro (show ¬ (4 : Int32) < 0 by decide +kernel) (And.intro (show (4 : Int32).toNatClampNeg ≤ 10000 by decide +kernel) (And.intro (by decide +kernel) (And.intro (by decide +kernel) (And.intro (show ¬ (4 : Int32) < 0 by decide +kernel) (And.intro (show (4 : Int32).toNatClampNeg ≤ 10000 by decide +kernel) (And.intro (by decide +kernel) (And.intro (by decide +kernel) h))))))))
set_option maxRecDepth 100000 in
theorem q_37_3 {d : Nat} {Q : am_Q} (w : Q none HC_167) : pW cd_78 (165, 4681) d Q 38 [some (.ref 160)] [(.ref 163), (.ref 160)] HC_166 := pW.run (am_in []) 7 (And.intro (show ¬ (60 : Int32) < 0 by decide +kernel) (And.intro (show (60 : Int32).toNatClampNeg ≤ 10000 by decide +kernel) (And.intro (by decide +kernel) (And.intro (by decide +kernel) ⟨rfl, rfl, w⟩))))
set_option maxRecDepth 100000 in
theorem ct_37 {d : Nat} {Q : am_Q} (w : Q none HC_167) : am_Spec PR (d + 1) 78 (165, 4681) [(.ref 160)] HC_164 Q := pS.of rfl (q_37_1 (q_37_2 (q_37_3 w)))
def R_168 : Nat → Nat → Option Nat := u2 (R_167) 34 25 (some 160)
abbrev HC_168 : am_Hp := (165, 4681, S_167, I_167, L_167, R_168)
def S_169 : Nat → Nat × Nat := fun i => bif Nat.beq i 165 then (7, 7) else (S_167) i
def I_169 : Nat → Nat → Int32 := uR (I_167) 165 (fun _ => 0)
def L_169 : Nat → Nat → Int64 := uR (L_167) 165 (fun _ => 0)
def R_169 : Nat → Nat → Option Nat := uR (R_168) 165 (fun _ => none)
abbrev HC_169 : am_Hp := (166, 4688, S_169, I_169, L_169, R_169)
def S_170 : Nat → Nat × Nat := fun i => bif Nat.beq i 166 then (100, 8) else (S_169) i
def I_170 : Nat → Nat → Int32 := uR (u2 (u2 (u2 (I_169) 165 0 (-1)) 165 1 (0)) 165 2 (0)) 166 (fun _ => 0)
def L_170 : Nat → Nat → Int64 := uR (L_169) 166 (fun _ => 0)
def R_170 : Nat → Nat → Option Nat := uR (R_169) 166 (fun _ => none)
abbrev HC_170 : am_Hp := (167, 4696, S_170, I_170, L_170, R_170)
def S_171 : Nat → Nat × Nat := fun i => bif Nat.beq i 168 then (100, 4) else (fun i => bif Nat.beq i 167 then (100, 4) else (S_170) i) i
def I_171 : Nat → Nat → Int32 := uR (uR (I_170) 167 (fun _ => 0)) 168 (fun _ => 0)
def L_171 : Nat → Nat → Int64 := uR (uR (L_170) 167 (fun _ => 0)) 168 (fun _ => 0)
def R_171 : Nat → Nat → Option Nat := uR (u2 (uR (u2 (R_170) 165 3 (some 166)) 167 (fun _ => none)) 165 4 (some 167)) 168 (fun _ => none)
abbrev HC_171 : am_Hp := (169, 4704, S_171, I_171, L_171, R_171)
def S_172 : Nat → Nat × Nat := fun i => bif Nat.beq i 169 then (100, 60) else (S_171) i
def I_172 : Nat → Nat → Int32 := uR (I_171) 169 (fun _ => 0)
def L_172 : Nat → Nat → Int64 := uR (L_171) 169 (fun _ => 0)
def R_172 : Nat → Nat → Option Nat := u2 (uR (u2 (R_171) 165 5 (some 168)) 169 (fun _ => none)) 165 6 (some 169)
abbrev HC_172 : am_Hp := (170, 4764, S_172, I_172, L_172, R_172)
set_option maxRecDepth 100000 in
theorem q_38_1 {d : Nat} {Q : am_Q} (h : pW cd_78 (170, 4764) d Q 24 [some (.ref 165)] [(.ref 166), (.ref 165)] HC_170) : pW cd_78 (170, 4764) d Q 0 [some (.ref 165)] [] HC_169 := pW.run (am_in [24]) 15 (And.intro (show ¬ (8 : Int32) < 0 by decide +kernel) (And.intro (show (8 : Int32).toNatClampNeg ≤ 10000 by decide +kernel) (And.intro (by decide +kernel) (And.intro (by decide +kernel) h))))
set_option maxRecDepth 100000 in
theorem q_38_2 {d : Nat} {Q : am_Q} (h : pW cd_78 (170, 4764) d Q 38 [some (.ref 165)] [(.ref 168), (.ref 165)] HC_171) : pW cd_78 (170, 4764) d Q 24 [some (.ref 165)] [(.ref 166), (.ref 165)] HC_170 := pW.run (am_in [38]) 9 (And.intro (show ¬ (4 : Int32) < 0 by decide +kernel) (And.intro (show (4 : Int32).toNatClampNeg ≤ 10000 by decide +kernel) (And.intro (by decide +kernel) (And.intro (by decide +kernel) (And.intro (show ¬ (4 : Int32) < 0 by decide +kernel) (And.intro (show (4 : Int32).toNatClampNeg ≤ 10000 by decide +kernel) (And.intro (by decide +kernel) (And.intro (by decide +kernel) h))))))))
set_option maxRecDepth 100000 in
theorem q_38_3 {d : Nat} {Q : am_Q} (w : Q none HC_172) : pW cd_78 (170, 4764) d Q 38 [some (.ref 165)] [(.ref 168), (.ref 165)] HC_171 := pW.run (am_in []) 7 (And.intro (show ¬ (60 : Int32) < 0 by decide +kernel) (And.intro (show (60 : Int32).toNatClampNeg ≤ 10000 by decide +kernel) (And.intro (by decide +kernel) (And.intro (by decide +kernel) ⟨rfl, rfl, w⟩))))
set_option maxRecDepth 100000 in
theorem ct_38 {d : Nat} {Q : am_Q} (w : Q none HC_172) : am_Spec PR (d + 1) 78 (170, 4764) [(.ref 165)] HC_169 Q := pS.of rfl (q_38_1 (q_38_2 (q_38_3 w)))
def R_173 : Nat → Nat → Option Nat := u2 (R_172) 34 26 (some 165)
abbrev HC_173 : am_Hp := (170, 4764, S_172, I_172, L_172, R_173)
def S_174 : Nat → Nat × Nat := fun i => bif Nat.beq i 170 then (7, 7) else (S_172) i
def I_174 : Nat → Nat → Int32 := uR (I_172) 170 (fun _ => 0)
def L_174 : Nat → Nat → Int64 := uR (L_172) 170 (fun _ => 0)
def R_174 : Nat → Nat → Option Nat := uR (R_173) 170 (fun _ => none)
abbrev HC_174 : am_Hp := (171, 4771, S_174, I_174, L_174, R_174)
def S_175 : Nat → Nat × Nat := fun i => bif Nat.beq i 171 then (100, 8) else (S_174) i
def I_175 : Nat → Nat → Int32 := uR (u2 (u2 (u2 (I_174) 170 0 (-1)) 170 1 (0)) 170 2 (0)) 171 (fun _ => 0)
def L_175 : Nat → Nat → Int64 := uR (L_174) 171 (fun _ => 0)
def R_175 : Nat → Nat → Option Nat := uR (R_174) 171 (fun _ => none)
abbrev HC_175 : am_Hp := (172, 4779, S_175, I_175, L_175, R_175)
def S_176 : Nat → Nat × Nat := fun i => bif Nat.beq i 173 then (100, 4) else (fun i => bif Nat.beq i 172 then (100, 4) else (S_175) i) i
def I_176 : Nat → Nat → Int32 := uR (uR (I_175) 172 (fun _ => 0)) 173 (fun _ => 0)
def L_176 : Nat → Nat → Int64 := uR (uR (L_175) 172 (fun _ => 0)) 173 (fun _ => 0)
def R_176 : Nat → Nat → Option Nat := uR (u2 (uR (u2 (R_175) 170 3 (some 171)) 172 (fun _ => none)) 170 4 (some 172)) 173 (fun _ => none)
abbrev HC_176 : am_Hp := (174, 4787, S_176, I_176, L_176, R_176)
def S_177 : Nat → Nat × Nat := fun i => bif Nat.beq i 174 then (100, 60) else (S_176) i
def I_177 : Nat → Nat → Int32 := uR (I_176) 174 (fun _ => 0)
def L_177 : Nat → Nat → Int64 := uR (L_176) 174 (fun _ => 0)
def R_177 : Nat → Nat → Option Nat := u2 (uR (u2 (R_176) 170 5 (some 173)) 174 (fun _ => none)) 170 6 (some 174)
abbrev HC_177 : am_Hp := (175, 4847, S_177, I_177, L_177, R_177)
set_option maxRecDepth 100000 in
theorem q_39_1 {d : Nat} {Q : am_Q} (h : pW cd_78 (175, 4847) d Q 24 [some (.ref 170)] [(.ref 171), (.ref 170)] HC_175) : pW cd_78 (175, 4847) d Q 0 [some (.ref 170)] [] HC_174 := pW.run (am_in [24]) 15 (And.intro (show ¬ (8 : Int32) < 0 by decide +kernel) (And.intro (show (8 : Int32).toNatClampNeg ≤ 10000 by decide +kernel) (And.intro (by decide +kernel) (And.intro (by decide +kernel) h))))
set_option maxRecDepth 100000 in
theorem q_39_2 {d : Nat} {Q : am_Q} (h : pW cd_78 (175, 4847) d Q 38 [some (.ref 170)] [(.ref 173), (.ref 170)] HC_176) : pW cd_78 (175, 4847) d Q 24 [some (.ref 170)] [(.ref 171), (.ref 170)] HC_175 := pW.run (am_in [38]) 9 (And.intro (show ¬ (4 : Int32) < 0 by decide +kernel) (And.intro (show (4 : Int32).toNatClampNeg ≤ 10000 by decide +kernel) (And.intro (by decide +kernel) (And.intro (by decide +kernel) (And.intro (show ¬ (4 : Int32) < 0 by decide +kernel) (And.intro (show (4 : Int32).toNatClampNeg ≤ 10000 by decide +kernel) (And.intro (by decide +kernel) (And.intro (by decide +kernel) h))))))))
set_option maxRecDepth 100000 in
theorem q_39_3 {d : Nat} {Q : am_Q} (w : Q none HC_177) : pW cd_78 (175, 4847) d Q 38 [some (.ref 170)] [(.ref 173), (.ref 170)] HC_176 := pW.run (am_in []) 7 (And.intro (show ¬ (60 : Int32) < 0 by decide +kernel) (And.intro (show (60 : Int32).toNatClampNeg ≤ 10000 by decide +kernel) (And.intro (by decide +kernel) (And.intro (by decide +kernel) ⟨rfl, rfl, w⟩))))
set_option maxRecDepth 100000 in
theorem ct_39 {d : Nat} {Q : am_Q} (w : Q none HC_177) : am_Spec PR (d + 1) 78 (175, 4847) [(.ref 170)] HC_174 Q := pS.of rfl (q_39_1 (q_39_2 (q_39_3 w)))
def R_178 : Nat → Nat → Option Nat := u2 (R_177) 34 27 (some 170)
abbrev HC_178 : am_Hp := (175, 4847, S_177, I_177, L_177, R_178)
def S_179 : Nat → Nat × Nat := fun i => bif Nat.beq i 175 then (7, 7) else (S_177) i
def I_179 : Nat → Nat → Int32 := uR (I_177) 175 (fun _ => 0)
def L_179 : Nat → Nat → Int64 := uR (L_177) 175 (fun _ => 0)
def R_179 : Nat → Nat → Option Nat := uR (R_178) 175 (fun _ => none)
abbrev HC_179 : am_Hp := (176, 4854, S_179, I_179, L_179, R_179)
def S_180 : Nat → Nat × Nat := fun i => bif Nat.beq i 176 then (100, 8) else (S_179) i
def I_180 : Nat → Nat → Int32 := uR (u2 (u2 (u2 (I_179) 175 0 (-1)) 175 1 (0)) 175 2 (0)) 176 (fun _ => 0)
def L_180 : Nat → Nat → Int64 := uR (L_179) 176 (fun _ => 0)
def R_180 : Nat → Nat → Option Nat := uR (R_179) 176 (fun _ => none)
abbrev HC_180 : am_Hp := (177, 4862, S_180, I_180, L_180, R_180)
def S_181 : Nat → Nat × Nat := fun i => bif Nat.beq i 178 then (100, 4) else (fun i => bif Nat.beq i 177 then (100, 4) else (S_180) i) i
def I_181 : Nat → Nat → Int32 := uR (uR (I_180) 177 (fun _ => 0)) 178 (fun _ => 0)
def L_181 : Nat → Nat → Int64 := uR (uR (L_180) 177 (fun _ => 0)) 178 (fun _ => 0)
def R_181 : Nat → Nat → Option Nat := uR (u2 (uR (u2 (R_180) 175 3 (some 176)) 177 (fun _ => none)) 175 4 (some 177)) 178 (fun _ => none)
abbrev HC_181 : am_Hp := (179, 4870, S_181, I_181, L_181, R_181)
def S_182 : Nat → Nat × Nat := fun i => bif Nat.beq i 179 then (100, 60) else (S_181) i
def I_182 : Nat → Nat → Int32 := uR (I_181) 179 (fun _ => 0)
def L_182 : Nat → Nat → Int64 := uR (L_181) 179 (fun _ => 0)
def R_182 : Nat → Nat → Option Nat := u2 (uR (u2 (R_181) 175 5 (some 178)) 179 (fun _ => none)) 175 6 (some 179)
abbrev HC_182 : am_Hp := (180, 4930, S_182, I_182, L_182, R_182)
set_option maxRecDepth 100000 in
theorem q_40_1 {d : Nat} {Q : am_Q} (h : pW cd_78 (180, 4930) d Q 24 [some (.ref 175)] [(.ref 176), (.ref 175)] HC_180) : pW cd_78 (180, 4930) d Q 0 [some (.ref 175)] [] HC_179 := pW.run (am_in [24]) 15 (And.intro (show ¬ (8 : Int32) < 0 by decide +kernel) (And.intro (show (8 : Int32).toNatClampNeg ≤ 10000 by decide +kernel) (And.intro (by decide +kernel) (And.intro (by decide +kernel) h))))
set_option maxRecDepth 100000 in
theorem q_40_2 {d : Nat} {Q : am_Q} (h : pW cd_78 (180, 4930) d Q 38 [some (.ref 175)] [(.ref 178), (.ref 175)] HC_181) : pW cd_78 (180, 4930) d Q 24 [some (.ref 175)] [(.ref 176), (.ref 175)] HC_180 := pW.run (am_in [38]) 9 (And.intro (show ¬ (4 : Int32) < 0 by decide +kernel) (And.intro (show (4 : Int32).toNatClampNeg ≤ 10000 by decide +kernel) (And.intro (by decide +kernel) (And.intro (by decide +kernel) (And.intro (show ¬ (4 : Int32) < 0 by decide +kernel) (And.intro (show (4 : Int32).toNatClampNeg ≤ 10000 by decide +kernel) (And.intro (by decide +kernel) (And.intro (by decide +kernel) h))))))))
set_option maxRecDepth 100000 in
theorem q_40_3 {d : Nat} {Q : am_Q} (w : Q none HC_182) : pW cd_78 (180, 4930) d Q 38 [some (.ref 175)] [(.ref 178), (.ref 175)] HC_181 := pW.run (am_in []) 7 (And.intro (show ¬ (60 : Int32) < 0 by decide +kernel) (And.intro (show (60 : Int32).toNatClampNeg ≤ 10000 by decide +kernel) (And.intro (by decide +kernel) (And.intro (by decide +kernel) ⟨rfl, rfl, w⟩))))
set_option maxRecDepth 100000 in
theorem ct_40 {d : Nat} {Q : am_Q} (w : Q none HC_182) : am_Spec PR (d + 1) 78 (180, 4930) [(.ref 175)] HC_179 Q := pS.of rfl (q_40_1 (q_40_2 (q_40_3 w)))
def R_183 : Nat → Nat → Option Nat := u2 (R_182) 34 28 (some 175)
abbrev HC_183 : am_Hp := (180, 4930, S_182, I_182, L_182, R_183)
def S_184 : Nat → Nat × Nat := fun i => bif Nat.beq i 180 then (7, 7) else (S_182) i
def I_184 : Nat → Nat → Int32 := uR (I_182) 180 (fun _ => 0)
def L_184 : Nat → Nat → Int64 := uR (L_182) 180 (fun _ => 0)
def R_184 : Nat → Nat → Option Nat := uR (R_183) 180 (fun _ => none)
abbrev HC_184 : am_Hp := (181, 4937, S_184, I_184, L_184, R_184)
def S_185 : Nat → Nat × Nat := fun i => bif Nat.beq i 181 then (100, 8) else (S_184) i
def I_185 : Nat → Nat → Int32 := uR (u2 (u2 (u2 (I_184) 180 0 (-1)) 180 1 (0)) 180 2 (0)) 181 (fun _ => 0)
def L_185 : Nat → Nat → Int64 := uR (L_184) 181 (fun _ => 0)
def R_185 : Nat → Nat → Option Nat := uR (R_184) 181 (fun _ => none)
abbrev HC_185 : am_Hp := (182, 4945, S_185, I_185, L_185, R_185)
def S_186 : Nat → Nat × Nat := fun i => bif Nat.beq i 183 then (100, 4) else (fun i => bif Nat.beq i 182 then (100, 4) else (S_185) i) i
def I_186 : Nat → Nat → Int32 := uR (uR (I_185) 182 (fun _ => 0)) 183 (fun _ => 0)
def L_186 : Nat → Nat → Int64 := uR (uR (L_185) 182 (fun _ => 0)) 183 (fun _ => 0)
def R_186 : Nat → Nat → Option Nat := uR (u2 (uR (u2 (R_185) 180 3 (some 181)) 182 (fun _ => none)) 180 4 (some 182)) 183 (fun _ => none)
abbrev HC_186 : am_Hp := (184, 4953, S_186, I_186, L_186, R_186)
def S_187 : Nat → Nat × Nat := fun i => bif Nat.beq i 184 then (100, 60) else (S_186) i
def I_187 : Nat → Nat → Int32 := uR (I_186) 184 (fun _ => 0)
def L_187 : Nat → Nat → Int64 := uR (L_186) 184 (fun _ => 0)
def R_187 : Nat → Nat → Option Nat := u2 (uR (u2 (R_186) 180 5 (some 183)) 184 (fun _ => none)) 180 6 (some 184)
abbrev HC_187 : am_Hp := (185, 5013, S_187, I_187, L_187, R_187)
set_option maxRecDepth 100000 in
theorem q_41_1 {d : Nat} {Q : am_Q} (h : pW cd_78 (185, 5013) d Q 24 [some (.ref 180)] [(.ref 181), (.ref 180)] HC_185) : pW cd_78 (185, 5013) d Q 0 [some (.ref 180)] [] HC_184 := pW.run (am_in [24]) 15 (And.intro (show ¬ (8 : Int32) < 0 by decide +kernel) (And.intro (show (8 : Int32).toNatClampNeg ≤ 10000 by decide +kernel) (And.intro (by decide +kernel) (And.intro (by decide +kernel) h))))
set_option maxRecDepth 100000 in
theorem q_41_2 {d : Nat} {Q : am_Q} (h : pW cd_78 (185, 5013) d Q 38 [some (.ref 180)] [(.ref 183), (.ref 180)] HC_186) : pW cd_78 (185, 5013) d Q 24 [some (.ref 180)] [(.ref 181), (.ref 180)] HC_185 := pW.run (am_in [38]) 9 (And.intro (show ¬ (4 : Int32) < 0 by decide +kernel) (And.intro (show (4 : Int32).toNatClampNeg ≤ 10000 by decide +kernel) (And.intro (by decide +kernel) (And.intro (by decide +kernel) (And.intro (show ¬ (4 : Int32) < 0 by decide +kernel) (And.intro (show (4 : Int32).toNatClampNeg ≤ 10000 by decide +kernel) (And.intro (by decide +kernel) (And.intro (by decide +kernel) h))))))))
set_option maxRecDepth 100000 in
theorem q_41_3 {d : Nat} {Q : am_Q} (w : Q none HC_187) : pW cd_78 (185, 5013) d Q 38 [some (.ref 180)] [(.ref 183), (.ref 180)] HC_186 := pW.run (am_in []) 7 (And.intro (show ¬ (60 : Int32) < 0 by decide +kernel) (And.intro (show (60 : Int32).toNatClampNeg ≤ 10000 by decide +kernel) (And.intro (by decide +kernel) (And.intro (by decide +kernel) ⟨rfl, rfl, w⟩))))
set_option maxRecDepth 100000 in
theorem ct_41 {d : Nat} {Q : am_Q} (w : Q none HC_187) : am_Spec PR (d + 1) 78 (185, 5013) [(.ref 180)] HC_184 Q := pS.of rfl (q_41_1 (q_41_2 (q_41_3 w)))
def R_188 : Nat → Nat → Option Nat := u2 (R_187) 34 29 (some 180)
abbrev HC_188 : am_Hp := (185, 5013, S_187, I_187, L_187, R_188)
def S_189 : Nat → Nat × Nat := fun i => bif Nat.beq i 185 then (7, 7) else (S_187) i
def I_189 : Nat → Nat → Int32 := uR (I_187) 185 (fun _ => 0)
def L_189 : Nat → Nat → Int64 := uR (L_187) 185 (fun _ => 0)
def R_189 : Nat → Nat → Option Nat := uR (R_188) 185 (fun _ => none)
abbrev HC_189 : am_Hp := (186, 5020, S_189, I_189, L_189, R_189)
def S_190 : Nat → Nat × Nat := fun i => bif Nat.beq i 186 then (100, 8) else (S_189) i
def I_190 : Nat → Nat → Int32 := uR (u2 (u2 (u2 (I_189) 185 0 (-1)) 185 1 (0)) 185 2 (0)) 186 (fun _ => 0)
def L_190 : Nat → Nat → Int64 := uR (L_189) 186 (fun _ => 0)
def R_190 : Nat → Nat → Option Nat := uR (R_189) 186 (fun _ => none)
abbrev HC_190 : am_Hp := (187, 5028, S_190, I_190, L_190, R_190)
def S_191 : Nat → Nat × Nat := fun i => bif Nat.beq i 188 then (100, 4) else (fun i => bif Nat.beq i 187 then (100, 4) else (S_190) i) i
def I_191 : Nat → Nat → Int32 := uR (uR (I_190) 187 (fun _ => 0)) 188 (fun _ => 0)
def L_191 : Nat → Nat → Int64 := uR (uR (L_190) 187 (fun _ => 0)) 188 (fun _ => 0)
def R_191 : Nat → Nat → Option Nat := uR (u2 (uR (u2 (R_190) 185 3 (some 186)) 187 (fun _ => none)) 185 4 (some 187)) 188 (fun _ => none)
abbrev HC_191 : am_Hp := (189, 5036, S_191, I_191, L_191, R_191)
def S_192 : Nat → Nat × Nat := fun i => bif Nat.beq i 189 then (100, 60) else (S_191) i
def I_192 : Nat → Nat → Int32 := uR (I_191) 189 (fun _ => 0)
def L_192 : Nat → Nat → Int64 := uR (L_191) 189 (fun _ => 0)
def R_192 : Nat → Nat → Option Nat := u2 (uR (u2 (R_191) 185 5 (some 188)) 189 (fun _ => none)) 185 6 (some 189)
abbrev HC_192 : am_Hp := (190, 5096, S_192, I_192, L_192, R_192)
set_option maxRecDepth 100000 in
theorem q_42_1 {d : Nat} {Q : am_Q} (h : pW cd_78 (190, 5096) d Q 24 [some (.ref 185)] [(.ref 186), (.ref 185)] HC_190) : pW cd_78 (190, 5096) d Q 0 [some (.ref 185)] [] HC_189 := pW.run (am_in [24]) 15 (And.intro (show ¬ (8 : Int32) < 0 by decide +kernel) (And.intro (show (8 : Int32).toNatClampNeg ≤ 10000 by decide +kernel) (And.intro (by decide +kernel) (And.intro (by decide +kernel) h))))
set_option maxRecDepth 100000 in
theorem q_42_2 {d : Nat} {Q : am_Q} (h : pW cd_78 (190, 5096) d Q 38 [some (.ref 185)] [(.ref 188), (.ref 185)] HC_191) : pW cd_78 (190, 5096) d Q 24 [some (.ref 185)] [(.ref 186), (.ref 185)] HC_190 := pW.run (am_in [38]) 9 (And.intro (show ¬ (4 : Int32) < 0 by decide +kernel) (And.intro (show (4 : Int32).toNatClampNeg ≤ 10000 by decide +kernel) (And.intro (by decide +kernel) (And.intro (by decide +kernel) (And.intro (show ¬ (4 : Int32) < 0 by decide +kernel) (And.intro (show (4 : Int32).toNatClampNeg ≤ 10000 by decide +kernel) (And.intro (by decide +kernel) (And.intro (by decide +kernel) h))))))))
set_option maxRecDepth 100000 in
theorem q_42_3 {d : Nat} {Q : am_Q} (w : Q none HC_192) : pW cd_78 (190, 5096) d Q 38 [some (.ref 185)] [(.ref 188), (.ref 185)] HC_191 := pW.run (am_in []) 7 (And.intro (show ¬ (60 : Int32) < 0 by decide +kernel) (And.intro (show (60 : Int32).toNatClampNeg ≤ 10000 by decide +kernel) (And.intro (by decide +kernel) (And.intro (by decide +kernel) ⟨rfl, rfl, w⟩))))
set_option maxRecDepth 100000 in
theorem ct_42 {d : Nat} {Q : am_Q} (w : Q none HC_192) : am_Spec PR (d + 1) 78 (190, 5096) [(.ref 185)] HC_189 Q := pS.of rfl (q_42_1 (q_42_2 (q_42_3 w)))
def R_193 : Nat → Nat → Option Nat := u2 (R_192) 34 30 (some 185)
abbrev HC_193 : am_Hp := (190, 5096, S_192, I_192, L_192, R_193)
def S_194 : Nat → Nat × Nat := fun i => bif Nat.beq i 190 then (7, 7) else (S_192) i
def I_194 : Nat → Nat → Int32 := uR (I_192) 190 (fun _ => 0)
def L_194 : Nat → Nat → Int64 := uR (L_192) 190 (fun _ => 0)
def R_194 : Nat → Nat → Option Nat := uR (R_193) 190 (fun _ => none)
abbrev HC_194 : am_Hp := (191, 5103, S_194, I_194, L_194, R_194)
def S_195 : Nat → Nat × Nat := fun i => bif Nat.beq i 191 then (100, 8) else (S_194) i
def I_195 : Nat → Nat → Int32 := uR (u2 (u2 (u2 (I_194) 190 0 (-1)) 190 1 (0)) 190 2 (0)) 191 (fun _ => 0)
def L_195 : Nat → Nat → Int64 := uR (L_194) 191 (fun _ => 0)
def R_195 : Nat → Nat → Option Nat := uR (R_194) 191 (fun _ => none)
abbrev HC_195 : am_Hp := (192, 5111, S_195, I_195, L_195, R_195)
def S_196 : Nat → Nat × Nat := fun i => bif Nat.beq i 193 then (100, 4) else (fun i => bif Nat.beq i 192 then (100, 4) else (S_195) i) i
def I_196 : Nat → Nat → Int32 := uR (uR (I_195) 192 (fun _ => 0)) 193 (fun _ => 0)
def L_196 : Nat → Nat → Int64 := uR (uR (L_195) 192 (fun _ => 0)) 193 (fun _ => 0)
def R_196 : Nat → Nat → Option Nat := uR (u2 (uR (u2 (R_195) 190 3 (some 191)) 192 (fun _ => none)) 190 4 (some 192)) 193 (fun _ => none)
abbrev HC_196 : am_Hp := (194, 5119, S_196, I_196, L_196, R_196)
def S_197 : Nat → Nat × Nat := fun i => bif Nat.beq i 194 then (100, 60) else (S_196) i
def I_197 : Nat → Nat → Int32 := uR (I_196) 194 (fun _ => 0)
def L_197 : Nat → Nat → Int64 := uR (L_196) 194 (fun _ => 0)
def R_197 : Nat → Nat → Option Nat := u2 (uR (u2 (R_196) 190 5 (some 193)) 194 (fun _ => none)) 190 6 (some 194)
abbrev HC_197 : am_Hp := (195, 5179, S_197, I_197, L_197, R_197)
set_option maxRecDepth 100000 in
theorem q_43_1 {d : Nat} {Q : am_Q} (h : pW cd_78 (195, 5179) d Q 24 [some (.ref 190)] [(.ref 191), (.ref 190)] HC_195) : pW cd_78 (195, 5179) d Q 0 [some (.ref 190)] [] HC_194 := pW.run (am_in [24]) 15 (And.intro (show ¬ (8 : Int32) < 0 by decide +kernel) (And.intro (show (8 : Int32).toNatClampNeg ≤ 10000 by decide +kernel) (And.intro (by decide +kernel) (And.intro (by decide +kernel) h))))
set_option maxRecDepth 100000 in
theorem q_43_2 {d : Nat} {Q : am_Q} (h : pW cd_78 (195, 5179) d Q 38 [some (.ref 190)] [(.ref 193), (.ref 190)] HC_196) : pW cd_78 (195, 5179) d Q 24 [some (.ref 190)] [(.ref 191), (.ref 190)] HC_195 := pW.run (am_in [38]) 9 (And.intro (show ¬ (4 : Int32) < 0 by decide +kernel) (And.intro (show (4 : Int32).toNatClampNeg ≤ 10000 by decide +kernel) (And.intro (by decide +kernel) (And.intro (by decide +kernel) (And.intro (show ¬ (4 : Int32) < 0 by decide +kernel) (And.intro (show (4 : Int32).toNatClampNeg ≤ 10000 by decide +kernel) (And.intro (by decide +kernel) (And.intro (by decide +kernel) h))))))))
set_option maxRecDepth 100000 in
theorem q_43_3 {d : Nat} {Q : am_Q} (w : Q none HC_197) : pW cd_78 (195, 5179) d Q 38 [some (.ref 190)] [(.ref 193), (.ref 190)] HC_196 := pW.run (am_in []) 7 (And.intro (show ¬ (60 : Int32) < 0 by decide +kernel) (And.intro (show (60 : Int32).toNatClampNeg ≤ 10000 by decide +kernel) (And.intro (by decide +kernel) (And.intro (by decide +kernel) ⟨rfl, rfl, w⟩))))
set_option maxRecDepth 100000 in
theorem ct_43 {d : Nat} {Q : am_Q} (w : Q none HC_197) : am_Spec PR (d + 1) 78 (195, 5179) [(.ref 190)] HC_194 Q := pS.of rfl (q_43_1 (q_43_2 (q_43_3 w)))
def R_198 : Nat → Nat → Option Nat := u2 (R_197) 34 31 (some 190)
abbrev HC_198 : am_Hp := (195, 5179, S_197, I_197, L_197, R_198)
def S_199 : Nat → Nat × Nat := fun i => bif Nat.beq i 195 then (7, 7) else (S_197) i
def I_199 : Nat → Nat → Int32 := uR (I_197) 195 (fun _ => 0)
def L_199 : Nat → Nat → Int64 := uR (L_197) 195 (fun _ => 0)
def R_199 : Nat → Nat → Option Nat := uR (R_198) 195 (fun _ => none)
abbrev HC_199 : am_Hp := (196, 5186, S_199, I_199, L_199, R_199)
def S_200 : Nat → Nat × Nat := fun i => bif Nat.beq i 196 then (100, 8) else (S_199) i
def I_200 : Nat → Nat → Int32 := uR (u2 (u2 (u2 (I_199) 195 0 (-1)) 195 1 (0)) 195 2 (0)) 196 (fun _ => 0)
def L_200 : Nat → Nat → Int64 := uR (L_199) 196 (fun _ => 0)
def R_200 : Nat → Nat → Option Nat := uR (R_199) 196 (fun _ => none)
abbrev HC_200 : am_Hp := (197, 5194, S_200, I_200, L_200, R_200)
def S_201 : Nat → Nat × Nat := fun i => bif Nat.beq i 198 then (100, 4) else (fun i => bif Nat.beq i 197 then (100, 4) else (S_200) i) i
def I_201 : Nat → Nat → Int32 := uR (uR (I_200) 197 (fun _ => 0)) 198 (fun _ => 0)
def L_201 : Nat → Nat → Int64 := uR (uR (L_200) 197 (fun _ => 0)) 198 (fun _ => 0)
def R_201 : Nat → Nat → Option Nat := uR (u2 (uR (u2 (R_200) 195 3 (some 196)) 197 (fun _ => none)) 195 4 (some 197)) 198 (fun _ => none)
abbrev HC_201 : am_Hp := (199, 5202, S_201, I_201, L_201, R_201)
def S_202 : Nat → Nat × Nat := fun i => bif Nat.beq i 199 then (100, 60) else (S_201) i
def I_202 : Nat → Nat → Int32 := uR (I_201) 199 (fun _ => 0)
def L_202 : Nat → Nat → Int64 := uR (L_201) 199 (fun _ => 0)
def R_202 : Nat → Nat → Option Nat := u2 (uR (u2 (R_201) 195 5 (some 198)) 199 (fun _ => none)) 195 6 (some 199)
abbrev HC_202 : am_Hp := (200, 5262, S_202, I_202, L_202, R_202)
set_option maxRecDepth 100000 in
theorem q_44_1 {d : Nat} {Q : am_Q} (h : pW cd_78 (200, 5262) d Q 24 [some (.ref 195)] [(.ref 196), (.ref 195)] HC_200) : pW cd_78 (200, 5262) d Q 0 [some (.ref 195)] [] HC_199 := pW.run (am_in [24]) 15 (And.intro (show ¬ (8 : Int32) < 0 by decide +kernel) (And.intro (show (8 : Int32).toNatClampNeg ≤ 10000 by decide +kernel) (And.intro (by decide +kernel) (And.intro (by decide +kernel) h))))
set_option maxRecDepth 100000 in
theorem q_44_2 {d : Nat} {Q : am_Q} (h : pW cd_78 (200, 5262) d Q 38 [some (.ref 195)] [(.ref 198), (.ref 195)] HC_201) : pW cd_78 (200, 5262) d Q 24 [some (.ref 195)] [(.ref 196), (.ref 195)] HC_200 := pW.run (am_in [38]) 9 (And.intro (show ¬ (4 : Int32) < 0 by decide +kernel) (And.intro (show (4 : Int32).toNatClampNeg ≤ 10000 by decide +kernel) (And.intro (by decide +kernel) (And.intro (by decide +kernel) (And.intro (show ¬ (4 : Int32) < 0 by decide +kernel) (And.intro (show (4 : Int32).toNatClampNeg ≤ 10000 by decide +kernel) (And.intro (by decide +kernel) (And.intro (by decide +kernel) h))))))))
set_option maxRecDepth 100000 in
theorem q_44_3 {d : Nat} {Q : am_Q} (w : Q none HC_202) : pW cd_78 (200, 5262) d Q 38 [some (.ref 195)] [(.ref 198), (.ref 195)] HC_201 := pW.run (am_in []) 7 (And.intro (show ¬ (60 : Int32) < 0 by decide +kernel) (And.intro (show (60 : Int32).toNatClampNeg ≤ 10000 by decide +kernel) (And.intro (by decide +kernel) (And.intro (by decide +kernel) ⟨rfl, rfl, w⟩))))
set_option maxRecDepth 100000 in
theorem ct_44 {d : Nat} {Q : am_Q} (w : Q none HC_202) : am_Spec PR (d + 1) 78 (200, 5262) [(.ref 195)] HC_199 Q := pS.of rfl (q_44_1 (q_44_2 (q_44_3 w)))
def R_203 : Nat → Nat → Option Nat := u2 (R_202) 34 32 (some 195)
abbrev HC_203 : am_Hp := (200, 5262, S_202, I_202, L_202, R_203)
def S_204 : Nat → Nat × Nat := fun i => bif Nat.beq i 200 then (7, 7) else (S_202) i
def I_204 : Nat → Nat → Int32 := uR (I_202) 200 (fun _ => 0)
def L_204 : Nat → Nat → Int64 := uR (L_202) 200 (fun _ => 0)
def R_204 : Nat → Nat → Option Nat := uR (R_203) 200 (fun _ => none)
abbrev HC_204 : am_Hp := (201, 5269, S_204, I_204, L_204, R_204)
def S_205 : Nat → Nat × Nat := fun i => bif Nat.beq i 201 then (100, 8) else (S_204) i
def I_205 : Nat → Nat → Int32 := uR (u2 (u2 (u2 (I_204) 200 0 (-1)) 200 1 (0)) 200 2 (0)) 201 (fun _ => 0)
def L_205 : Nat → Nat → Int64 := uR (L_204) 201 (fun _ => 0)
def R_205 : Nat → Nat → Option Nat := uR (R_204) 201 (fun _ => none)
abbrev HC_205 : am_Hp := (202, 5277, S_205, I_205, L_205, R_205)
def S_206 : Nat → Nat × Nat := fun i => bif Nat.beq i 203 then (100, 4) else (fun i => bif Nat.beq i 202 then (100, 4) else (S_205) i) i
def I_206 : Nat → Nat → Int32 := uR (uR (I_205) 202 (fun _ => 0)) 203 (fun _ => 0)
def L_206 : Nat → Nat → Int64 := uR (uR (L_205) 202 (fun _ => 0)) 203 (fun _ => 0)
def R_206 : Nat → Nat → Option Nat := uR (u2 (uR (u2 (R_205) 200 3 (some 201)) 202 (fun _ => none)) 200 4 (some 202)) 203 (fun _ => none)
abbrev HC_206 : am_Hp := (204, 5285, S_206, I_206, L_206, R_206)
def S_207 : Nat → Nat × Nat := fun i => bif Nat.beq i 204 then (100, 60) else (S_206) i
def I_207 : Nat → Nat → Int32 := uR (I_206) 204 (fun _ => 0)
def L_207 : Nat → Nat → Int64 := uR (L_206) 204 (fun _ => 0)
def R_207 : Nat → Nat → Option Nat := u2 (uR (u2 (R_206) 200 5 (some 203)) 204 (fun _ => none)) 200 6 (some 204)
abbrev HC_207 : am_Hp := (205, 5345, S_207, I_207, L_207, R_207)
set_option maxRecDepth 100000 in
theorem q_45_1 {d : Nat} {Q : am_Q} (h : pW cd_78 (205, 5345) d Q 24 [some (.ref 200)] [(.ref 201), (.ref 200)] HC_205) : pW cd_78 (205, 5345) d Q 0 [some (.ref 200)] [] HC_204 := pW.run (am_in [24]) 15 (And.intro (show ¬ (8 : Int32) < 0 by decide +kernel) (And.intro (show (8 : Int32).toNatClampNeg ≤ 10000 by decide +kernel) (And.intro (by decide +kernel) (And.intro (by decide +kernel) h))))
set_option maxRecDepth 100000 in
theorem q_45_2 {d : Nat} {Q : am_Q} (h : pW cd_78 (205, 5345) d Q 38 [some (.ref 200)] [(.ref 203), (.ref 200)] HC_206) : pW cd_78 (205, 5345) d Q 24 [some (.ref 200)] [(.ref 201), (.ref 200)] HC_205 := pW.run (am_in [38]) 9 (And.intro (show ¬ (4 : Int32) < 0 by decide +kernel) (And.intro (show (4 : Int32).toNatClampNeg ≤ 10000 by decide +kernel) (And.intro (by decide +kernel) (And.intro (by decide +kernel) (And.intro (show ¬ (4 : Int32) < 0 by decide +kernel) (And.intro (show (4 : Int32).toNatClampNeg ≤ 10000 by decide +kernel) (And.intro (by decide +kernel) (And.intro (by decide +kernel) h))))))))
set_option maxRecDepth 100000 in
theorem q_45_3 {d : Nat} {Q : am_Q} (w : Q none HC_207) : pW cd_78 (205, 5345) d Q 38 [some (.ref 200)] [(.ref 203), (.ref 200)] HC_206 := pW.run (am_in []) 7 (And.intro (show ¬ (60 : Int32) < 0 by decide +kernel) (And.intro (show (60 : Int32).toNatClampNeg ≤ 10000 by decide +kernel) (And.intro (by decide +kernel) (And.intro (by decide +kernel) ⟨rfl, rfl, w⟩))))
set_option maxRecDepth 100000 in
theorem ct_45 {d : Nat} {Q : am_Q} (w : Q none HC_207) : am_Spec PR (d + 1) 78 (205, 5345) [(.ref 200)] HC_204 Q := pS.of rfl (q_45_1 (q_45_2 (q_45_3 w)))
def R_208 : Nat → Nat → Option Nat := u2 (R_207) 34 33 (some 200)
abbrev HC_208 : am_Hp := (205, 5345, S_207, I_207, L_207, R_208)
def S_209 : Nat → Nat × Nat := fun i => bif Nat.beq i 205 then (7, 7) else (S_207) i
def I_209 : Nat → Nat → Int32 := uR (I_207) 205 (fun _ => 0)
def L_209 : Nat → Nat → Int64 := uR (L_207) 205 (fun _ => 0)
def R_209 : Nat → Nat → Option Nat := uR (R_208) 205 (fun _ => none)
abbrev HC_209 : am_Hp := (206, 5352, S_209, I_209, L_209, R_209)
def S_210 : Nat → Nat × Nat := fun i => bif Nat.beq i 206 then (100, 8) else (S_209) i
def I_210 : Nat → Nat → Int32 := uR (u2 (u2 (u2 (I_209) 205 0 (-1)) 205 1 (0)) 205 2 (0)) 206 (fun _ => 0)
def L_210 : Nat → Nat → Int64 := uR (L_209) 206 (fun _ => 0)
def R_210 : Nat → Nat → Option Nat := uR (R_209) 206 (fun _ => none)
abbrev HC_210 : am_Hp := (207, 5360, S_210, I_210, L_210, R_210)
def S_211 : Nat → Nat × Nat := fun i => bif Nat.beq i 208 then (100, 4) else (fun i => bif Nat.beq i 207 then (100, 4) else (S_210) i) i
def I_211 : Nat → Nat → Int32 := uR (uR (I_210) 207 (fun _ => 0)) 208 (fun _ => 0)
def L_211 : Nat → Nat → Int64 := uR (uR (L_210) 207 (fun _ => 0)) 208 (fun _ => 0)
def R_211 : Nat → Nat → Option Nat := uR (u2 (uR (u2 (R_210) 205 3 (some 206)) 207 (fun _ => none)) 205 4 (some 207)) 208 (fun _ => none)
abbrev HC_211 : am_Hp := (209, 5368, S_211, I_211, L_211, R_211)
def S_212 : Nat → Nat × Nat := fun i => bif Nat.beq i 209 then (100, 60) else (S_211) i
def I_212 : Nat → Nat → Int32 := uR (I_211) 209 (fun _ => 0)
def L_212 : Nat → Nat → Int64 := uR (L_211) 209 (fun _ => 0)
def R_212 : Nat → Nat → Option Nat := u2 (uR (u2 (R_211) 205 5 (some 208)) 209 (fun _ => none)) 205 6 (some 209)
abbrev HC_212 : am_Hp := (210, 5428, S_212, I_212, L_212, R_212)
set_option maxRecDepth 100000 in
theorem q_46_1 {d : Nat} {Q : am_Q} (h : pW cd_78 (210, 5428) d Q 24 [some (.ref 205)] [(.ref 206), (.ref 205)] HC_210) : pW cd_78 (210, 5428) d Q 0 [some (.ref 205)] [] HC_209 := pW.run (am_in [24]) 15 (And.intro (show ¬ (8 : Int32) < 0 by decide +kernel) (And.intro (show (8 : Int32).toNatClampNeg ≤ 10000 by decide +kernel) (And.intro (by decide +kernel) (And.intro (by decide +kernel) h))))
set_option maxRecDepth 100000 in
theorem q_46_2 {d : Nat} {Q : am_Q} (h : pW cd_78 (210, 5428) d Q 38 [some (.ref 205)] [(.ref 208), (.ref 205)] HC_211) : pW cd_78 (210, 5428) d Q 24 [some (.ref 205)] [(.ref 206), (.ref 205)] HC_210 := pW.run (am_in [38]) 9 (And.intro (show ¬ (4 : Int32) < 0 by decide +kernel) (And.intro (show (4 : Int32).toNatClampNeg ≤ 10000 by decide +kernel) (And.intro (by decide +kernel) (And.intro (by decide +kernel) (And.intro (show ¬ (4 : Int32) < 0 by decide +kernel) (And.intro (show (4 : Int32).toNatClampNeg ≤ 10000 by decide +kernel) (And.intro (by decide +kernel) (And.intro (by decide +kernel) h))))))))
set_option maxRecDepth 100000 in
theorem q_46_3 {d : Nat} {Q : am_Q} (w : Q none HC_212) : pW cd_78 (210, 5428) d Q 38 [some (.ref 205)] [(.ref 208), (.ref 205)] HC_211 := pW.run (am_in []) 7 (And.intro (show ¬ (60 : Int32) < 0 by decide +kernel) (And.intro (show (60 : Int32).toNatClampNeg ≤ 10000 by decide +kernel) (And.intro (by decide +kernel) (And.intro (by decide +kernel) ⟨rfl, rfl, w⟩))))
set_option maxRecDepth 100000 in
theorem ct_46 {d : Nat} {Q : am_Q} (w : Q none HC_212) : am_Spec PR (d + 1) 78 (210, 5428) [(.ref 205)] HC_209 Q := pS.of rfl (q_46_1 (q_46_2 (q_46_3 w)))
def R_213 : Nat → Nat → Option Nat := u2 (R_212) 34 34 (some 205)
abbrev HC_213 : am_Hp := (210, 5428, S_212, I_212, L_212, R_213)
def S_214 : Nat → Nat × Nat := fun i => bif Nat.beq i 210 then (7, 7) else (S_212) i
def I_214 : Nat → Nat → Int32 := uR (I_212) 210 (fun _ => 0)
def L_214 : Nat → Nat → Int64 := uR (L_212) 210 (fun _ => 0)
def R_214 : Nat → Nat → Option Nat := uR (R_213) 210 (fun _ => none)
abbrev HC_214 : am_Hp := (211, 5435, S_214, I_214, L_214, R_214)
def S_215 : Nat → Nat × Nat := fun i => bif Nat.beq i 211 then (100, 8) else (S_214) i
def I_215 : Nat → Nat → Int32 := uR (u2 (u2 (u2 (I_214) 210 0 (-1)) 210 1 (0)) 210 2 (0)) 211 (fun _ => 0)
def L_215 : Nat → Nat → Int64 := uR (L_214) 211 (fun _ => 0)
def R_215 : Nat → Nat → Option Nat := uR (R_214) 211 (fun _ => none)
abbrev HC_215 : am_Hp := (212, 5443, S_215, I_215, L_215, R_215)
def S_216 : Nat → Nat × Nat := fun i => bif Nat.beq i 213 then (100, 4) else (fun i => bif Nat.beq i 212 then (100, 4) else (S_215) i) i
def I_216 : Nat → Nat → Int32 := uR (uR (I_215) 212 (fun _ => 0)) 213 (fun _ => 0)
def L_216 : Nat → Nat → Int64 := uR (uR (L_215) 212 (fun _ => 0)) 213 (fun _ => 0)
def R_216 : Nat → Nat → Option Nat := uR (u2 (uR (u2 (R_215) 210 3 (some 211)) 212 (fun _ => none)) 210 4 (some 212)) 213 (fun _ => none)
abbrev HC_216 : am_Hp := (214, 5451, S_216, I_216, L_216, R_216)
def S_217 : Nat → Nat × Nat := fun i => bif Nat.beq i 214 then (100, 60) else (S_216) i
def I_217 : Nat → Nat → Int32 := uR (I_216) 214 (fun _ => 0)
def L_217 : Nat → Nat → Int64 := uR (L_216) 214 (fun _ => 0)
def R_217 : Nat → Nat → Option Nat := u2 (uR (u2 (R_216) 210 5 (some 213)) 214 (fun _ => none)) 210 6 (some 214)
abbrev HC_217 : am_Hp := (215, 5511, S_217, I_217, L_217, R_217)
set_option maxRecDepth 100000 in
theorem q_47_1 {d : Nat} {Q : am_Q} (h : pW cd_78 (215, 5511) d Q 24 [some (.ref 210)] [(.ref 211), (.ref 210)] HC_215) : pW cd_78 (215, 5511) d Q 0 [some (.ref 210)] [] HC_214 := pW.run (am_in [24]) 15 (And.intro (show ¬ (8 : Int32) < 0 by decide +kernel) (And.intro (show (8 : Int32).toNatClampNeg ≤ 10000 by decide +kernel) (And.intro (by decide +kernel) (And.intro (by decide +kernel) h))))
set_option maxRecDepth 100000 in
theorem q_47_2 {d : Nat} {Q : am_Q} (h : pW cd_78 (215, 5511) d Q 38 [some (.ref 210)] [(.ref 213), (.ref 210)] HC_216) : pW cd_78 (215, 5511) d Q 24 [some (.ref 210)] [(.ref 211), (.ref 210)] HC_215 := pW.run (am_in [38]) 9 (And.intro (show ¬ (4 : Int32) < 0 by decide +kernel) (And.intro (show (4 : Int32).toNatClampNeg ≤ 10000 by decide +kernel) (And.intro (by decide +kernel) (And.intro (by decide +kernel) (And.intro (show ¬ (4 : Int32) < 0 by decide +kernel) (And.intro (show (4 : Int32).toNatClampNeg ≤ 10000 by decide +kernel) (And.intro (by decide +kernel) (And.intro (by decide +kernel) h))))))))
set_option maxRecDepth 100000 in
theorem q_47_3 {d : Nat} {Q : am_Q} (w : Q none HC_217) : pW cd_78 (215, 5511) d Q 38 [some (.ref 210)] [(.ref 213), (.ref 210)] HC_216 := pW.run (am_in []) 7 (And.intro (show ¬ (60 : Int32) < 0 by decide +kernel) (And.intro (show (60 : Int32).toNatClampNeg ≤ 10000 by decide +kernel) (And.intro (by decide +kernel) (And.intro (by decide +kernel) ⟨rfl, rfl, w⟩))))
set_option maxRecDepth 100000 in
theorem ct_47 {d : Nat} {Q : am_Q} (w : Q none HC_217) : am_Spec PR (d + 1) 78 (215, 5511) [(.ref 210)] HC_214 Q := pS.of rfl (q_47_1 (q_47_2 (q_47_3 w)))
def R_218 : Nat → Nat → Option Nat := u2 (R_217) 34 35 (some 210)
abbrev HC_218 : am_Hp := (215, 5511, S_217, I_217, L_217, R_218)
def S_219 : Nat → Nat × Nat := fun i => bif Nat.beq i 215 then (7, 7) else (S_217) i
def I_219 : Nat → Nat → Int32 := uR (I_217) 215 (fun _ => 0)
def L_219 : Nat → Nat → Int64 := uR (L_217) 215 (fun _ => 0)
def R_219 : Nat → Nat → Option Nat := uR (R_218) 215 (fun _ => none)
abbrev HC_219 : am_Hp := (216, 5518, S_219, I_219, L_219, R_219)
def S_220 : Nat → Nat × Nat := fun i => bif Nat.beq i 216 then (100, 8) else (S_219) i
def I_220 : Nat → Nat → Int32 := uR (u2 (u2 (u2 (I_219) 215 0 (-1)) 215 1 (0)) 215 2 (0)) 216 (fun _ => 0)
def L_220 : Nat → Nat → Int64 := uR (L_219) 216 (fun _ => 0)
def R_220 : Nat → Nat → Option Nat := uR (R_219) 216 (fun _ => none)
abbrev HC_220 : am_Hp := (217, 5526, S_220, I_220, L_220, R_220)
def S_221 : Nat → Nat × Nat := fun i => bif Nat.beq i 218 then (100, 4) else (fun i => bif Nat.beq i 217 then (100, 4) else (S_220) i) i
def I_221 : Nat → Nat → Int32 := uR (uR (I_220) 217 (fun _ => 0)) 218 (fun _ => 0)
def L_221 : Nat → Nat → Int64 := uR (uR (L_220) 217 (fun _ => 0)) 218 (fun _ => 0)
def R_221 : Nat → Nat → Option Nat := uR (u2 (uR (u2 (R_220) 215 3 (some 216)) 217 (fun _ => none)) 215 4 (some 217)) 218 (fun _ => none)
abbrev HC_221 : am_Hp := (219, 5534, S_221, I_221, L_221, R_221)
def S_222 : Nat → Nat × Nat := fun i => bif Nat.beq i 219 then (100, 60) else (S_221) i
def I_222 : Nat → Nat → Int32 := uR (I_221) 219 (fun _ => 0)
def L_222 : Nat → Nat → Int64 := uR (L_221) 219 (fun _ => 0)
def R_222 : Nat → Nat → Option Nat := u2 (uR (u2 (R_221) 215 5 (some 218)) 219 (fun _ => none)) 215 6 (some 219)
abbrev HC_222 : am_Hp := (220, 5594, S_222, I_222, L_222, R_222)
set_option maxRecDepth 100000 in
theorem q_48_1 {d : Nat} {Q : am_Q} (h : pW cd_78 (220, 5594) d Q 24 [some (.ref 215)] [(.ref 216), (.ref 215)] HC_220) : pW cd_78 (220, 5594) d Q 0 [some (.ref 215)] [] HC_219 := pW.run (am_in [24]) 15 (And.intro (show ¬ (8 : Int32) < 0 by decide +kernel) (And.intro (show (8 : Int32).toNatClampNeg ≤ 10000 by decide +kernel) (And.intro (by decide +kernel) (And.intro (by decide +kernel) h))))
set_option maxRecDepth 100000 in
theorem q_48_2 {d : Nat} {Q : am_Q} (h : pW cd_78 (220, 5594) d Q 38 [some (.ref 215)] [(.ref 218), (.ref 215)] HC_221) : pW cd_78 (220, 5594) d Q 24 [some (.ref 215)] [(.ref 216), (.ref 215)] HC_220 := pW.run (am_in [38]) 9 (And.intro (show ¬ (4 : Int32) < 0 by decide +kernel) (And.intro (show (4 : Int32).toNatClampNeg ≤ 10000 by decide +kernel) (And.intro (by decide +kernel) (And.intro (by decide +kernel) (And.intro (show ¬ (4 : Int32) < 0 by decide +kernel) (And.intro (show (4 : Int32).toNatClampNeg ≤ 10000 by decide +kernel) (And.intro (by decide +kernel) (And.intro (by decide +kernel) h))))))))
set_option maxRecDepth 100000 in
theorem q_48_3 {d : Nat} {Q : am_Q} (w : Q none HC_222) : pW cd_78 (220, 5594) d Q 38 [some (.ref 215)] [(.ref 218), (.ref 215)] HC_221 := pW.run (am_in []) 7 (And.intro (show ¬ (60 : Int32) < 0 by decide +kernel) (And.intro (show (60 : Int32).toNatClampNeg ≤ 10000 by decide +kernel) (And.intro (by decide +kernel) (And.intro (by decide +kernel) ⟨rfl, rfl, w⟩))))
set_option maxRecDepth 100000 in
theorem ct_48 {d : Nat} {Q : am_Q} (w : Q none HC_222) : am_Spec PR (d + 1) 78 (220, 5594) [(.ref 215)] HC_219 Q := pS.of rfl (q_48_1 (q_48_2 (q_48_3 w)))
def R_223 : Nat → Nat → Option Nat := u2 (R_222) 34 36 (some 215)
abbrev HC_223 : am_Hp := (220, 5594, S_222, I_222, L_222, R_223)
def S_224 : Nat → Nat × Nat := fun i => bif Nat.beq i 220 then (7, 7) else (S_222) i
def I_224 : Nat → Nat → Int32 := uR (I_222) 220 (fun _ => 0)
def L_224 : Nat → Nat → Int64 := uR (L_222) 220 (fun _ => 0)
def R_224 : Nat → Nat → Option Nat := uR (R_223) 220 (fun _ => none)
abbrev HC_224 : am_Hp := (221, 5601, S_224, I_224, L_224, R_224)
def S_225 : Nat → Nat × Nat := fun i => bif Nat.beq i 221 then (100, 8) else (S_224) i
def I_225 : Nat → Nat → Int32 := uR (u2 (u2 (u2 (I_224) 220 0 (-1)) 220 1 (0)) 220 2 (0)) 221 (fun _ => 0)
def L_225 : Nat → Nat → Int64 := uR (L_224) 221 (fun _ => 0)
def R_225 : Nat → Nat → Option Nat := uR (R_224) 221 (fun _ => none)
abbrev HC_225 : am_Hp := (222, 5609, S_225, I_225, L_225, R_225)
def S_226 : Nat → Nat × Nat := fun i => bif Nat.beq i 223 then (100, 4) else (fun i => bif Nat.beq i 222 then (100, 4) else (S_225) i) i
def I_226 : Nat → Nat → Int32 := uR (uR (I_225) 222 (fun _ => 0)) 223 (fun _ => 0)
def L_226 : Nat → Nat → Int64 := uR (uR (L_225) 222 (fun _ => 0)) 223 (fun _ => 0)
def R_226 : Nat → Nat → Option Nat := uR (u2 (uR (u2 (R_225) 220 3 (some 221)) 222 (fun _ => none)) 220 4 (some 222)) 223 (fun _ => none)
abbrev HC_226 : am_Hp := (224, 5617, S_226, I_226, L_226, R_226)
def S_227 : Nat → Nat × Nat := fun i => bif Nat.beq i 224 then (100, 60) else (S_226) i
def I_227 : Nat → Nat → Int32 := uR (I_226) 224 (fun _ => 0)
def L_227 : Nat → Nat → Int64 := uR (L_226) 224 (fun _ => 0)
def R_227 : Nat → Nat → Option Nat := u2 (uR (u2 (R_226) 220 5 (some 223)) 224 (fun _ => none)) 220 6 (some 224)
abbrev HC_227 : am_Hp := (225, 5677, S_227, I_227, L_227, R_227)
set_option maxRecDepth 100000 in
theorem q_49_1 {d : Nat} {Q : am_Q} (h : pW cd_78 (225, 5677) d Q 24 [some (.ref 220)] [(.ref 221), (.ref 220)] HC_225) : pW cd_78 (225, 5677) d Q 0 [some (.ref 220)] [] HC_224 := pW.run (am_in [24]) 15 (And.intro (show ¬ (8 : Int32) < 0 by decide +kernel) (And.intro (show (8 : Int32).toNatClampNeg ≤ 10000 by decide +kernel) (And.intro (by decide +kernel) (And.intro (by decide +kernel) h))))
set_option maxRecDepth 100000 in
theorem q_49_2 {d : Nat} {Q : am_Q} (h : pW cd_78 (225, 5677) d Q 38 [some (.ref 220)] [(.ref 223), (.ref 220)] HC_226) : pW cd_78 (225, 5677) d Q 24 [some (.ref 220)] [(.ref 221), (.ref 220)] HC_225 := pW.run (am_in [38]) 9 (And.intro (show ¬ (4 : Int32) < 0 by decide +kernel) (And.intro (show (4 : Int32).toNatClampNeg ≤ 10000 by decide +kernel) (And.intro (by decide +kernel) (And.intro (by decide +kernel) (And.intro (show ¬ (4 : Int32) < 0 by decide +kernel) (And.intro (show (4 : Int32).toNatClampNeg ≤ 10000 by decide +kernel) (And.intro (by decide +kernel) (And.intro (by decide +kernel) h))))))))
set_option maxRecDepth 100000 in
theorem q_49_3 {d : Nat} {Q : am_Q} (w : Q none HC_227) : pW cd_78 (225, 5677) d Q 38 [some (.ref 220)] [(.ref 223), (.ref 220)] HC_226 := pW.run (am_in []) 7 (And.intro (show ¬ (60 : Int32) < 0 by decide +kernel) (And.intro (show (60 : Int32).toNatClampNeg ≤ 10000 by decide +kernel) (And.intro (by decide +kernel) (And.intro (by decide +kernel) ⟨rfl, rfl, w⟩))))
set_option maxRecDepth 100000 in
theorem ct_49 {d : Nat} {Q : am_Q} (w : Q none HC_227) : am_Spec PR (d + 1) 78 (225, 5677) [(.ref 220)] HC_224 Q := pS.of rfl (q_49_1 (q_49_2 (q_49_3 w)))
def R_228 : Nat → Nat → Option Nat := u2 (R_227) 34 37 (some 220)
abbrev HC_228 : am_Hp := (225, 5677, S_227, I_227, L_227, R_228)
def S_229 : Nat → Nat × Nat := fun i => bif Nat.beq i 225 then (7, 7) else (S_227) i
def I_229 : Nat → Nat → Int32 := uR (I_227) 225 (fun _ => 0)
def L_229 : Nat → Nat → Int64 := uR (L_227) 225 (fun _ => 0)
def R_229 : Nat → Nat → Option Nat := uR (R_228) 225 (fun _ => none)
abbrev HC_229 : am_Hp := (226, 5684, S_229, I_229, L_229, R_229)
def S_230 : Nat → Nat × Nat := fun i => bif Nat.beq i 226 then (100, 8) else (S_229) i
def I_230 : Nat → Nat → Int32 := uR (u2 (u2 (u2 (I_229) 225 0 (-1)) 225 1 (0)) 225 2 (0)) 226 (fun _ => 0)
def L_230 : Nat → Nat → Int64 := uR (L_229) 226 (fun _ => 0)
def R_230 : Nat → Nat → Option Nat := uR (R_229) 226 (fun _ => none)
abbrev HC_230 : am_Hp := (227, 5692, S_230, I_230, L_230, R_230)
def S_231 : Nat → Nat × Nat := fun i => bif Nat.beq i 228 then (100, 4) else (fun i => bif Nat.beq i 227 then (100, 4) else (S_230) i) i
def I_231 : Nat → Nat → Int32 := uR (uR (I_230) 227 (fun _ => 0)) 228 (fun _ => 0)
def L_231 : Nat → Nat → Int64 := uR (uR (L_230) 227 (fun _ => 0)) 228 (fun _ => 0)
def R_231 : Nat → Nat → Option Nat := uR (u2 (uR (u2 (R_230) 225 3 (some 226)) 227 (fun _ => none)) 225 4 (some 227)) 228 (fun _ => none)
abbrev HC_231 : am_Hp := (229, 5700, S_231, I_231, L_231, R_231)
def S_232 : Nat → Nat × Nat := fun i => bif Nat.beq i 229 then (100, 60) else (S_231) i
def I_232 : Nat → Nat → Int32 := uR (I_231) 229 (fun _ => 0)
def L_232 : Nat → Nat → Int64 := uR (L_231) 229 (fun _ => 0)
def R_232 : Nat → Nat → Option Nat := u2 (uR (u2 (R_231) 225 5 (some 228)) 229 (fun _ => none)) 225 6 (some 229)
abbrev HC_232 : am_Hp := (230, 5760, S_232, I_232, L_232, R_232)
set_option maxRecDepth 100000 in
theorem q_50_1 {d : Nat} {Q : am_Q} (h : pW cd_78 (230, 5760) d Q 24 [some (.ref 225)] [(.ref 226), (.ref 225)] HC_230) : pW cd_78 (230, 5760) d Q 0 [some (.ref 225)] [] HC_229 := pW.run (am_in [24]) 15 (And.intro (show ¬ (8 : Int32) < 0 by decide +kernel) (And.intro (show (8 : Int32).toNatClampNeg ≤ 10000 by decide +kernel) (And.intro (by decide +kernel) (And.intro (by decide +kernel) h))))
set_option maxRecDepth 100000 in
theorem q_50_2 {d : Nat} {Q : am_Q} (h : pW cd_78 (230, 5760) d Q 38 [some (.ref 225)] [(.ref 228), (.ref 225)] HC_231) : pW cd_78 (230, 5760) d Q 24 [some (.ref 225)] [(.ref 226), (.ref 225)] HC_230 := pW.run (am_in [38]) 9 (And.intro (show ¬ (4 : Int32) < 0 by decide +kernel) (And.intro (show (4 : Int32).toNatClampNeg ≤ 10000 by decide +kernel) (And.intro (by decide +kernel) (And.intro (by decide +kernel) (And.intro (show ¬ (4 : Int32) < 0 by decide +kernel) (And.intro (show (4 : Int32).toNatClampNeg ≤ 10000 by decide +kernel) (And.intro (by decide +kernel) (And.intro (by decide +kernel) h))))))))
set_option maxRecDepth 100000 in
theorem q_50_3 {d : Nat} {Q : am_Q} (w : Q none HC_232) : pW cd_78 (230, 5760) d Q 38 [some (.ref 225)] [(.ref 228), (.ref 225)] HC_231 := pW.run (am_in []) 7 (And.intro (show ¬ (60 : Int32) < 0 by decide +kernel) (And.intro (show (60 : Int32).toNatClampNeg ≤ 10000 by decide +kernel) (And.intro (by decide +kernel) (And.intro (by decide +kernel) ⟨rfl, rfl, w⟩))))
set_option maxRecDepth 100000 in
theorem ct_50 {d : Nat} {Q : am_Q} (w : Q none HC_232) : am_Spec PR (d + 1) 78 (230, 5760) [(.ref 225)] HC_229 Q := pS.of rfl (q_50_1 (q_50_2 (q_50_3 w)))
def R_233 : Nat → Nat → Option Nat := u2 (R_232) 34 38 (some 225)
abbrev HC_233 : am_Hp := (230, 5760, S_232, I_232, L_232, R_233)
def S_234 : Nat → Nat × Nat := fun i => bif Nat.beq i 230 then (7, 7) else (S_232) i
def I_234 : Nat → Nat → Int32 := uR (I_232) 230 (fun _ => 0)
def L_234 : Nat → Nat → Int64 := uR (L_232) 230 (fun _ => 0)
def R_234 : Nat → Nat → Option Nat := uR (R_233) 230 (fun _ => none)
abbrev HC_234 : am_Hp := (231, 5767, S_234, I_234, L_234, R_234)
def S_235 : Nat → Nat × Nat := fun i => bif Nat.beq i 231 then (100, 8) else (S_234) i
def I_235 : Nat → Nat → Int32 := uR (u2 (u2 (u2 (I_234) 230 0 (-1)) 230 1 (0)) 230 2 (0)) 231 (fun _ => 0)
def L_235 : Nat → Nat → Int64 := uR (L_234) 231 (fun _ => 0)
def R_235 : Nat → Nat → Option Nat := uR (R_234) 231 (fun _ => none)
abbrev HC_235 : am_Hp := (232, 5775, S_235, I_235, L_235, R_235)
def S_236 : Nat → Nat × Nat := fun i => bif Nat.beq i 233 then (100, 4) else (fun i => bif Nat.beq i 232 then (100, 4) else (S_235) i) i
def I_236 : Nat → Nat → Int32 := uR (uR (I_235) 232 (fun _ => 0)) 233 (fun _ => 0)
def L_236 : Nat → Nat → Int64 := uR (uR (L_235) 232 (fun _ => 0)) 233 (fun _ => 0)
def R_236 : Nat → Nat → Option Nat := uR (u2 (uR (u2 (R_235) 230 3 (some 231)) 232 (fun _ => none)) 230 4 (some 232)) 233 (fun _ => none)
abbrev HC_236 : am_Hp := (234, 5783, S_236, I_236, L_236, R_236)
def S_237 : Nat → Nat × Nat := fun i => bif Nat.beq i 234 then (100, 60) else (S_236) i
def I_237 : Nat → Nat → Int32 := uR (I_236) 234 (fun _ => 0)
def L_237 : Nat → Nat → Int64 := uR (L_236) 234 (fun _ => 0)
def R_237 : Nat → Nat → Option Nat := u2 (uR (u2 (R_236) 230 5 (some 233)) 234 (fun _ => none)) 230 6 (some 234)
abbrev HC_237 : am_Hp := (235, 5843, S_237, I_237, L_237, R_237)
set_option maxRecDepth 100000 in
theorem q_51_1 {d : Nat} {Q : am_Q} (h : pW cd_78 (235, 5843) d Q 24 [some (.ref 230)] [(.ref 231), (.ref 230)] HC_235) : pW cd_78 (235, 5843) d Q 0 [some (.ref 230)] [] HC_234 := pW.run (am_in [24]) 15 (And.intro (show ¬ (8 : Int32) < 0 by decide +kernel) (And.intro (show (8 : Int32).toNatClampNeg ≤ 10000 by decide +kernel) (And.intro (by decide +kernel) (And.intro (by decide +kernel) h))))
set_option maxRecDepth 100000 in
theorem q_51_2 {d : Nat} {Q : am_Q} (h : pW cd_78 (235, 5843) d Q 38 [some (.ref 230)] [(.ref 233), (.ref 230)] HC_236) : pW cd_78 (235, 5843) d Q 24 [some (.ref 230)] [(.ref 231), (.ref 230)] HC_235 := pW.run (am_in [38]) 9 (And.intro (show ¬ (4 : Int32) < 0 by decide +kernel) (And.intro (show (4 : Int32).toNatClampNeg ≤ 10000 by decide +kernel) (And.intro (by decide +kernel) (And.intro (by decide +kernel) (And.intro (show ¬ (4 : Int32) < 0 by decide +kernel) (And.intro (show (4 : Int32).toNatClampNeg ≤ 10000 by decide +kernel) (And.intro (by decide +kernel) (And.intro (by decide +kernel) h))))))))
set_option maxRecDepth 100000 in
theorem q_51_3 {d : Nat} {Q : am_Q} (w : Q none HC_237) : pW cd_78 (235, 5843) d Q 38 [some (.ref 230)] [(.ref 233), (.ref 230)] HC_236 := pW.run (am_in []) 7 (And.intro (show ¬ (60 : Int32) < 0 by decide +kernel) (And.intro (show (60 : Int32).toNatClampNeg ≤ 10000 by decide +kernel) (And.intro (by decide +kernel) (And.intro (by decide +kernel) ⟨rfl, rfl, w⟩))))
set_option maxRecDepth 100000 in
theorem ct_51 {d : Nat} {Q : am_Q} (w : Q none HC_237) : am_Spec PR (d + 1) 78 (235, 5843) [(.ref 230)] HC_234 Q := pS.of rfl (q_51_1 (q_51_2 (q_51_3 w)))
def R_238 : Nat → Nat → Option Nat := u2 (R_237) 34 39 (some 230)
abbrev HC_238 : am_Hp := (235, 5843, S_237, I_237, L_237, R_238)
def S_239 : Nat → Nat × Nat := fun i => bif Nat.beq i 235 then (7, 7) else (S_237) i
def I_239 : Nat → Nat → Int32 := uR (I_237) 235 (fun _ => 0)
def L_239 : Nat → Nat → Int64 := uR (L_237) 235 (fun _ => 0)
def R_239 : Nat → Nat → Option Nat := uR (R_238) 235 (fun _ => none)
abbrev HC_239 : am_Hp := (236, 5850, S_239, I_239, L_239, R_239)
def S_240 : Nat → Nat × Nat := fun i => bif Nat.beq i 236 then (100, 8) else (S_239) i
def I_240 : Nat → Nat → Int32 := uR (u2 (u2 (u2 (I_239) 235 0 (-1)) 235 1 (0)) 235 2 (0)) 236 (fun _ => 0)
def L_240 : Nat → Nat → Int64 := uR (L_239) 236 (fun _ => 0)
def R_240 : Nat → Nat → Option Nat := uR (R_239) 236 (fun _ => none)
abbrev HC_240 : am_Hp := (237, 5858, S_240, I_240, L_240, R_240)
def S_241 : Nat → Nat × Nat := fun i => bif Nat.beq i 238 then (100, 4) else (fun i => bif Nat.beq i 237 then (100, 4) else (S_240) i) i
def I_241 : Nat → Nat → Int32 := uR (uR (I_240) 237 (fun _ => 0)) 238 (fun _ => 0)
def L_241 : Nat → Nat → Int64 := uR (uR (L_240) 237 (fun _ => 0)) 238 (fun _ => 0)
def R_241 : Nat → Nat → Option Nat := uR (u2 (uR (u2 (R_240) 235 3 (some 236)) 237 (fun _ => none)) 235 4 (some 237)) 238 (fun _ => none)
abbrev HC_241 : am_Hp := (239, 5866, S_241, I_241, L_241, R_241)
def S_242 : Nat → Nat × Nat := fun i => bif Nat.beq i 239 then (100, 60) else (S_241) i
def I_242 : Nat → Nat → Int32 := uR (I_241) 239 (fun _ => 0)
def L_242 : Nat → Nat → Int64 := uR (L_241) 239 (fun _ => 0)
def R_242 : Nat → Nat → Option Nat := u2 (uR (u2 (R_241) 235 5 (some 238)) 239 (fun _ => none)) 235 6 (some 239)
abbrev HC_242 : am_Hp := (240, 5926, S_242, I_242, L_242, R_242)
set_option maxRecDepth 100000 in
theorem q_52_1 {d : Nat} {Q : am_Q} (h : pW cd_78 (240, 5926) d Q 24 [some (.ref 235)] [(.ref 236), (.ref 235)] HC_240) : pW cd_78 (240, 5926) d Q 0 [some (.ref 235)] [] HC_239 := pW.run (am_in [24]) 15 (And.intro (show ¬ (8 : Int32) < 0 by decide +kernel) (And.intro (show (8 : Int32).toNatClampNeg ≤ 10000 by decide +kernel) (And.intro (by decide +kernel) (And.intro (by decide +kernel) h))))
set_option maxRecDepth 100000 in
theorem q_52_2 {d : Nat} {Q : am_Q} (h : pW cd_78 (240, 5926) d Q 38 [some (.ref 235)] [(.ref 238), (.ref 235)] HC_241) : pW cd_78 (240, 5926) d Q 24 [some (.ref 235)] [(.ref 236), (.ref 235)] HC_240 := pW.run (am_in [38]) 9 (And.intro (show ¬ (4 : Int32) < 0 by decide +kernel) (And.intro (show (4 : Int32).toNatClampNeg ≤ 10000 by decide +kernel) (And.intro (by decide +kernel) (And.intro (by decide +kernel) (And.intro (show ¬ (4 : Int32) < 0 by decide +kernel) (And.intro (show (4 : Int32).toNatClampNeg ≤ 10000 by decide +kernel) (And.intro (by decide +kernel) (And.intro (by decide +kernel) h))))))))
set_option maxRecDepth 100000 in
theorem q_52_3 {d : Nat} {Q : am_Q} (w : Q none HC_242) : pW cd_78 (240, 5926) d Q 38 [some (.ref 235)] [(.ref 238), (.ref 235)] HC_241 := pW.run (am_in []) 7 (And.intro (show ¬ (60 : Int32) < 0 by decide +kernel) (And.intro (show (60 : Int32).toNatClampNeg ≤ 10000 by decide +kernel) (And.intro (by decide +kernel) (And.intro (by decide +kernel) ⟨rfl, rfl, w⟩))))
set_option maxRecDepth 100000 in
theorem ct_52 {d : Nat} {Q : am_Q} (w : Q none HC_242) : am_Spec PR (d + 1) 78 (240, 5926) [(.ref 235)] HC_239 Q := pS.of rfl (q_52_1 (q_52_2 (q_52_3 w)))
def R_243 : Nat → Nat → Option Nat := u2 (R_242) 34 40 (some 235)
abbrev HC_243 : am_Hp := (240, 5926, S_242, I_242, L_242, R_243)
set_option maxRecDepth 100000 in
theorem q_11_1 {d : Nat} {Q : am_Q} (h : pW cd_0 (240, 5926) (d + 1) Q 23 [some (.ref 33), none] [] HC_38) : pW cd_0 (240, 5926) (d + 1) Q 0 [some (.ref 33), none] [] HC_37 := pW.run (am_in [23]) 13 (And.intro (show ¬ (41 : Int32) < 0 by decide +kernel) (And.intro (show (41 : Int32).toNatClampNeg ≤ 10000 by decide +kernel) (And.intro (by decide +kernel) (And.intro (by decide +kernel) h))))
set_option maxRecDepth 100000 in
theorem q_11_2 {d : Nat} {Q : am_Q} (h : pW cd_0 (240, 5926) (d + 1) Q 25 [some (.ref 33), some (.int (0))] [] HC_38) : pW cd_0 (240, 5926) (d + 1) Q 23 [some (.ref 33), none] [] HC_38 := pW.run (am_in [25]) 3 (And.intro (Nat.le_of_ble_eq_true rfl) h)
set_option maxRecDepth 100000 in
theorem q_11_3 {d : Nat} {Q : am_Q} (h : pC (240, 5926) (d + 1) 78 [(.ref 35)] HC_39 (am_ret (pW cd_0 (240, 5926) (d + 1) Q) 43 [some (.ref 33), some (.int (0))] [(.ref 35), (.int (0)), (.ref 34)])) : pW cd_0 (240, 5926) (d + 1) Q 25 [some (.ref 33), some (.int (0))] [] HC_38 := pW.run (am_in [43]) 10 (And.intro (fun z => absurd (show (40 : Int32) < (0 : Int32) from z) (by decide +kernel)) (fun _ => (And.intro (by decide +kernel) (And.intro (by decide +kernel) (And.intro rfl h)))))
set_option maxRecDepth 100000 in
theorem q_11_4 {d : Nat} {Q : am_Q} (h : pW cd_0 (240, 5926) (d + 1) Q 25 [some (.ref 33), some (.int (1))] [] HC_43) : pW cd_0 (240, 5926) (d + 1) Q 43 [some (.ref 33), some (.int (0))] [(.ref 35), (.int (0)), (.ref 34)] HC_42 := pW.run (am_in [25]) 4 (And.intro (show vp_in 0 41 from vin_l (by decide +kernel)) (And.intro (Nat.le_of_ble_eq_true rfl) h))
set_option maxRecDepth 100000 in
theorem q_11_5 {d : Nat} {Q : am_Q} (h : pC (240, 5926) (d + 1) 78 [(.ref 40)] HC_44 (am_ret (pW cd_0 (240, 5926) (d + 1) Q) 43 [some (.ref 33), some (.int (1))] [(.ref 40), (.int (1)), (.ref 34)])) : pW cd_0 (240, 5926) (d + 1) Q 25 [some (.ref 33), some (.int (1))] [] HC_43 := pW.run (am_in [43]) 10 (And.intro (fun z => absurd (show (40 : Int32) < (1 : Int32) from z) (by decide +kernel)) (fun _ => (And.intro (by decide +kernel) (And.intro (by decide +kernel) (And.intro rfl h)))))
set_option maxRecDepth 100000 in
theorem q_11_6 {d : Nat} {Q : am_Q} (h : pW cd_0 (240, 5926) (d + 1) Q 25 [some (.ref 33), some (.int (2))] [] HC_48) : pW cd_0 (240, 5926) (d + 1) Q 43 [some (.ref 33), some (.int (1))] [(.ref 40), (.int (1)), (.ref 34)] HC_47 := pW.run (am_in [25]) 4 (And.intro (show vp_in 1 41 from vin_l (by decide +kernel)) (And.intro (Nat.le_of_ble_eq_true rfl) h))
set_option maxRecDepth 100000 in
theorem q_11_7 {d : Nat} {Q : am_Q} (h : pC (240, 5926) (d + 1) 78 [(.ref 45)] HC_49 (am_ret (pW cd_0 (240, 5926) (d + 1) Q) 43 [some (.ref 33), some (.int (2))] [(.ref 45), (.int (2)), (.ref 34)])) : pW cd_0 (240, 5926) (d + 1) Q 25 [some (.ref 33), some (.int (2))] [] HC_48 := pW.run (am_in [43]) 10 (And.intro (fun z => absurd (show (40 : Int32) < (2 : Int32) from z) (by decide +kernel)) (fun _ => (And.intro (by decide +kernel) (And.intro (by decide +kernel) (And.intro rfl h)))))
set_option maxRecDepth 100000 in
theorem q_11_8 {d : Nat} {Q : am_Q} (h : pW cd_0 (240, 5926) (d + 1) Q 25 [some (.ref 33), some (.int (3))] [] HC_53) : pW cd_0 (240, 5926) (d + 1) Q 43 [some (.ref 33), some (.int (2))] [(.ref 45), (.int (2)), (.ref 34)] HC_52 := pW.run (am_in [25]) 4 (And.intro (show vp_in 2 41 from vin_l (by decide +kernel)) (And.intro (Nat.le_of_ble_eq_true rfl) h))
set_option maxRecDepth 100000 in
theorem q_11_9 {d : Nat} {Q : am_Q} (h : pC (240, 5926) (d + 1) 78 [(.ref 50)] HC_54 (am_ret (pW cd_0 (240, 5926) (d + 1) Q) 43 [some (.ref 33), some (.int (3))] [(.ref 50), (.int (3)), (.ref 34)])) : pW cd_0 (240, 5926) (d + 1) Q 25 [some (.ref 33), some (.int (3))] [] HC_53 := pW.run (am_in [43]) 10 (And.intro (fun z => absurd (show (40 : Int32) < (3 : Int32) from z) (by decide +kernel)) (fun _ => (And.intro (by decide +kernel) (And.intro (by decide +kernel) (And.intro rfl h)))))
set_option maxRecDepth 100000 in
theorem q_11_10 {d : Nat} {Q : am_Q} (h : pW cd_0 (240, 5926) (d + 1) Q 25 [some (.ref 33), some (.int (4))] [] HC_58) : pW cd_0 (240, 5926) (d + 1) Q 43 [some (.ref 33), some (.int (3))] [(.ref 50), (.int (3)), (.ref 34)] HC_57 := pW.run (am_in [25]) 4 (And.intro (show vp_in 3 41 from vin_l (by decide +kernel)) (And.intro (Nat.le_of_ble_eq_true rfl) h))
set_option maxRecDepth 100000 in
theorem q_11_11 {d : Nat} {Q : am_Q} (h : pC (240, 5926) (d + 1) 78 [(.ref 55)] HC_59 (am_ret (pW cd_0 (240, 5926) (d + 1) Q) 43 [some (.ref 33), some (.int (4))] [(.ref 55), (.int (4)), (.ref 34)])) : pW cd_0 (240, 5926) (d + 1) Q 25 [some (.ref 33), some (.int (4))] [] HC_58 := pW.run (am_in [43]) 10 (And.intro (fun z => absurd (show (40 : Int32) < (4 : Int32) from z) (by decide +kernel)) (fun _ => (And.intro (by decide +kernel) (And.intro (by decide +kernel) (And.intro rfl h)))))
set_option maxRecDepth 100000 in
theorem q_11_12 {d : Nat} {Q : am_Q} (h : pW cd_0 (240, 5926) (d + 1) Q 25 [some (.ref 33), some (.int (5))] [] HC_63) : pW cd_0 (240, 5926) (d + 1) Q 43 [some (.ref 33), some (.int (4))] [(.ref 55), (.int (4)), (.ref 34)] HC_62 := pW.run (am_in [25]) 4 (And.intro (show vp_in 4 41 from vin_l (by decide +kernel)) (And.intro (Nat.le_of_ble_eq_true rfl) h))
set_option maxRecDepth 100000 in
theorem q_11_13 {d : Nat} {Q : am_Q} (h : pC (240, 5926) (d + 1) 78 [(.ref 60)] HC_64 (am_ret (pW cd_0 (240, 5926) (d + 1) Q) 43 [some (.ref 33), some (.int (5))] [(.ref 60), (.int (5)), (.ref 34)])) : pW cd_0 (240, 5926) (d + 1) Q 25 [some (.ref 33), some (.int (5))] [] HC_63 := pW.run (am_in [43]) 10 (And.intro (fun z => absurd (show (40 : Int32) < (5 : Int32) from z) (by decide +kernel)) (fun _ => (And.intro (by decide +kernel) (And.intro (by decide +kernel) (And.intro rfl h)))))
set_option maxRecDepth 100000 in
theorem q_11_14 {d : Nat} {Q : am_Q} (h : pW cd_0 (240, 5926) (d + 1) Q 25 [some (.ref 33), some (.int (6))] [] HC_68) : pW cd_0 (240, 5926) (d + 1) Q 43 [some (.ref 33), some (.int (5))] [(.ref 60), (.int (5)), (.ref 34)] HC_67 := pW.run (am_in [25]) 4 (And.intro (show vp_in 5 41 from vin_l (by decide +kernel)) (And.intro (Nat.le_of_ble_eq_true rfl) h))
set_option maxRecDepth 100000 in
theorem q_11_15 {d : Nat} {Q : am_Q} (h : pC (240, 5926) (d + 1) 78 [(.ref 65)] HC_69 (am_ret (pW cd_0 (240, 5926) (d + 1) Q) 43 [some (.ref 33), some (.int (6))] [(.ref 65), (.int (6)), (.ref 34)])) : pW cd_0 (240, 5926) (d + 1) Q 25 [some (.ref 33), some (.int (6))] [] HC_68 := pW.run (am_in [43]) 10 (And.intro (fun z => absurd (show (40 : Int32) < (6 : Int32) from z) (by decide +kernel)) (fun _ => (And.intro (by decide +kernel) (And.intro (by decide +kernel) (And.intro rfl h)))))
set_option maxRecDepth 100000 in
theorem q_11_16 {d : Nat} {Q : am_Q} (h : pW cd_0 (240, 5926) (d + 1) Q 25 [some (.ref 33), some (.int (7))] [] HC_73) : pW cd_0 (240, 5926) (d + 1) Q 43 [some (.ref 33), some (.int (6))] [(.ref 65), (.int (6)), (.ref 34)] HC_72 := pW.run (am_in [25]) 4 (And.intro (show vp_in 6 41 from vin_l (by decide +kernel)) (And.intro (Nat.le_of_ble_eq_true rfl) h))
set_option maxRecDepth 100000 in
theorem q_11_17 {d : Nat} {Q : am_Q} (h : pC (240, 5926) (d + 1) 78 [(.ref 70)] HC_74 (am_ret (pW cd_0 (240, 5926) (d + 1) Q) 43 [some (.ref 33), some (.int (7))] [(.ref 70), (.int (7)), (.ref 34)])) : pW cd_0 (240, 5926) (d + 1) Q 25 [some (.ref 33), some (.int (7))] [] HC_73 := pW.run (am_in [43]) 10 (And.intro (fun z => absurd (show (40 : Int32) < (7 : Int32) from z) (by decide +kernel)) (fun _ => (And.intro (by decide +kernel) (And.intro (by decide +kernel) (And.intro rfl h)))))
set_option maxRecDepth 100000 in
theorem q_11_18 {d : Nat} {Q : am_Q} (h : pW cd_0 (240, 5926) (d + 1) Q 25 [some (.ref 33), some (.int (8))] [] HC_78) : pW cd_0 (240, 5926) (d + 1) Q 43 [some (.ref 33), some (.int (7))] [(.ref 70), (.int (7)), (.ref 34)] HC_77 := pW.run (am_in [25]) 4 (And.intro (show vp_in 7 41 from vin_l (by decide +kernel)) (And.intro (Nat.le_of_ble_eq_true rfl) h))
set_option maxRecDepth 100000 in
theorem q_11_19 {d : Nat} {Q : am_Q} (h : pC (240, 5926) (d + 1) 78 [(.ref 75)] HC_79 (am_ret (pW cd_0 (240, 5926) (d + 1) Q) 43 [some (.ref 33), some (.int (8))] [(.ref 75), (.int (8)), (.ref 34)])) : pW cd_0 (240, 5926) (d + 1) Q 25 [some (.ref 33), some (.int (8))] [] HC_78 := pW.run (am_in [43]) 10 (And.intro (fun z => absurd (show (40 : Int32) < (8 : Int32) from z) (by decide +kernel)) (fun _ => (And.intro (by decide +kernel) (And.intro (by decide +kernel) (And.intro rfl h)))))
set_option maxRecDepth 100000 in
theorem q_11_20 {d : Nat} {Q : am_Q} (h : pW cd_0 (240, 5926) (d + 1) Q 25 [some (.ref 33), some (.int (9))] [] HC_83) : pW cd_0 (240, 5926) (d + 1) Q 43 [some (.ref 33), some (.int (8))] [(.ref 75), (.int (8)), (.ref 34)] HC_82 := pW.run (am_in [25]) 4 (And.intro (show vp_in 8 41 from vin_l (by decide +kernel)) (And.intro (Nat.le_of_ble_eq_true rfl) h))
set_option maxRecDepth 100000 in
theorem q_11_21 {d : Nat} {Q : am_Q} (h : pC (240, 5926) (d + 1) 78 [(.ref 80)] HC_84 (am_ret (pW cd_0 (240, 5926) (d + 1) Q) 43 [some (.ref 33), some (.int (9))] [(.ref 80), (.int (9)), (.ref 34)])) : pW cd_0 (240, 5926) (d + 1) Q 25 [some (.ref 33), some (.int (9))] [] HC_83 := pW.run (am_in [43]) 10 (And.intro (fun z => absurd (show (40 : Int32) < (9 : Int32) from z) (by decide +kernel)) (fun _ => (And.intro (by decide +kernel) (And.intro (by decide +kernel) (And.intro rfl h)))))
set_option maxRecDepth 100000 in
theorem q_11_22 {d : Nat} {Q : am_Q} (h : pW cd_0 (240, 5926) (d + 1) Q 25 [some (.ref 33), some (.int (10))] [] HC_88) : pW cd_0 (240, 5926) (d + 1) Q 43 [some (.ref 33), some (.int (9))] [(.ref 80), (.int (9)), (.ref 34)] HC_87 := pW.run (am_in [25]) 4 (And.intro (show vp_in 9 41 from vin_l (by decide +kernel)) (And.intro (Nat.le_of_ble_eq_true rfl) h))
set_option maxRecDepth 100000 in
theorem q_11_23 {d : Nat} {Q : am_Q} (h : pC (240, 5926) (d + 1) 78 [(.ref 85)] HC_89 (am_ret (pW cd_0 (240, 5926) (d + 1) Q) 43 [some (.ref 33), some (.int (10))] [(.ref 85), (.int (10)), (.ref 34)])) : pW cd_0 (240, 5926) (d + 1) Q 25 [some (.ref 33), some (.int (10))] [] HC_88 := pW.run (am_in [43]) 10 (And.intro (fun z => absurd (show (40 : Int32) < (10 : Int32) from z) (by decide +kernel)) (fun _ => (And.intro (by decide +kernel) (And.intro (by decide +kernel) (And.intro rfl h)))))
set_option maxRecDepth 100000 in
theorem q_11_24 {d : Nat} {Q : am_Q} (h : pW cd_0 (240, 5926) (d + 1) Q 25 [some (.ref 33), some (.int (11))] [] HC_93) : pW cd_0 (240, 5926) (d + 1) Q 43 [some (.ref 33), some (.int (10))] [(.ref 85), (.int (10)), (.ref 34)] HC_92 := pW.run (am_in [25]) 4 (And.intro (show vp_in 10 41 from vin_l (by decide +kernel)) (And.intro (Nat.le_of_ble_eq_true rfl) h))
set_option maxRecDepth 100000 in
theorem q_11_25 {d : Nat} {Q : am_Q} (h : pC (240, 5926) (d + 1) 78 [(.ref 90)] HC_94 (am_ret (pW cd_0 (240, 5926) (d + 1) Q) 43 [some (.ref 33), some (.int (11))] [(.ref 90), (.int (11)), (.ref 34)])) : pW cd_0 (240, 5926) (d + 1) Q 25 [some (.ref 33), some (.int (11))] [] HC_93 := pW.run (am_in [43]) 10 (And.intro (fun z => absurd (show (40 : Int32) < (11 : Int32) from z) (by decide +kernel)) (fun _ => (And.intro (by decide +kernel) (And.intro (by decide +kernel) (And.intro rfl h)))))
set_option maxRecDepth 100000 in
theorem q_11_26 {d : Nat} {Q : am_Q} (h : pW cd_0 (240, 5926) (d + 1) Q 25 [some (.ref 33), some (.int (12))] [] HC_98) : pW cd_0 (240, 5926) (d + 1) Q 43 [some (.ref 33), some (.int (11))] [(.ref 90), (.int (11)), (.ref 34)] HC_97 := pW.run (am_in [25]) 4 (And.intro (show vp_in 11 41 from vin_l (by decide +kernel)) (And.intro (Nat.le_of_ble_eq_true rfl) h))
set_option maxRecDepth 100000 in
theorem q_11_27 {d : Nat} {Q : am_Q} (h : pC (240, 5926) (d + 1) 78 [(.ref 95)] HC_99 (am_ret (pW cd_0 (240, 5926) (d + 1) Q) 43 [some (.ref 33), some (.int (12))] [(.ref 95), (.int (12)), (.ref 34)])) : pW cd_0 (240, 5926) (d + 1) Q 25 [some (.ref 33), some (.int (12))] [] HC_98 := pW.run (am_in [43]) 10 (And.intro (fun z => absurd (show (40 : Int32) < (12 : Int32) from z) (by decide +kernel)) (fun _ => (And.intro (by decide +kernel) (And.intro (by decide +kernel) (And.intro rfl h)))))
