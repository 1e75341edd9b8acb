/-! ===== the constructors, by program ===== -/
set_option maxRecDepth 100000 in
theorem q_11_28 {d : Nat} {Q : am_Q} (h : pW cd_0 (240, 5926) (d + 1) Q 25 [some (.ref 33), some (.int (13))] [] HC_103) : pW cd_0 (240, 5926) (d + 1) Q 43 [some (.ref 33), some (.int (12))] [(.ref 95), (.int (12)), (.ref 34)] HC_102 := pW.run (am_in [25]) 4 (And.intro (show vp_in 12 41 from vin_l (by decide +kernel)) (And.intro (Nat.le_of_ble_eq_true rfl) h))
set_option maxRecDepth 100000 in
theorem q_11_29 {d : Nat} {Q : am_Q} (h : pC (240, 5926) (d + 1) 78 [(.ref 100)] HC_104 (am_ret (pW cd_0 (240, 5926) (d + 1) Q) 43 [some (.ref 33), some (.int (13))] [(.ref 100), (.int (13)), (.ref 34)])) : pW cd_0 (240, 5926) (d + 1) Q 25 [some (.ref 33), some (.int (13))] [] HC_103 := pW.run (am_in [43]) 10 (And.intro (fun z => absurd (show (40 : Int32) < (13 : Int32) from z) (by decide +kernel)) (fun _ => (And.intro (by decide +kernel) (And.intro (by decide +kernel) (And.intro rfl h)))))
set_option maxRecDepth 100000 in
theorem q_11_30 {d : Nat} {Q : am_Q} (h : pW cd_0 (240, 5926) (d + 1) Q 25 [some (.ref 33), some (.int (14))] [] HC_108) : pW cd_0 (240, 5926) (d + 1) Q 43 [some (.ref 33), some (.int (13))] [(.ref 100), (.int (13)), (.ref 34)] HC_107 := pW.run (am_in [25]) 4 (And.intro (show vp_in 13 41 from vin_l (by decide +kernel)) (And.intro (Nat.le_of_ble_eq_true rfl) h))
set_option maxRecDepth 100000 in
theorem q_11_31 {d : Nat} {Q : am_Q} (h : pC (240, 5926) (d + 1) 78 [(.ref 105)] HC_109 (am_ret (pW cd_0 (240, 5926) (d + 1) Q) 43 [some (.ref 33), some (.int (14))] [(.ref 105), (.int (14)), (.ref 34)])) : pW cd_0 (240, 5926) (d + 1) Q 25 [some (.ref 33), some (.int (14))] [] HC_108 := pW.run (am_in [43]) 10 (And.intro (fun z => absurd (show (40 : Int32) < (14 : Int32) from z) (by decide +kernel)) (fun _ => (And.intro (by decide +kernel) (And.intro (by decide +kernel) (And.intro rfl h)))))
set_option maxRecDepth 100000 in
theorem q_11_32 {d : Nat} {Q : am_Q} (h : pW cd_0 (240, 5926) (d + 1) Q 25 [some (.ref 33), some (.int (15))] [] HC_113) : pW cd_0 (240, 5926) (d + 1) Q 43 [some (.ref 33), some (.int (14))] [(.ref 105), (.int (14)), (.ref 34)] HC_112 := pW.run (am_in [25]) 4 (And.intro (show vp_in 14 41 from vin_l (by decide +kernel)) (And.intro (Nat.le_of_ble_eq_true rfl) h))
set_option maxRecDepth 100000 in
theorem q_11_33 {d : Nat} {Q : am_Q} (h : pC (240, 5926) (d + 1) 78 [(.ref 110)] HC_114 (am_ret (pW cd_0 (240, 5926) (d + 1) Q) 43 [some (.ref 33), some (.int (15))] [(.ref 110), (.int (15)), (.ref 34)])) : pW cd_0 (240, 5926) (d + 1) Q 25 [some (.ref 33), some (.int (15))] [] HC_113 := pW.run (am_in [43]) 10 (And.intro (fun z => absurd (show (40 : Int32) < (15 : Int32) from z) (by decide +kernel)) (fun _ => (And.intro (by decide +kernel) (And.intro (by decide +kernel) (And.intro rfl h)))))
set_option maxRecDepth 100000 in
theorem q_11_34 {d : Nat} {Q : am_Q} (h : pW cd_0 (240, 5926) (d + 1) Q 25 [some (.ref 33), some (.int (16))] [] HC_118) : pW cd_0 (240, 5926) (d + 1) Q 43 [some (.ref 33), some (.int (15))] [(.ref 110), (.int (15)), (.ref 34)] HC_117 := pW.run (am_in [25]) 4 (And.intro (show vp_in 15 41 from vin_l (by decide +kernel)) (And.intro (Nat.le_of_ble_eq_true rfl) h))
set_option maxRecDepth 100000 in
theorem q_11_35 {d : Nat} {Q : am_Q} (h : pC (240, 5926) (d + 1) 78 [(.ref 115)] HC_119 (am_ret (pW cd_0 (240, 5926) (d + 1) Q) 43 [some (.ref 33), some (.int (16))] [(.ref 115), (.int (16)), (.ref 34)])) : pW cd_0 (240, 5926) (d + 1) Q 25 [some (.ref 33), some (.int (16))] [] HC_118 := pW.run (am_in [43]) 10 (And.intro (fun z => absurd (show (40 : Int32) < (16 : Int32) from z) (by decide +kernel)) (fun _ => (And.intro (by decide +kernel) (And.intro (by decide +kernel) (And.intro rfl h)))))
set_option maxRecDepth 100000 in
theorem q_11_36 {d : Nat} {Q : am_Q} (h : pW cd_0 (240, 5926) (d + 1) Q 25 [some (.ref 33), some (.int (17))] [] HC_123) : pW cd_0 (240, 5926) (d + 1) Q 43 [some (.ref 33), some (.int (16))] [(.ref 115), (.int (16)), (.ref 34)] HC_122 := pW.run (am_in [25]) 4 (And.intro (show vp_in 16 41 from vin_l (by decide +kernel)) (And.intro (Nat.le_of_ble_eq_true rfl) h))
set_option maxRecDepth 100000 in
theorem q_11_37 {d : Nat} {Q : am_Q} (h : pC (240, 5926) (d + 1) 78 [(.ref 120)] HC_124 (am_ret (pW cd_0 (240, 5926) (d + 1) Q) 43 [some (.ref 33), some (.int (17))] [(.ref 120), (.int (17)), (.ref 34)])) : pW cd_0 (240, 5926) (d + 1) Q 25 [some (.ref 33), some (.int (17))] [] HC_123 := pW.run (am_in [43]) 10 (And.intro (fun z => absurd (show (40 : Int32) < (17 : Int32) from z) (by decide +kernel)) (fun _ => (And.intro (by decide +kernel) (And.intro (by decide +kernel) (And.intro rfl h)))))
set_option maxRecDepth 100000 in
theorem q_11_38 {d : Nat} {Q : am_Q} (h : pW cd_0 (240, 5926) (d + 1) Q 25 [some (.ref 33), some (.int (18))] [] HC_128) : pW cd_0 (240, 5926) (d + 1) Q 43 [some (.ref 33), some (.int (17))] [(.ref 120), (.int (17)), (.ref 34)] HC_127 := pW.run (am_in [25]) 4 (And.intro (show vp_in 17 41 from vin_l (by decide +kernel)) (And.intro (Nat.le_of_ble_eq_true rfl) h))
set_option maxRecDepth 100000 in
theorem q_11_39 {d : Nat} {Q : am_Q} (h : pC (240, 5926) (d + 1) 78 [(.ref 125)] HC_129 (am_ret (pW cd_0 (240, 5926) (d + 1) Q) 43 [some (.ref 33), some (.int (18))] [(.ref 125), (.int (18)), (.ref 34)])) : pW cd_0 (240, 5926) (d + 1) Q 25 [some (.ref 33), some (.int (18))] [] HC_128 := pW.run (am_in [43]) 10 (And.intro (fun z => absurd (show (40 : Int32) < (18 : Int32) from z) (by decide +kernel)) (fun _ => (And.intro (by decide +kernel) (And.intro (by decide +kernel) (And.intro rfl h)))))
set_option maxRecDepth 100000 in
theorem q_11_40 {d : Nat} {Q : am_Q} (h : pW cd_0 (240, 5926) (d + 1) Q 25 [some (.ref 33), some (.int (19))] [] HC_133) : pW cd_0 (240, 5926) (d + 1) Q 43 [some (.ref 33), some (.int (18))] [(.ref 125), (.int (18)), (.ref 34)] HC_132 := pW.run (am_in [25]) 4 (And.intro (show vp_in 18 41 from vin_l (by decide +kernel)) (And.intro (Nat.le_of_ble_eq_true rfl) h))
set_option maxRecDepth 100000 in
theorem q_11_41 {d : Nat} {Q : am_Q} (h : pC (240, 5926) (d + 1) 78 [(.ref 130)] HC_134 (am_ret (pW cd_0 (240, 5926) (d + 1) Q) 43 [some (.ref 33), some (.int (19))] [(.ref 130), (.int (19)), (.ref 34)])) : pW cd_0 (240, 5926) (d + 1) Q 25 [some (.ref 33), some (.int (19))] [] HC_133 := pW.run (am_in [43]) 10 (And.intro (fun z => absurd (show (40 : Int32) < (19 : Int32) from z) (by decide +kernel)) (fun _ => (And.intro (by decide +kernel) (And.intro (by decide +kernel) (And.intro rfl h)))))
set_option maxRecDepth 100000 in
theorem q_11_42 {d : Nat} {Q : am_Q} (h : pW cd_0 (240, 5926) (d + 1) Q 25 [some (.ref 33), some (.int (20))] [] HC_138) : pW cd_0 (240, 5926) (d + 1) Q 43 [some (.ref 33), some (.int (19))] [(.ref 130), (.int (19)), (.ref 34)] HC_137 := pW.run (am_in [25]) 4 (And.intro (show vp_in 19 41 from vin_l (by decide +kernel)) (And.intro (Nat.le_of_ble_eq_true rfl) h))
set_option maxRecDepth 100000 in
theorem q_11_43 {d : Nat} {Q : am_Q} (h : pC (240, 5926) (d + 1) 78 [(.ref 135)] HC_139 (am_ret (pW cd_0 (240, 5926) (d + 1) Q) 43 [some (.ref 33), some (.int (20))] [(.ref 135), (.int (20)), (.ref 34)])) : pW cd_0 (240, 5926) (d + 1) Q 25 [some (.ref 33), some (.int (20))] [] HC_138 := pW.run (am_in [43]) 10 (And.intro (fun z => absurd (show (40 : Int32) < (20 : Int32) from z) (by decide +kernel)) (fun _ => (And.intro (by decide +kernel) (And.intro (by decide +kernel) (And.intro rfl h)))))
set_option maxRecDepth 100000 in
theorem q_11_44 {d : Nat} {Q : am_Q} (h : pW cd_0 (240, 5926) (d + 1) Q 25 [some (.ref 33), some (.int (21))] [] HC_143) : pW cd_0 (240, 5926) (d + 1) Q 43 [some (.ref 33), some (.int (20))] [(.ref 135), (.int (20)), (.ref 34)] HC_142 := pW.run (am_in [25]) 4 (And.intro (show vp_in 20 41 from vin_l (by decide +kernel)) (And.intro (Nat.le_of_ble_eq_true rfl) h))
set_option maxRecDepth 100000 in
theorem q_11_45 {d : Nat} {Q : am_Q} (h : pC (240, 5926) (d + 1) 78 [(.ref 140)] HC_144 (am_ret (pW cd_0 (240, 5926) (d + 1) Q) 43 [some (.ref 33), some (.int (21))] [(.ref 140), (.int (21)), (.ref 34)])) : pW cd_0 (240, 5926) (d + 1) Q 25 [some (.ref 33), some (.int (21))] [] HC_143 := pW.run (am_in [43]) 10 (And.intro (fun z => absurd (show (40 : Int32) < (21 : Int32) from z) (by decide +kernel)) (fun _ => (And.intro (by decide +kernel) (And.intro (by decide +kernel) (And.intro rfl h)))))
set_option maxRecDepth 100000 in
theorem q_11_46 {d : Nat} {Q : am_Q} (h : pW cd_0 (240, 5926) (d + 1) Q 25 [some (.ref 33), some (.int (22))] [] HC_148) : pW cd_0 (240, 5926) (d + 1) Q 43 [some (.ref 33), some (.int (21))] [(.ref 140), (.int (21)), (.ref 34)] HC_147 := pW.run (am_in [25]) 4 (And.intro (show vp_in 21 41 from vin_l (by decide +kernel)) (And.intro (Nat.le_of_ble_eq_true rfl) h))
set_option maxRecDepth 100000 in
theorem q_11_47 {d : Nat} {Q : am_Q} (h : pC (240, 5926) (d + 1) 78 [(.ref 145)] HC_149 (am_ret (pW cd_0 (240, 5926) (d + 1) Q) 43 [some (.ref 33), some (.int (22))] [(.ref 145), (.int (22)), (.ref 34)])) : pW cd_0 (240, 5926) (d + 1) Q 25 [some (.ref 33), some (.int (22))] [] HC_148 := pW.run (am_in [43]) 10 (And.intro (fun z => absurd (show (40 : Int32) < (22 : Int32) from z) (by decide +kernel)) (fun _ => (And.intro (by decide +kernel) (And.intro (by decide +kernel) (And.intro rfl h)))))
set_option maxRecDepth 100000 in
theorem q_11_48 {d : Nat} {Q : am_Q} (h : pW cd_0 (240, 5926) (d + 1) Q 25 [some (.ref 33), some (.int (23))] [] HC_153) : pW cd_0 (240, 5926) (d + 1) Q 43 [some (.ref 33), some (.int (22))] [(.ref 145), (.int (22)), (.ref 34)] HC_152 := pW.run (am_in [25]) 4 (And.intro (show vp_in 22 41 from vin_l (by decide +kernel)) (And.intro (Nat.le_of_ble_eq_true rfl) h))
set_option maxRecDepth 100000 in
theorem q_11_49 {d : Nat} {Q : am_Q} (h : pC (240, 5926) (d + 1) 78 [(.ref 150)] HC_154 (am_ret (pW cd_0 (240, 5926) (d + 1) Q) 43 [some (.ref 33), some (.int (23))] [(.ref 150), (.int (23)), (.ref 34)])) : pW cd_0 (240, 5926) (d + 1) Q 25 [some (.ref 33), some (.int (23))] [] HC_153 := pW.run (am_in [43]) 10 (And.intro (fun z => absurd (show (40 : Int32) < (23 : Int32) from z) (by decide +kernel)) (fun _ => (And.intro (by decide +kernel) (And.intro (by decide +kernel) (And.intro rfl h)))))
set_option maxRecDepth 100000 in
theorem q_11_50 {d : Nat} {Q : am_Q} (h : pW cd_0 (240, 5926) (d + 1) Q 25 [some (.ref 33), some (.int (24))] [] HC_158) : pW cd_0 (240, 5926) (d + 1) Q 43 [some (.ref 33), some (.int (23))] [(.ref 150), (.int (23)), (.ref 34)] HC_157 := pW.run (am_in [25]) 4 (And.intro (show vp_in 23 41 from vin_l (by decide +kernel)) (And.intro (Nat.le_of_ble_eq_true rfl) h))
set_option maxRecDepth 100000 in
theorem q_11_51 {d : Nat} {Q : am_Q} (h : pC (240, 5926) (d + 1) 78 [(.ref 155)] HC_159 (am_ret (pW cd_0 (240, 5926) (d + 1) Q) 43 [some (.ref 33), some (.int (24))] [(.ref 155), (.int (24)), (.ref 34)])) : pW cd_0 (240, 5926) (d + 1) Q 25 [some (.ref 33), some (.int (24))] [] HC_158 := pW.run (am_in [43]) 10 (And.intro (fun z => absurd (show (40 : Int32) < (24 : Int32) from z) (by decide +kernel)) (fun _ => (And.intro (by decide +kernel) (And.intro (by decide +kernel) (And.intro rfl h)))))
set_option maxRecDepth 100000 in
theorem q_11_52 {d : Nat} {Q : am_Q} (h : pW cd_0 (240, 5926) (d + 1) Q 25 [some (.ref 33), some (.int (25))] [] HC_163) : pW cd_0 (240, 5926) (d + 1) Q 43 [some (.ref 33), some (.int (24))] [(.ref 155), (.int (24)), (.ref 34)] HC_162 := pW.run (am_in [25]) 4 (And.intro (show vp_in 24 41 from vin_l (by decide +kernel)) (And.intro (Nat.le_of_ble_eq_true rfl) h))
set_option maxRecDepth 100000 in
theorem q_11_53 {d : Nat} {Q : am_Q} (h : pC (240, 5926) (d + 1) 78 [(.ref 160)] HC_164 (am_ret (pW cd_0 (240, 5926) (d + 1) Q) 43 [some (.ref 33), some (.int (25))] [(.ref 160), (.int (25)), (.ref 34)])) : pW cd_0 (240, 5926) (d + 1) Q 25 [some (.ref 33), some (.int (25))] [] HC_163 := pW.run (am_in [43]) 10 (And.intro (fun z => absurd (show (40 : Int32) < (25 : Int32) from z) (by decide +kernel)) (fun _ => (And.intro (by decide +kernel) (And.intro (by decide +kernel) (And.intro rfl h)))))
set_option maxRecDepth 100000 in
theorem q_11_54 {d : Nat} {Q : am_Q} (h : pW cd_0 (240, 5926) (d + 1) Q 25 [some (.ref 33), some (.int (26))] [] HC_168) : pW cd_0 (240, 5926) (d + 1) Q 43 [some (.ref 33), some (.int (25))] [(.ref 160), (.int (25)), (.ref 34)] HC_167 := pW.run (am_in [25]) 4 (And.intro (show vp_in 25 41 from vin_l (by decide +kernel)) (And.intro (Nat.le_of_ble_eq_true rfl) h))
set_option maxRecDepth 100000 in
theorem q_11_55 {d : Nat} {Q : am_Q} (h : pC (240, 5926) (d + 1) 78 [(.ref 165)] HC_169 (am_ret (pW cd_0 (240, 5926) (d + 1) Q) 43 [some (.ref 33), some (.int (26))] [(.ref 165), (.int (26)), (.ref 34)])) : pW cd_0 (240, 5926) (d + 1) Q 25 [some (.ref 33), some (.int (26))] [] HC_168 := pW.run (am_in [43]) 10 (And.intro (fun z => absurd (show (40 : Int32) < (26 : Int32) from z) (by decide +kernel)) (fun _ => (And.intro (by decide +kernel) (And.intro (by decide +kernel) (And.intro rfl h)))))
set_option maxRecDepth 100000 in
theorem q_11_56 {d : Nat} {Q : am_Q} (h : pW cd_0 (240, 5926) (d + 1) Q 25 [some (.ref 33), some (.int (27))] [] HC_173) : pW cd_0 (240, 5926) (d + 1) Q 43 [some (.ref 33), some (.int (26))] [(.ref 165), (.int (26)), (.ref 34)] HC_172 := pW.run (am_in [25]) 4 (And.intro (show vp_in 26 41 from vin_l (by decide +kernel)) (And.intro (Nat.le_of_ble_eq_true rfl) h))
set_option maxRecDepth 100000 in
theorem q_11_57 {d : Nat} {Q : am_Q} (h : pC (240, 5926) (d + 1) 78 [(.ref 170)] HC_174 (am_ret (pW cd_0 (240, 5926) (d + 1) Q) 43 [some (.ref 33), some (.int (27))] [(.ref 170), (.int (27)), (.ref 34)])) : pW cd_0 (240, 5926) (d + 1) Q 25 [some (.ref 33), some (.int (27))] [] HC_173 := pW.run (am_in [43]) 10 (And.intro (fun z => absurd (show (40 : Int32) < (27 : Int32) from z) (by decide +kernel)) (fun _ => (And.intro (by decide +kernel) (And.intro (by decide +kernel) (And.intro rfl h)))))
set_option maxRecDepth 100000 in
theorem q_11_58 {d : Nat} {Q : am_Q} (h : pW cd_0 (240, 5926) (d + 1) Q 25 [some (.ref 33), some (.int (28))] [] HC_178) : pW cd_0 (240, 5926) (d + 1) Q 43 [some (.ref 33), some (.int (27))] [(.ref 170), (.int (27)), (.ref 34)] HC_177 := pW.run (am_in [25]) 4 (And.intro (show vp_in 27 41 from vin_l (by decide +kernel)) (And.intro (Nat.le_of_ble_eq_true rfl) h))
set_option maxRecDepth 100000 in
theorem q_11_59 {d : Nat} {Q : am_Q} (h : pC (240, 5926) (d + 1) 78 [(.ref 175)] HC_179 (am_ret (pW cd_0 (240, 5926) (d + 1) Q) 43 [some (.ref 33), some (.int (28))] [(.ref 175), (.int (28)), (.ref 34)])) : pW cd_0 (240, 5926) (d + 1) Q 25 [some (.ref 33), some (.int (28))] [] HC_178 := pW.run (am_in [43]) 10 (And.intro (fun z => absurd (show (40 : Int32) < (28 : Int32) from z) (by decide +kernel)) (fun _ => (And.intro (by decide +kernel) (And.intro (by decide +kernel) (And.intro rfl h)))))
set_option maxRecDepth 100000 in
theorem q_11_60 {d : Nat} {Q : am_Q} (h : pW cd_0 (240, 5926) (d + 1) Q 25 [some (.ref 33), some (.int (29))] [] HC_183) : pW cd_0 (240, 5926) (d + 1) Q 43 [some (.ref 33), some (.int (28))] [(.ref 175), (.int (28)), (.ref 34)] HC_182 := pW.run (am_in [25]) 4 (And.intro (show vp_in 28 41 from vin_l (by decide +kernel)) (And.intro (Nat.le_of_ble_eq_true rfl) h))
set_option maxRecDepth 100000 in
theorem q_11_61 {d : Nat} {Q : am_Q} (h : pC (240, 5926) (d + 1) 78 [(.ref 180)] HC_184 (am_ret (pW cd_0 (240, 5926) (d + 1) Q) 43 [some (.ref 33), some (.int (29))] [(.ref 180), (.int (29)), (.ref 34)])) : pW cd_0 (240, 5926) (d + 1) Q 25 [some (.ref 33), some (.int (29))] [] HC_183 := pW.run (am_in [43]) 10 (And.intro (fun z => absurd (show (40 : Int32) < (29 : Int32) from z) (by decide +kernel)) (fun _ => (And.intro (by decide +kernel) (And.intro (by decide +kernel) (And.intro rfl h)))))
set_option maxRecDepth 100000 in
theorem q_11_62 {d : Nat} {Q : am_Q} (h : pW cd_0 (240, 5926) (d + 1) Q 25 [some (.ref 33), some (.int (30))] [] HC_188) : pW cd_0 (240, 5926) (d + 1) Q 43 [some (.ref 33), some (.int (29))] [(.ref 180), (.int (29)), (.ref 34)] HC_187 := pW.run (am_in [25]) 4 (And.intro (show vp_in 29 41 from vin_l (by decide +kernel)) (And.intro (Nat.le_of_ble_eq_true rfl) h))
set_option maxRecDepth 100000 in
theorem q_11_63 {d : Nat} {Q : am_Q} (h : pC (240, 5926) (d + 1) 78 [(.ref 185)] HC_189 (am_ret (pW cd_0 (240, 5926) (d + 1) Q) 43 [some (.ref 33), some (.int (30))] [(.ref 185), (.int (30)), (.ref 34)])) : pW cd_0 (240, 5926) (d + 1) Q 25 [some (.ref 33), some (.int (30))] [] HC_188 := pW.run (am_in [43]) 10 (And.intro (fun z => absurd (show (40 : Int32) < (30 : Int32) from z) (by decide +kernel)) (fun _ => (And.intro (by decide +kernel) (And.intro (by decide +kernel) (And.intro rfl h)))))
set_option maxRecDepth 100000 in
theorem q_11_64 {d : Nat} {Q : am_Q} (h : pW cd_0 (240, 5926) (d + 1) Q 25 [some (.ref 33), some (.int (31))] [] HC_193) : pW cd_0 (240, 5926) (d + 1) Q 43 [some (.ref 33), some (.int (30))] [(.ref 185), (.int (30)), (.ref 34)] HC_192 := pW.run (am_in [25]) 4 (And.intro (show vp_in 30 41 from vin_l (by decide +kernel)) (And.intro (Nat.le_of_ble_eq_true rfl) h))
set_option maxRecDepth 100000 in
theorem q_11_65 {d : Nat} {Q : am_Q} (h : pC (240, 5926) (d + 1) 78 [(.ref 190)] HC_194 (am_ret (pW cd_0 (240, 5926) (d + 1) Q) 43 [some (.ref 33), some (.int (31))] [(.ref 190), (.int (31)), (.ref 34)])) : pW cd_0 (240, 5926) (d + 1) Q 25 [some (.ref 33), some (.int (31))] [] HC_193 := pW.run (am_in [43]) 10 (And.intro (fun z => absurd (show (40 : Int32) < (31 : Int32) from z) (by decide +kernel)) (fun _ => (And.intro (by decide +kernel) (And.intro (by decide +kernel) (And.intro rfl h)))))
set_option maxRecDepth 100000 in
theorem q_11_66 {d : Nat} {Q : am_Q} (h : pW cd_0 (240, 5926) (d + 1) Q 25 [some (.ref 33), some (.int (32))] [] HC_198) : pW cd_0 (240, 5926) (d + 1) Q 43 [some (.ref 33), some (.int (31))] [(.ref 190), (.int (31)), (.ref 34)] HC_197 := pW.run (am_in [25]) 4 (And.intro (show vp_in 31 41 from vin_l (by decide +kernel)) (And.intro (Nat.le_of_ble_eq_true rfl) h))
set_option maxRecDepth 100000 in
theorem q_11_67 {d : Nat} {Q : am_Q} (h : pC (240, 5926) (d + 1) 78 [(.ref 195)] HC_199 (am_ret (pW cd_0 (240, 5926) (d + 1) Q) 43 [some (.ref 33), some (.int (32))] [(.ref 195), (.int (32)), (.ref 34)])) : pW cd_0 (240, 5926) (d + 1) Q 25 [some (.ref 33), some (.int (32))] [] HC_198 := pW.run (am_in [43]) 10 (And.intro (fun z => absurd (show (40 : Int32) < (32 : Int32) from z) (by decide +kernel)) (fun _ => (And.intro (by decide +kernel) (And.intro (by decide +kernel) (And.intro rfl h)))))
set_option maxRecDepth 100000 in
theorem q_11_68 {d : Nat} {Q : am_Q} (h : pW cd_0 (240, 5926) (d + 1) Q 25 [some (.ref 33), some (.int (33))] [] HC_203) : pW cd_0 (240, 5926) (d + 1) Q 43 [some (.ref 33), some (.int (32))] [(.ref 195), (.int (32)), (.ref 34)] HC_202 := pW.run (am_in [25]) 4 (And.intro (show vp_in 32 41 from vin_l (by decide +kernel)) (And.intro (Nat.le_of_ble_eq_true rfl) h))
set_option maxRecDepth 100000 in
theorem q_11_69 {d : Nat} {Q : am_Q} (h : pC (240, 5926) (d + 1) 78 [(.ref 200)] HC_204 (am_ret (pW cd_0 (240, 5926) (d + 1) Q) 43 [some (.ref 33), some (.int (33))] [(.ref 200), (.int (33)), (.ref 34)])) : pW cd_0 (240, 5926) (d + 1) Q 25 [some (.ref 33), some (.int (33))] [] HC_203 := pW.run (am_in [43]) 10 (And.intro (fun z => absurd (show (40 : Int32) < (33 : Int32) from z) (by decide +kernel)) (fun _ => (And.intro (by decide +kernel) (And.intro (by decide +kernel) (And.intro rfl h)))))
set_option maxRecDepth 100000 in
theorem q_11_70 {d : Nat} {Q : am_Q} (h : pW cd_0 (240, 5926) (d + 1) Q 25 [some (.ref 33), some (.int (34))] [] HC_208) : pW cd_0 (240, 5926) (d + 1) Q 43 [some (.ref 33), some (.int (33))] [(.ref 200), (.int (33)), (.ref 34)] HC_207 := pW.run (am_in [25]) 4 (And.intro (show vp_in 33 41 from vin_l (by decide +kernel)) (And.intro (Nat.le_of_ble_eq_true rfl) h))
set_option maxRecDepth 100000 in
theorem q_11_71 {d : Nat} {Q : am_Q} (h : pC (240, 5926) (d + 1) 78 [(.ref 205)] HC_209 (am_ret (pW cd_0 (240, 5926) (d + 1) Q) 43 [some (.ref 33), some (.int (34))] [(.ref 205), (.int (34)), (.ref 34)])) : pW cd_0 (240, 5926) (d + 1) Q 25 [some (.ref 33), some (.int (34))] [] HC_208 := pW.run (am_in [43]) 10 (And.intro (fun z => absurd (show (40 : Int32) < (34 : Int32) from z) (by decide +kernel)) (fun _ => (And.intro (by decide +kernel) (And.intro (by decide +kernel) (And.intro rfl h)))))
set_option maxRecDepth 100000 in
theorem q_11_72 {d : Nat} {Q : am_Q} (h : pW cd_0 (240, 5926) (d + 1) Q 25 [some (.ref 33), some (.int (35))] [] HC_213) : pW cd_0 (240, 5926) (d + 1) Q 43 [some (.ref 33), some (.int (34))] [(.ref 205), (.int (34)), (.ref 34)] HC_212 := pW.run (am_in [25]) 4 (And.intro (show vp_in 34 41 from vin_l (by decide +kernel)) (And.intro (Nat.le_of_ble_eq_true rfl) h))
set_option maxRecDepth 100000 in
theorem q_11_73 {d : Nat} {Q : am_Q} (h : pC (240, 5926) (d + 1) 78 [(.ref 210)] HC_214 (am_ret (pW cd_0 (240, 5926) (d + 1) Q) 43 [some (.ref 33), some (.int (35))] [(.ref 210), (.int (35)), (.ref 34)])) : pW cd_0 (240, 5926) (d + 1) Q 25 [some (.ref 33), some (.int (35))] [] HC_213 := pW.run (am_in [43]) 10 (And.intro (fun z => absurd (show (40 : Int32) < (35 : Int32) from z) (by decide +kernel)) (fun _ => (And.intro (by decide +kernel) (And.intro (by decide +kernel) (And.intro rfl h)))))
set_option maxRecDepth 100000 in
theorem q_11_74 {d : Nat} {Q : am_Q} (h : pW cd_0 (240, 5926) (d + 1) Q 25 [some (.ref 33), some (.int (36))] [] HC_218) : pW cd_0 (240, 5926) (d + 1) Q 43 [some (.ref 33), some (.int (35))] [(.ref 210), (.int (35)), (.ref 34)] HC_217 := pW.run (am_in [25]) 4 (And.intro (show vp_in 35 41 from vin_l (by decide +kernel)) (And.intro (Nat.le_of_ble_eq_true rfl) h))
set_option maxRecDepth 100000 in
theorem q_11_75 {d : Nat} {Q : am_Q} (h : pC (240, 5926) (d + 1) 78 [(.ref 215)] HC_219 (am_ret (pW cd_0 (240, 5926) (d + 1) Q) 43 [some (.ref 33), some (.int (36))] [(.ref 215), (.int (36)), (.ref 34)])) : pW cd_0 (240, 5926) (d + 1) Q 25 [some (.ref 33), some (.int (36))] [] HC_218 := pW.run (am_in [43]) 10 (And.intro (fun z => absurd (show (40 : Int32) < (36 : Int32) from z) (by decide +kernel)) (fun _ => (And.intro (by decide +kernel) (And.intro (by decide +kernel) (And.intro rfl h)))))
set_option maxRecDepth 100000 in
theorem q_11_76 {d : Nat} {Q : am_Q} (h : pW cd_0 (240, 5926) (d + 1) Q 25 [some (.ref 33), some (.int (37))] [] HC_223) : pW cd_0 (240, 5926) (d + 1) Q 43 [some (.ref 33), some (.int (36))] [(.ref 215), (.int (36)), (.ref 34)] HC_222 := pW.run (am_in [25]) 4 (And.intro (show vp_in 36 41 from vin_l (by decide +kernel)) (And.intro (Nat.le_of_ble_eq_true rfl) h))
set_option maxRecDepth 100000 in
theorem q_11_77 {d : Nat} {Q : am_Q} (h : pC (240, 5926) (d + 1) 78 [(.ref 220)] HC_224 (am_ret (pW cd_0 (240, 5926) (d + 1) Q) 43 [some (.ref 33), some (.int (37))] [(.ref 220), (.int (37)), (.ref 34)])) : pW cd_0 (240, 5926) (d + 1) Q 25 [some (.ref 33), some (.int (37))] [] HC_223 := pW.run (am_in [43]) 10 (And.intro (fun z => absurd (show (40 : Int32) < (37 : Int32) from z) (by decide +kernel)) (fun _ => (And.intro (by decide +kernel) (And.intro (by decide +kernel) (And.intro rfl h)))))
set_option maxRecDepth 100000 in
theorem q_11_78 {d : Nat} {Q : am_Q} (h : pW cd_0 (240, 5926) (d + 1) Q 25 [some (.ref 33), some (.int (38))] [] HC_228) : pW cd_0 (240, 5926) (d + 1) Q 43 [some (.ref 33), some (.int (37))] [(.ref 220), (.int (37)), (.ref 34)] HC_227 := pW.run (am_in [25]) 4 (And.intro (show vp_in 37 41 from vin_l (by decide +kernel)) (And.intro (Nat.le_of_ble_eq_true rfl) h))
set_option maxRecDepth 100000 in
theorem q_11_79 {d : Nat} {Q : am_Q} (h : pC (240, 5926) (d + 1) 78 [(.ref 225)] HC_229 (am_ret (pW cd_0 (240, 5926) (d + 1) Q) 43 [some (.ref 33), some (.int (38))] [(.ref 225), (.int (38)), (.ref 34)])) : pW cd_0 (240, 5926) (d + 1) Q 25 [some (.ref 33), some (.int (38))] [] HC_228 := pW.run (am_in [43]) 10 (And.intro (fun z => absurd (show (40 : Int32) < (38 : Int32) from z) (by decide +kernel)) (fun _ => (And.intro (by decide +kernel) (And.intro (by decide +kernel) (And.intro rfl h)))))
set_option maxRecDepth 100000 in
theorem q_11_80 {d : Nat} {Q : am_Q} (h : pW cd_0 (240, 5926) (d + 1) Q 25 [some (.ref 33), some (.int (39))] [] HC_233) : pW cd_0 (240, 5926) (d + 1) Q 43 [some (.ref 33), some (.int (38))] [(.ref 225), (.int (38)), (.ref 34)] HC_232 := pW.run (am_in [25]) 4 (And.intro (show vp_in 38 41 from vin_l (by decide +kernel)) (And.intro (Nat.le_of_ble_eq_true rfl) h))
set_option maxRecDepth 100000 in
theorem q_11_81 {d : Nat} {Q : am_Q} (h : pC (240, 5926) (d + 1) 78 [(.ref 230)] HC_234 (am_ret (pW cd_0 (240, 5926) (d + 1) Q) 43 [some (.ref 33), some (.int (39))] [(.ref 230), (.int (39)), (.ref 34)])) : pW cd_0 (240, 5926) (d + 1) Q 25 [some (.ref 33), some (.int (39))] [] HC_233 := pW.run (am_in [43]) 10 (And.intro (fun z => absurd (show (40 : Int32) < (39 : Int32) from z) (by decide +kernel)) (fun _ => (And.intro (by decide +kernel) (And.intro (by decide +kernel) (And.intro rfl h)))))
set_option maxRecDepth 100000 in
theorem q_11_82 {d : Nat} {Q : am_Q} (h : pW cd_0 (240, 5926) (d + 1) Q 25 [some (.ref 33), some (.int (40))] [] HC_238) : pW cd_0 (240, 5926) (d + 1) Q 43 [some (.ref 33), some (.int (39))] [(.ref 230), (.int (39)), (.ref 34)] HC_237 := pW.run (am_in [25]) 4 (And.intro (show vp_in 39 41 from vin_l (by decide +kernel)) (And.intro (Nat.le_of_ble_eq_true rfl) h))
set_option maxRecDepth 100000 in
theorem q_11_83 {d : Nat} {Q : am_Q} (h : pC (240, 5926) (d + 1) 78 [(.ref 235)] HC_239 (am_ret (pW cd_0 (240, 5926) (d + 1) Q) 43 [some (.ref 33), some (.int (40))] [(.ref 235), (.int (40)), (.ref 34)])) : pW cd_0 (240, 5926) (d + 1) Q 25 [some (.ref 33), some (.int (40))] [] HC_238 := pW.run (am_in [43]) 10 (And.intro (fun z => absurd (show (40 : Int32) < (40 : Int32) from z) (by decide +kernel)) (fun _ => (And.intro (by decide +kernel) (And.intro (by decide +kernel) (And.intro rfl h)))))
set_option maxRecDepth 100000 in
theorem q_11_84 {d : Nat} {Q : am_Q} (h : pW cd_0 (240, 5926) (d + 1) Q 25 [some (.ref 33), some (.int (41))] [] HC_243) : pW cd_0 (240, 5926) (d + 1) Q 43 [some (.ref 33), some (.int (40))] [(.ref 235), (.int (40)), (.ref 34)] HC_242 := pW.run (am_in [25]) 4 (And.intro (show vp_in 40 41 from vin_l (by decide +kernel)) (And.intro (Nat.le_of_ble_eq_true rfl) h))
set_option maxRecDepth 100000 in
theorem q_11_85 {d : Nat} {Q : am_Q} (w : Q none HC_243) : pW cd_0 (240, 5926) (d + 1) Q 25 [some (.ref 33), some (.int (41))] [] HC_243 := pW.run (am_in []) 5 (And.intro (fun _ => ⟨rfl, rfl, w⟩) (fun z => absurd (show (40 : Int32) < (41 : Int32) by decide +kernel) z))
set_option maxRecDepth 100000 in
theorem ct_11 {d : Nat} {Q : am_Q} (w : Q none HC_243) : am_Spec PR (d + 2) 0 (240, 5926) [(.ref 33)] HC_37 Q := pS.of rfl (q_11_1 (q_11_2 (q_11_3 ⟨(40, 2606), Nat.le_of_ble_eq_true rfl, Nat.le_of_ble_eq_true rfl, Nat.le_of_ble_eq_true rfl, Nat.le_of_ble_eq_true rfl, ct_12 (q_11_4 (q_11_5 ⟨(45, 2689), Nat.le_of_ble_eq_true rfl, Nat.le_of_ble_eq_true rfl, Nat.le_of_ble_eq_true rfl, Nat.le_of_ble_eq_true rfl, ct_13 (q_11_6 (q_11_7 ⟨(50, 2772), Nat.le_of_ble_eq_true rfl, Nat.le_of_ble_eq_true rfl, Nat.le_of_ble_eq_true rfl, Nat.le_of_ble_eq_true rfl, ct_14 (q_11_8 (q_11_9 ⟨(55, 2855), Nat.le_of_ble_eq_true rfl, Nat.le_of_ble_eq_true rfl, Nat.le_of_ble_eq_true rfl, Nat.le_of_ble_eq_true rfl, ct_15 (q_11_10 (q_11_11 ⟨(60, 2938), Nat.le_of_ble_eq_true rfl, Nat.le_of_ble_eq_true rfl, Nat.le_of_ble_eq_true rfl, Nat.le_of_ble_eq_true rfl, ct_16 (q_11_12 (q_11_13 ⟨(65, 3021), Nat.le_of_ble_eq_true rfl, Nat.le_of_ble_eq_true rfl, Nat.le_of_ble_eq_true rfl, Nat.le_of_ble_eq_true rfl, ct_17 (q_11_14 (q_11_15 ⟨(70, 3104), Nat.le_of_ble_eq_true rfl, Nat.le_of_ble_eq_true rfl, Nat.le_of_ble_eq_true rfl, Nat.le_of_ble_eq_true rfl, ct_18 (q_11_16 (q_11_17 ⟨(75, 3187), Nat.le_of_ble_eq_true rfl, Nat.le_of_ble_eq_true rfl, Nat.le_of_ble_eq_true rfl, Nat.le_of_ble_eq_true rfl, ct_19 (q_11_18 (q_11_19 ⟨(80, 3270), Nat.le_of_ble_eq_true rfl, Nat.le_of_ble_eq_true rfl, Nat.le_of_ble_eq_true rfl, Nat.le_of_ble_eq_true rfl, ct_20 (q_11_20 (q_11_21 ⟨(85, 3353), Nat.le_of_ble_eq_true rfl, Nat.le_of_ble_eq_true rfl, Nat.le_of_ble_eq_true rfl, Nat.le_of_ble_eq_true rfl, ct_21 (q_11_22 (q_11_23 ⟨(90, 3436), Nat.le_of_ble_eq_true rfl, Nat.le_of_ble_eq_true rfl, Nat.le_of_ble_eq_true rfl, Nat.le_of_ble_eq_true rfl, ct_22 (q_11_24 (q_11_25 ⟨(95, 3519), Nat.le_of_ble_eq_true rfl, Nat.le_of_ble_eq_true rfl, Nat.le_of_ble_eq_true rfl, Nat.le_of_ble_eq_true rfl, ct_23 (q_11_26 (q_11_27 ⟨(100, 3602), Nat.le_of_ble_eq_true rfl, Nat.le_of_ble_eq_true rfl, Nat.le_of_ble_eq_true rfl, Nat.le_of_ble_eq_true rfl, ct_24 (q_11_28 (q_11_29 ⟨(105, 3685), Nat.le_of_ble_eq_true rfl, Nat.le_of_ble_eq_true rfl, Nat.le_of_ble_eq_true rfl, Nat.le_of_ble_eq_true rfl, ct_25 (q_11_30 (q_11_31 ⟨(110, 3768), Nat.le_of_ble_eq_true rfl, Nat.le_of_ble_eq_true rfl, Nat.le_of_ble_eq_true rfl, Nat.le_of_ble_eq_true rfl, ct_26 (q_11_32 (q_11_33 ⟨(115, 3851), Nat.le_of_ble_eq_true rfl, Nat.le_of_ble_eq_true rfl, Nat.le_of_ble_eq_true rfl, Nat.le_of_ble_eq_true rfl, ct_27 (q_11_34 (q_11_35 ⟨(120, 3934), Nat.le_of_ble_eq_true rfl, Nat.le_of_ble_eq_true rfl, Nat.le_of_ble_eq_true rfl, Nat.le_of_ble_eq_true rfl, ct_28 (q_11_36 (q_11_37 ⟨(125, 4017), Nat.le_of_ble_eq_true rfl, Nat.le_of_ble_eq_true rfl, Nat.le_of_ble_eq_true rfl, Nat.le_of_ble_eq_true rfl, ct_29 (q_11_38 (q_11_39 ⟨(130, 4100), Nat.le_of_ble_eq_true rfl, Nat.le_of_ble_eq_true rfl, Nat.le_of_ble_eq_true rfl, Nat.le_of_ble_eq_true rfl, ct_30 (q_11_40 (q_11_41 ⟨(135, 4183), Nat.le_of_ble_eq_true rfl, Nat.le_of_ble_eq_true rfl, Nat.le_of_ble_eq_true rfl, Nat.le_of_ble_eq_true rfl, ct_31 (q_11_42 (q_11_43 ⟨(140, 4266), Nat.le_of_ble_eq_true rfl, Nat.le_of_ble_eq_true rfl, Nat.le_of_ble_eq_true rfl, Nat.le_of_ble_eq_true rfl, ct_32 (q_11_44 (q_11_45 ⟨(145, 4349), Nat.le_of_ble_eq_true rfl, Nat.le_of_ble_eq_true rfl, Nat.le_of_ble_eq_true rfl, Nat.le_of_ble_eq_true rfl, ct_33 (q_11_46 (q_11_47 ⟨(150, 4432), Nat.le_of_ble_eq_true rfl, Nat.le_of_ble_eq_true rfl, Nat.le_of_ble_eq_true rfl, Nat.le_of_ble_eq_true rfl, ct_34 (q_11_48 (q_11_49 ⟨(155, 4515), Nat.le_of_ble_eq_true rfl, Nat.le_of_ble_eq_true rfl, Nat.le_of_ble_eq_true rfl, Nat.le_of_ble_eq_true rfl, ct_35 (q_11_50 (q_11_51 ⟨(160, 4598), Nat.le_of_ble_eq_true rfl, Nat.le_of_ble_eq_true rfl, Nat.le_of_ble_eq_true rfl, Nat.le_of_ble_eq_true rfl, ct_36 (q_11_52 (q_11_53 ⟨(165, 4681), Nat.le_of_ble_eq_true rfl, Nat.le_of_ble_eq_true rfl, Nat.le_of_ble_eq_true rfl, Nat.le_of_ble_eq_true rfl, ct_37 (q_11_54 (q_11_55 ⟨(170, 4764), Nat.le_of_ble_eq_true rfl, Nat.le_of_ble_eq_true rfl, Nat.le_of_ble_eq_true rfl, Nat.le_of_ble_eq_true rfl, ct_38 (q_11_56 (q_11_57 ⟨(175, 4847), Nat.le_of_ble_eq_true rfl, Nat.le_of_ble_eq_true rfl, Nat.le_of_ble_eq_true rfl, Nat.le_of_ble_eq_true rfl, ct_39 (q_11_58 (q_11_59 ⟨(180, 4930), Nat.le_of_ble_eq_true rfl, Nat.le_of_ble_eq_true rfl, Nat.le_of_ble_eq_true rfl, Nat.le_of_ble_eq_true rfl, ct_40 (q_11_60 (q_11_61 ⟨(185, 5013), Nat.le_of_ble_eq_true rfl, Nat.le_of_ble_eq_true rfl, Nat.le_of_ble_eq_true rfl, Nat.le_of_ble_eq_true rfl, ct_41 (q_11_62 (q_11_63 ⟨(190, 5096), Nat.le_of_ble_eq_true rfl, Nat.le_of_ble_eq_true rfl, Nat.le_of_ble_eq_true rfl, Nat.le_of_ble_eq_true rfl, ct_42 (q_11_64 (q_11_65 ⟨(195, 5179), Nat.le_of_ble_eq_true rfl, Nat.le_of_ble_eq_true rfl, Nat.le_of_ble_eq_true rfl, Nat.le_of_ble_eq_true rfl, ct_43 (q_11_66 (q_11_67 ⟨(200, 5262), Nat.le_of_ble_eq_true rfl, Nat.le_of_ble_eq_true rfl, Nat.le_of_ble_eq_true rfl, Nat.le_of_ble_eq_true rfl, ct_44 (q_11_68 (q_11_69 ⟨(205, 5345), Nat.le_of_ble_eq_true rfl, Nat.le_of_ble_eq_true rfl, Nat.le_of_ble_eq_true rfl, Nat.le_of_ble_eq_true rfl, ct_45 (q_11_70 (q_11_71 ⟨(210, 5428), Nat.le_of_ble_eq_true rfl, Nat.le_of_ble_eq_true rfl, Nat.le_of_ble_eq_true rfl, Nat.le_of_ble_eq_true rfl, ct_46 (q_11_72 (q_11_73 ⟨(215, 5511), Nat.le_of_ble_eq_true rfl, Nat.le_of_ble_eq_true rfl, Nat.le_of_ble_eq_true rfl, Nat.le_of_ble_eq_true rfl, ct_47 (q_11_74 (q_11_75 ⟨(220, 5594), Nat.le_of_ble_eq_true rfl, Nat.le_of_ble_eq_true rfl, Nat.le_of_ble_eq_true rfl, Nat.le_of_ble_eq_true rfl, ct_48 (q_11_76 (q_11_77 ⟨(225, 5677), Nat.le_of_ble_eq_true rfl, Nat.le_of_ble_eq_true rfl, Nat.le_of_ble_eq_true rfl, Nat.le_of_ble_eq_true rfl, ct_49 (q_11_78 (q_11_79 ⟨(230, 5760), Nat.le_of_ble_eq_true rfl, Nat.le_of_ble_eq_true rfl, Nat.le_of_ble_eq_true rfl, Nat.le_of_ble_eq_true rfl, ct_50 (q_11_80 (q_11_81 ⟨(235, 5843), Nat.le_of_ble_eq_true rfl, Nat.le_of_ble_eq_true rfl, Nat.le_of_ble_eq_true rfl, Nat.le_of_ble_eq_true rfl, ct_51 (q_11_82 (q_11_83 ⟨(240, 5926), Nat.le_of_ble_eq_true rfl, Nat.le_of_ble_eq_true rfl, Nat.le_of_ble_eq_true rfl, Nat.le_of_ble_eq_true rfl, ct_52 (q_11_84 (q_11_85 w))⟩))⟩))⟩))⟩))⟩))⟩))⟩))⟩))⟩))⟩))⟩))⟩))⟩))⟩))⟩))⟩))⟩))⟩))⟩))⟩))⟩))⟩))⟩))⟩))⟩))⟩))⟩))⟩))⟩))⟩))⟩))⟩))⟩))⟩))⟩))⟩))⟩))⟩))⟩))⟩))⟩)))
def S_244 : Nat → Nat × Nat := fun i => bif Nat.beq i 240 then (104, 3) else (S_242) i
def I_244 : Nat → Nat → Int32 := uR (I_242) 240 (fun _ => 0)
def L_244 : Nat → Nat → Int64 := uR (L_242) 240 (fun _ => 0)
def R_244 : Nat → Nat → Option Nat := u2 (uR (u2 (R_243) 0 6 (some 33)) 240 (fun _ => none)) 0 7 (some 240)
abbrev HC_244 : am_Hp := (241, 5929, S_244, I_244, L_244, R_244)
def S_245 : Nat → Nat × Nat := fun i => bif Nat.beq i 241 then (7, 7) else (S_244) i
def I_245 : Nat → Nat → Int32 := uR (I_244) 241 (fun _ => 0)
def L_245 : Nat → Nat → Int64 := uR (L_244) 241 (fun _ => 0)
def R_245 : Nat → Nat → Option Nat := uR (R_244) 241 (fun _ => none)
abbrev HC_245 : am_Hp := (242, 5936, S_245, I_245, L_245, R_245)
def S_246 : Nat → Nat × Nat := fun i => bif Nat.beq i 242 then (100, 8) else (S_245) i
def I_246 : Nat → Nat → Int32 := uR (u2 (u2 (u2 (I_245) 241 0 (-1)) 241 1 (0)) 241 2 (0)) 242 (fun _ => 0)
def L_246 : Nat → Nat → Int64 := uR (L_245) 242 (fun _ => 0)
def R_246 : Nat → Nat → Option Nat := uR (R_245) 242 (fun _ => none)
abbrev HC_246 : am_Hp := (243, 5944, S_246, I_246, L_246, R_246)
def S_247 : Nat → Nat × Nat := fun i => bif Nat.beq i 244 then (100, 4) else (fun i => bif Nat.beq i 243 then (100, 4) else (S_246) i) i
def I_247 : Nat → Nat → Int32 := uR (uR (I_246) 243 (fun _ => 0)) 244 (fun _ => 0)
def L_247 : Nat → Nat → Int64 := uR (uR (L_246) 243 (fun _ => 0)) 244 (fun _ => 0)
def R_247 : Nat → Nat → Option Nat := uR (u2 (uR (u2 (R_246) 241 3 (some 242)) 243 (fun _ => none)) 241 4 (some 243)) 244 (fun _ => none)
abbrev HC_247 : am_Hp := (245, 5952, S_247, I_247, L_247, R_247)
def S_248 : Nat → Nat × Nat := fun i => bif Nat.beq i 245 then (100, 60) else (S_247) i
def I_248 : Nat → Nat → Int32 := uR (I_247) 245 (fun _ => 0)
def L_248 : Nat → Nat → Int64 := uR (L_247) 245 (fun _ => 0)
def R_248 : Nat → Nat → Option Nat := u2 (uR (u2 (R_247) 241 5 (some 244)) 245 (fun _ => none)) 241 6 (some 245)
abbrev HC_248 : am_Hp := (246, 6012, S_248, I_248, L_248, R_248)
set_option maxRecDepth 100000 in
theorem q_53_1 {d : Nat} {Q : am_Q} (h : pW cd_78 (246, 6012) d Q 24 [some (.ref 241)] [(.ref 242), (.ref 241)] HC_246) : pW cd_78 (246, 6012) d Q 0 [some (.ref 241)] [] HC_245 := pW.run (am_in [24]) 15 (And.intro (show ¬ (8 : Int32) < 0 by decide +kernel) (And.intro (show (8 : Int32).toNatClampNeg ≤ 10000 by decide +kernel) (And.intro (by decide +kernel) (And.intro (by decide +kernel) h))))
set_option maxRecDepth 100000 in
theorem q_53_2 {d : Nat} {Q : am_Q} (h : pW cd_78 (246, 6012) d Q 38 [some (.ref 241)] [(.ref 244), (.ref 241)] HC_247) : pW cd_78 (246, 6012) d Q 24 [some (.ref 241)] [(.ref 242), (.ref 241)] HC_246 := pW.run (am_in [38]) 9 (And.intro (show ¬ (4 : Int32) < 0 by decide +kernel) (And.intro (show (4 : Int32).toNatClampNeg ≤ 10000 by decide +kernel) (And.intro (by decide +kernel) (And.intro (by decide +kernel) (And.intro (show ¬ (4 : Int32) < 0 by decide +kernel) (And.intro (show (4 : Int32).toNatClampNeg ≤ 10000 by decide +kernel) (And.intro (by decide +kernel) (And.intro (by decide +kernel) h))))))))
set_option maxRecDepth 100000 in
theorem q_53_3 {d : Nat} {Q : am_Q} (w : Q none HC_248) : pW cd_78 (246, 6012) d Q 38 [some (.ref 241)] [(.ref 244), (.ref 241)] HC_247 := pW.run (am_in []) 7 (And.intro (show ¬ (60 : Int32) < 0 by decide +kernel) (And.intro (show (60 : Int32).toNatClampNeg ≤ 10000 by decide +kernel) (And.intro (by decide +kernel) (And.intro (by decide +kernel) ⟨rfl, rfl, w⟩))))
set_option maxRecDepth 100000 in
theorem ct_53 {d : Nat} {Q : am_Q} (w : Q none HC_248) : am_Spec PR (d + 1) 78 (246, 6012) [(.ref 241)] HC_245 Q := pS.of rfl (q_53_1 (q_53_2 (q_53_3 w)))
def R_249 : Nat → Nat → Option Nat := u2 (R_248) 240 0 (some 241)
abbrev HC_249 : am_Hp := (246, 6012, S_248, I_248, L_248, R_249)
def S_250 : Nat → Nat × Nat := fun i => bif Nat.beq i 246 then (7, 7) else (S_248) i
def I_250 : Nat → Nat → Int32 := uR (I_248) 246 (fun _ => 0)
def L_250 : Nat → Nat → Int64 := uR (L_248) 246 (fun _ => 0)
def R_250 : Nat → Nat → Option Nat := uR (R_249) 246 (fun _ => none)
abbrev HC_250 : am_Hp := (247, 6019, S_250, I_250, L_250, R_250)
def S_251 : Nat → Nat × Nat := fun i => bif Nat.beq i 247 then (100, 8) else (S_250) i
def I_251 : Nat → Nat → Int32 := uR (u2 (u2 (u2 (I_250) 246 0 (-1)) 246 1 (0)) 246 2 (0)) 247 (fun _ => 0)
def L_251 : Nat → Nat → Int64 := uR (L_250) 247 (fun _ => 0)
def R_251 : Nat → Nat → Option Nat := uR (R_250) 247 (fun _ => none)
abbrev HC_251 : am_Hp := (248, 6027, S_251, I_251, L_251, R_251)
def S_252 : Nat → Nat × Nat := fun i => bif Nat.beq i 249 then (100, 4) else (fun i => bif Nat.beq i 248 then (100, 4) else (S_251) i) i
def I_252 : Nat → Nat → Int32 := uR (uR (I_251) 248 (fun _ => 0)) 249 (fun _ => 0)
def L_252 : Nat → Nat → Int64 := uR (uR (L_251) 248 (fun _ => 0)) 249 (fun _ => 0)
def R_252 : Nat → Nat → Option Nat := uR (u2 (uR (u2 (R_251) 246 3 (some 247)) 248 (fun _ => none)) 246 4 (some 248)) 249 (fun _ => none)
abbrev HC_252 : am_Hp := (250, 6035, S_252, I_252, L_252, R_252)
def S_253 : Nat → Nat × Nat := fun i => bif Nat.beq i 250 then (100, 60) else (S_252) i
def I_253 : Nat → Nat → Int32 := uR (I_252) 250 (fun _ => 0)
def L_253 : Nat → Nat → Int64 := uR (L_252) 250 (fun _ => 0)
def R_253 : Nat → Nat → Option Nat := u2 (uR (u2 (R_252) 246 5 (some 249)) 250 (fun _ => none)) 246 6 (some 250)
abbrev HC_253 : am_Hp := (251, 6095, S_253, I_253, L_253, R_253)
set_option maxRecDepth 100000 in
theorem q_54_1 {d : Nat} {Q : am_Q} (h : pW cd_78 (251, 6095) d Q 24 [some (.ref 246)] [(.ref 247), (.ref 246)] HC_251) : pW cd_78 (251, 6095) d Q 0 [some (.ref 246)] [] HC_250 := pW.run (am_in [24]) 15 (And.intro (show ¬ (8 : Int32) < 0 by decide +kernel) (And.intro (show (8 : Int32).toNatClampNeg ≤ 10000 by decide +kernel) (And.intro (by decide +kernel) (And.intro (by decide +kernel) h))))
set_option maxRecDepth 100000 in
theorem q_54_2 {d : Nat} {Q : am_Q} (h : pW cd_78 (251, 6095) d Q 38 [some (.ref 246)] [(.ref 249), (.ref 246)] HC_252) : pW cd_78 (251, 6095) d Q 24 [some (.ref 246)] [(.ref 247), (.ref 246)] HC_251 := pW.run (am_in [38]) 9 (And.intro (show ¬ (4 : Int32) < 0 by decide +kernel) (And.intro (show (4 : Int32).toNatClampNeg ≤ 10000 by decide +kernel) (And.intro (by decide +kernel) (And.intro (by decide +kernel) (And.intro (show ¬ (4 : Int32) < 0 by decide +kernel) (And.intro (show (4 : Int32).toNatClampNeg ≤ 10000 by decide +kernel) (And.intro (by decide +kernel) (And.intro (by decide +kernel) h))))))))
set_option maxRecDepth 100000 in
theorem q_54_3 {d : Nat} {Q : am_Q} (w : Q none HC_253) : pW cd_78 (251, 6095) d Q 38 [some (.ref 246)] [(.ref 249), (.ref 246)] HC_252 := pW.run (am_in []) 7 (And.intro (show ¬ (60 : Int32) < 0 by decide +kernel) (And.intro (show (60 : Int32).toNatClampNeg ≤ 10000 by decide +kernel) (And.intro (by decide +kernel) (And.intro (by decide +kernel) ⟨rfl, rfl, w⟩))))
set_option maxRecDepth 100000 in
theorem ct_54 {d : Nat} {Q : am_Q} (w : Q none HC_253) : am_Spec PR (d + 1) 78 (251, 6095) [(.ref 246)] HC_250 Q := pS.of rfl (q_54_1 (q_54_2 (q_54_3 w)))
def R_254 : Nat → Nat → Option Nat := u2 (R_253) 240 1 (some 246)
abbrev HC_254 : am_Hp := (251, 6095, S_253, I_253, L_253, R_254)
def S_255 : Nat → Nat × Nat := fun i => bif Nat.beq i 251 then (7, 7) else (S_253) i
def I_255 : Nat → Nat → Int32 := uR (I_253) 251 (fun _ => 0)
def L_255 : Nat → Nat → Int64 := uR (L_253) 251 (fun _ => 0)
def R_255 : Nat → Nat → Option Nat := uR (R_254) 251 (fun _ => none)
abbrev HC_255 : am_Hp := (252, 6102, S_255, I_255, L_255, R_255)
def S_256 : Nat → Nat × Nat := fun i => bif Nat.beq i 252 then (100, 8) else (S_255) i
def I_256 : Nat → Nat → Int32 := uR (u2 (u2 (u2 (I_255) 251 0 (-1)) 251 1 (0)) 251 2 (0)) 252 (fun _ => 0)
def L_256 : Nat → Nat → Int64 := uR (L_255) 252 (fun _ => 0)
def R_256 : Nat → Nat → Option Nat := uR (R_255) 252 (fun _ => none)
abbrev HC_256 : am_Hp := (253, 6110, S_256, I_256, L_256, R_256)
def S_257 : Nat → Nat × Nat := fun i => bif Nat.beq i 254 then (100, 4) else (fun i => bif Nat.beq i 253 then (100, 4) else (S_256) i) i
def I_257 : Nat → Nat → Int32 := uR (uR (I_256) 253 (fun _ => 0)) 254 (fun _ => 0)
def L_257 : Nat → Nat → Int64 := uR (uR (L_256) 253 (fun _ => 0)) 254 (fun _ => 0)
def R_257 : Nat → Nat → Option Nat := uR (u2 (uR (u2 (R_256) 251 3 (some 252)) 253 (fun _ => none)) 251 4 (some 253)) 254 (fun _ => none)
abbrev HC_257 : am_Hp := (255, 6118, S_257, I_257, L_257, R_257)
def S_258 : Nat → Nat × Nat := fun i => bif Nat.beq i 255 then (100, 60) else (S_257) i
def I_258 : Nat → Nat → Int32 := uR (I_257) 255 (fun _ => 0)
def L_258 : Nat → Nat → Int64 := uR (L_257) 255 (fun _ => 0)
def R_258 : Nat → Nat → Option Nat := u2 (uR (u2 (R_257) 251 5 (some 254)) 255 (fun _ => none)) 251 6 (some 255)
abbrev HC_258 : am_Hp := (256, 6178, S_258, I_258, L_258, R_258)
set_option maxRecDepth 100000 in
theorem q_55_1 {d : Nat} {Q : am_Q} (h : pW cd_78 (256, 6178) d Q 24 [some (.ref 251)] [(.ref 252), (.ref 251)] HC_256) : pW cd_78 (256, 6178) d Q 0 [some (.ref 251)] [] HC_255 := pW.run (am_in [24]) 15 (And.intro (show ¬ (8 : Int32) < 0 by decide +kernel) (And.intro (show (8 : Int32).toNatClampNeg ≤ 10000 by decide +kernel) (And.intro (by decide +kernel) (And.intro (by decide +kernel) h))))
set_option maxRecDepth 100000 in
theorem q_55_2 {d : Nat} {Q : am_Q} (h : pW cd_78 (256, 6178) d Q 38 [some (.ref 251)] [(.ref 254), (.ref 251)] HC_257) : pW cd_78 (256, 6178) d Q 24 [some (.ref 251)] [(.ref 252), (.ref 251)] HC_256 := pW.run (am_in [38]) 9 (And.intro (show ¬ (4 : Int32) < 0 by decide +kernel) (And.intro (show (4 : Int32).toNatClampNeg ≤ 10000 by decide +kernel) (And.intro (by decide +kernel) (And.intro (by decide +kernel) (And.intro (show ¬ (4 : Int32) < 0 by decide +kernel) (And.intro (show (4 : Int32).toNatClampNeg ≤ 10000 by decide +kernel) (And.intro (by decide +kernel) (And.intro (by decide +kernel) h))))))))
set_option maxRecDepth 100000 in
theorem q_55_3 {d : Nat} {Q : am_Q} (w : Q none HC_258) : pW cd_78 (256, 6178) d Q 38 [some (.ref 251)] [(.ref 254), (.ref 251)] HC_257 := pW.run (am_in []) 7 (And.intro (show ¬ (60 : Int32) < 0 by decide +kernel) (And.intro (show (60 : Int32).toNatClampNeg ≤ 10000 by decide +kernel) (And.intro (by decide +kernel) (And.intro (by decide +kernel) ⟨rfl, rfl, w⟩))))
set_option maxRecDepth 100000 in
theorem ct_55 {d : Nat} {Q : am_Q} (w : Q none HC_258) : am_Spec PR (d + 1) 78 (256, 6178) [(.ref 251)] HC_255 Q := pS.of rfl (q_55_1 (q_55_2 (q_55_3 w)))
def R_259 : Nat → Nat → Option Nat := u2 (R_258) 240 2 (some 251)
abbrev HC_259 : am_Hp := (256, 6178, S_258, I_258, L_258, R_259)
def S_260 : Nat → Nat × Nat := fun i => bif Nat.beq i 256 then (4, 15) else (S_258) i
def I_260 : Nat → Nat → Int32 := uR (u2 (I_258) 0 8 (0)) 256 (fun _ => 0)
def L_260 : Nat → Nat → Int64 := uR (L_258) 256 (fun _ => 0)
def R_260 : Nat → Nat → Option Nat := uR (R_259) 256 (fun _ => none)
abbrev HC_260 : am_Hp := (257, 6193, S_260, I_260, L_260, R_260)
def S_261 : Nat → Nat × Nat := fun i => bif Nat.beq i 258 then (100, 640) else (fun i => bif Nat.beq i 257 then (100, 8) else (S_260) i) i
def I_261 : Nat → Nat → Int32 := uR (uR (I_260) 257 (fun _ => 0)) 258 (fun _ => 0)
def L_261 : Nat → Nat → Int64 := uR (uR (L_260) 257 (fun _ => 0)) 258 (fun _ => 0)
def R_261 : Nat → Nat → Option Nat := u2 (uR (u2 (uR (R_260) 257 (fun _ => none)) 256 2 (some 257)) 258 (fun _ => none)) 256 3 (some 258)
abbrev HC_261 : am_Hp := (259, 6841, S_261, I_261, L_261, R_261)
def S_262 : Nat → Nat × Nat := fun i => bif Nat.beq i 260 then (100, 8) else (fun i => bif Nat.beq i 259 then (100, 512) else (S_261) i) i
def I_262 : Nat → Nat → Int32 := uR (uR (I_261) 259 (fun _ => 0)) 260 (fun _ => 0)
def L_262 : Nat → Nat → Int64 := uR (uR (L_261) 259 (fun _ => 0)) 260 (fun _ => 0)
def R_262 : Nat → Nat → Option Nat := u2 (uR (u2 (uR (R_261) 259 (fun _ => none)) 256 4 (some 259)) 260 (fun _ => none)) 256 5 (some 260)
abbrev HC_262 : am_Hp := (261, 7361, S_262, I_262, L_262, R_262)
def S_263 : Nat → Nat × Nat := fun i => bif Nat.beq i 261 then (103, 248) else (S_262) i
def I_263 : Nat → Nat → Int32 := uR (u2 (u2 (u2 (I_262) 256 6 (-1)) 256 7 (0)) 256 8 (0)) 261 (fun _ => 0)
def L_263 : Nat → Nat → Int64 := uR (L_262) 261 (fun _ => 0)
def R_263 : Nat → Nat → Option Nat := uR (R_262) 261 (fun _ => none)
abbrev HC_263 : am_Hp := (262, 7609, S_263, I_263, L_263, R_263)
def S_264 : Nat → Nat × Nat := fun i => bif Nat.beq i 263 then (103, 8) else (fun i => bif Nat.beq i 262 then (103, 248) else (S_263) i) i
def I_264 : Nat → Nat → Int32 := uR (uR (I_263) 262 (fun _ => 0)) 263 (fun _ => 0)
def L_264 : Nat → Nat → Int64 := uR (uR (L_263) 262 (fun _ => 0)) 263 (fun _ => 0)
def R_264 : Nat → Nat → Option Nat := uR (u2 (uR (u2 (R_263) 256 9 (some 261)) 262 (fun _ => none)) 256 10 (some 262)) 263 (fun _ => none)
abbrev HC_264 : am_Hp := (264, 7865, S_264, I_264, L_264, R_264)
def I_265 : Nat → Nat → Int32 := u2 (u2 (u2 (I_264) 256 12 (0)) 256 13 (0)) 256 14 (0)
def R_265 : Nat → Nat → Option Nat := u2 (R_264) 256 11 (some 263)
abbrev HC_265 : am_Hp := (264, 7865, S_264, I_265, L_264, R_265)
def R_266 : Nat → Nat → Option Nat := u2 (u2 (R_265) 256 0 (some 19)) 256 1 (some 28)
abbrev HC_266 : am_Hp := (264, 7865, S_264, I_265, L_264, R_266)
set_option maxRecDepth 100000 in
theorem q_56_1 {d : Nat} {Q : am_Q} (h : pW cd_36 (264, 7865) d Q 21 [some (.ref 256), some (.ref 19), some (.ref 28)] [] HC_261) : pW cd_36 (264, 7865) d Q 0 [some (.ref 256), some (.ref 19), some (.ref 28)] [] HC_260 := pW.run (am_in [21]) 11 (And.intro (show ¬ (8 : Int32) < 0 by decide +kernel) (And.intro (show (8 : Int32).toNatClampNeg ≤ 10000 by decide +kernel) (And.intro (by decide +kernel) (And.intro (by decide +kernel) (And.intro (show ¬ (640 : Int32) < 0 by decide +kernel) (And.intro (show (640 : Int32).toNatClampNeg ≤ 10000 by decide +kernel) (And.intro (by decide +kernel) (And.intro (by decide +kernel) h))))))))
set_option maxRecDepth 100000 in
theorem q_56_2 {d : Nat} {Q : am_Q} (h : pW cd_36 (264, 7865) d Q 38 [some (.ref 256), some (.ref 19), some (.ref 28)] [] HC_262) : pW cd_36 (264, 7865) d Q 21 [some (.ref 256), some (.ref 19), some (.ref 28)] [] HC_261 := pW.run (am_in [38]) 9 (And.intro (show ¬ (512 : Int32) < 0 by decide +kernel) (And.intro (show (512 : Int32).toNatClampNeg ≤ 10000 by decide +kernel) (And.intro (by decide +kernel) (And.intro (by decide +kernel) (And.intro (show ¬ (8 : Int32) < 0 by decide +kernel) (And.intro (show (8 : Int32).toNatClampNeg ≤ 10000 by decide +kernel) (And.intro (by decide +kernel) (And.intro (by decide +kernel) h))))))))
set_option maxRecDepth 100000 in
theorem q_56_3 {d : Nat} {Q : am_Q} (h : pW cd_36 (264, 7865) d Q 59 [some (.ref 256), some (.ref 19), some (.ref 28)] [(.ref 261), (.ref 256)] HC_263) : pW cd_36 (264, 7865) d Q 38 [some (.ref 256), some (.ref 19), some (.ref 28)] [] HC_262 := pW.run (am_in [59]) 13 (And.intro (show ¬ (248 : Int32) < 0 by decide +kernel) (And.intro (show (248 : Int32).toNatClampNeg ≤ 10000 by decide +kernel) (And.intro (by decide +kernel) (And.intro (by decide +kernel) h))))
set_option maxRecDepth 100000 in
theorem q_56_4 {d : Nat} {Q : am_Q} (h : pW cd_36 (264, 7865) d Q 76 [some (.ref 256), some (.ref 19), some (.ref 28)] [(.ref 263), (.ref 256)] HC_264) : pW cd_36 (264, 7865) d Q 59 [some (.ref 256), some (.ref 19), some (.ref 28)] [(.ref 261), (.ref 256)] HC_263 := pW.run (am_in [76]) 9 (And.intro (show ¬ (248 : Int32) < 0 by decide +kernel) (And.intro (show (248 : Int32).toNatClampNeg ≤ 10000 by decide +kernel) (And.intro (by decide +kernel) (And.intro (by decide +kernel) (And.intro (show ¬ (8 : Int32) < 0 by decide +kernel) (And.intro (show (8 : Int32).toNatClampNeg ≤ 10000 by decide +kernel) (And.intro (by decide +kernel) (And.intro (by decide +kernel) h))))))))
set_option maxRecDepth 100000 in
theorem q_56_5 {d : Nat} {Q : am_Q} (h : pW cd_36 (264, 7865) d Q 94 [some (.ref 256), some (.ref 19), some (.ref 28)] [] HC_265) : pW cd_36 (264, 7865) d Q 76 [some (.ref 256), some (.ref 19), some (.ref 28)] [(.ref 263), (.ref 256)] HC_264 := pW.run (am_in [94]) 11 h
set_option maxRecDepth 100000 in
theorem q_56_6 {d : Nat} {Q : am_Q} (w : Q none HC_266) : pW cd_36 (264, 7865) d Q 94 [some (.ref 256), some (.ref 19), some (.ref 28)] [] HC_265 := pW.run (am_in []) 8 ⟨rfl, rfl, w⟩
set_option maxRecDepth 100000 in
theorem ct_56 {d : Nat} {Q : am_Q} (w : Q none HC_266) : am_Spec PR (d + 1) 36 (264, 7865) [(.ref 256), (.ref 19), (.ref 28)] HC_260 Q := pS.of rfl (q_56_1 (q_56_2 (q_56_3 (q_56_4 (q_56_5 (q_56_6 w))))))
def S_267 : Nat → Nat × Nat := fun i => bif Nat.beq i 264 then (2, 9) else (S_264) i
def I_267 : Nat → Nat → Int32 := uR (I_265) 264 (fun _ => 0)
def L_267 : Nat → Nat → Int64 := uR (L_264) 264 (fun _ => 0)
def R_267 : Nat → Nat → Option Nat := uR (u2 (R_266) 0 9 (some 256)) 264 (fun _ => none)
abbrev HC_267 : am_Hp := (265, 7874, S_267, I_267, L_267, R_267)
def S_268 : Nat → Nat × Nat := fun i => bif Nat.beq i 265 then (100, 8) else (S_267) i
def I_268 : Nat → Nat → Int32 := u2 (uR (I_267) 265 (fun _ => 0)) 264 5 (-1)
def L_268 : Nat → Nat → Int64 := u2 (uR (L_267) 265 (fun _ => 0)) 264 4 (-1)
def R_268 : Nat → Nat → Option Nat := u2 (uR (R_267) 265 (fun _ => none)) 264 3 (some 265)
abbrev HC_268 : am_Hp := (266, 7882, S_268, I_268, L_268, R_268)
def I_269 : Nat → Nat → Int32 := u2 (u2 (u2 (I_268) 264 6 (-1)) 264 7 (0)) 264 8 (0)
def R_269 : Nat → Nat → Option Nat := u2 (R_268) 264 0 (some 19)
abbrev HC_269 : am_Hp := (266, 7882, S_268, I_269, L_268, R_269)
def R_270 : Nat → Nat → Option Nat := u2 (u2 (R_269) 264 1 (some 28)) 264 2 (some 256)
abbrev HC_270 : am_Hp := (266, 7882, S_268, I_269, L_268, R_270)
set_option maxRecDepth 100000 in
theorem q_57_1 {d : Nat} {Q : am_Q} (h : pW cd_15 (266, 7882) d Q 24 [some (.ref 264), some (.ref 19), some (.ref 28), some (.ref 256)] [] HC_268) : pW cd_15 (266, 7882) d Q 0 [some (.ref 264), some (.ref 19), some (.ref 28), some (.ref 256)] [] HC_267 := pW.run (am_in [24]) 13 (And.intro (show ¬ (8 : Int32) < 0 by decide +kernel) (And.intro (show (8 : Int32).toNatClampNeg ≤ 10000 by decide +kernel) (And.intro (by decide +kernel) (And.intro (by decide +kernel) h))))
set_option maxRecDepth 100000 in
theorem q_57_2 {d : Nat} {Q : am_Q} (h : pW cd_15 (266, 7882) d Q 44 [some (.ref 264), some (.ref 19), some (.ref 28), some (.ref 256)] [] HC_269) : pW cd_15 (266, 7882) d Q 24 [some (.ref 264), some (.ref 19), some (.ref 28), some (.ref 256)] [] HC_268 := pW.run (am_in [44]) 13 h
set_option maxRecDepth 100000 in
theorem q_57_3 {d : Nat} {Q : am_Q} (w : Q none HC_270) : pW cd_15 (266, 7882) d Q 44 [some (.ref 264), some (.ref 19), some (.ref 28), some (.ref 256)] [] HC_269 := pW.run (am_in []) 8 ⟨rfl, rfl, w⟩
set_option maxRecDepth 100000 in
theorem ct_57 {d : Nat} {Q : am_Q} (w : Q none HC_270) : am_Spec PR (d + 1) 15 (266, 7882) [(.ref 264), (.ref 19), (.ref 28), (.ref 256)] HC_267 Q := pS.of rfl (q_57_1 (q_57_2 (q_57_3 w)))
def S_271 : Nat → Nat × Nat := fun i => bif Nat.beq i 266 then (3, 14) else (S_268) i
def I_271 : Nat → Nat → Int32 := uR (I_269) 266 (fun _ => 0)
def L_271 : Nat → Nat → Int64 := uR (L_268) 266 (fun _ => 0)
def R_271 : Nat → Nat → Option Nat := uR (u2 (R_270) 0 10 (some 264)) 266 (fun _ => none)
abbrev HC_271 : am_Hp := (267, 7896, S_271, I_271, L_271, R_271)
def S_272 : Nat → Nat × Nat := fun i => bif Nat.beq i 268 then (100, 30) else (fun i => bif Nat.beq i 267 then (100, 30) else (S_271) i) i
def I_272 : Nat → Nat → Int32 := uR (uR (I_271) 267 (fun _ => 0)) 268 (fun _ => 0)
def L_272 : Nat → Nat → Int64 := uR (uR (L_271) 267 (fun _ => 0)) 268 (fun _ => 0)
def R_272 : Nat → Nat → Option Nat := u2 (uR (u2 (uR (R_271) 267 (fun _ => none)) 266 0 (some 267)) 268 (fun _ => none)) 266 1 (some 268)
abbrev HC_272 : am_Hp := (269, 7956, S_272, I_272, L_272, R_272)
def S_273 : Nat → Nat × Nat := fun i => bif Nat.beq i 270 then (100, 30) else (fun i => bif Nat.beq i 269 then (100, 30) else (S_272) i) i
def I_273 : Nat → Nat → Int32 := uR (uR (I_272) 269 (fun _ => 0)) 270 (fun _ => 0)
def L_273 : Nat → Nat → Int64 := uR (uR (L_272) 269 (fun _ => 0)) 270 (fun _ => 0)
def R_273 : Nat → Nat → Option Nat := u2 (uR (u2 (uR (R_272) 269 (fun _ => none)) 266 2 (some 269)) 270 (fun _ => none)) 266 3 (some 270)
abbrev HC_273 : am_Hp := (271, 8016, S_273, I_273, L_273, R_273)
def S_274 : Nat → Nat × Nat := fun i => bif Nat.beq i 272 then (100, 30) else (fun i => bif Nat.beq i 271 then (100, 30) else (S_273) i) i
def I_274 : Nat → Nat → Int32 := uR (uR (I_273) 271 (fun _ => 0)) 272 (fun _ => 0)
def L_274 : Nat → Nat → Int64 := uR (uR (L_273) 271 (fun _ => 0)) 272 (fun _ => 0)
def R_274 : Nat → Nat → Option Nat := u2 (uR (u2 (uR (R_273) 271 (fun _ => none)) 266 4 (some 271)) 272 (fun _ => none)) 266 5 (some 272)
abbrev HC_274 : am_Hp := (273, 8076, S_274, I_274, L_274, R_274)
def S_275 : Nat → Nat × Nat := fun i => bif Nat.beq i 274 then (100, 30) else (fun i => bif Nat.beq i 273 then (100, 30) else (S_274) i) i
def I_275 : Nat → Nat → Int32 := uR (uR (I_274) 273 (fun _ => 0)) 274 (fun _ => 0)
def L_275 : Nat → Nat → Int64 := uR (uR (L_274) 273 (fun _ => 0)) 274 (fun _ => 0)
def R_275 : Nat → Nat → Option Nat := u2 (uR (u2 (uR (R_274) 273 (fun _ => none)) 266 6 (some 273)) 274 (fun _ => none)) 266 7 (some 274)
abbrev HC_275 : am_Hp := (275, 8136, S_275, I_275, L_275, R_275)
def S_276 : Nat → Nat × Nat := fun i => bif Nat.beq i 275 then (100, 30) else (S_275) i
def I_276 : Nat → Nat → Int32 := uR (u2 (u2 (I_275) 266 8 (0)) 266 9 (0)) 275 (fun _ => 0)
def L_276 : Nat → Nat → Int64 := uR (L_275) 275 (fun _ => 0)
def R_276 : Nat → Nat → Option Nat := u2 (uR (R_275) 275 (fun _ => none)) 266 10 (some 275)
abbrev HC_276 : am_Hp := (276, 8166, S_276, I_276, L_276, R_276)
def S_277 : Nat → Nat × Nat := fun i => bif Nat.beq i 277 then (100, 28) else (fun i => bif Nat.beq i 276 then (100, 4) else (S_276) i) i
def I_277 : Nat → Nat → Int32 := uR (uR (u2 (I_276) 266 11 (0)) 276 (fun _ => 0)) 277 (fun _ => 0)
def L_277 : Nat → Nat → Int64 := uR (uR (L_276) 276 (fun _ => 0)) 277 (fun _ => 0)
def R_277 : Nat → Nat → Option Nat := uR (u2 (uR (R_276) 276 (fun _ => none)) 266 12 (some 276)) 277 (fun _ => none)
abbrev HC_277 : am_Hp := (278, 8198, S_277, I_277, L_277, R_277)
def R_278 : Nat → Nat → Option Nat := u2 (R_277) 266 13 (some 277)
abbrev HC_278 : am_Hp := (278, 8198, S_277, I_277, L_277, R_278)
set_option maxRecDepth 100000 in
theorem q_58_1 {d : Nat} {Q : am_Q} (h : pW cd_24 (278, 8198) d Q 20 [some (.ref 266)] [] HC_272) : pW cd_24 (278, 8198) d Q 0 [some (.ref 266)] [] HC_271 := pW.run (am_in [20]) 11 (And.intro (show ¬ (30 : Int32) < 0 by decide +kernel) (And.intro (show (30 : Int32).toNatClampNeg ≤ 10000 by decide +kernel) (And.intro (by decide +kernel) (And.intro (by decide +kernel) (And.intro (show ¬ (30 : Int32) < 0 by decide +kernel) (And.intro (show (30 : Int32).toNatClampNeg ≤ 10000 by decide +kernel) (And.intro (by decide +kernel) (And.intro (by decide +kernel) h))))))))
set_option maxRecDepth 100000 in
theorem q_58_2 {d : Nat} {Q : am_Q} (h : pW cd_24 (278, 8198) d Q 36 [some (.ref 266)] [] HC_273) : pW cd_24 (278, 8198) d Q 20 [some (.ref 266)] [] HC_272 := pW.run (am_in [36]) 9 (And.intro (show ¬ (30 : Int32) < 0 by decide +kernel) (And.intro (show (30 : Int32).toNatClampNeg ≤ 10000 by decide +kernel) (And.intro (by decide +kernel) (And.intro (by decide +kernel) (And.intro (show ¬ (30 : Int32) < 0 by decide +kernel) (And.intro (show (30 : Int32).toNatClampNeg ≤ 10000 by decide +kernel) (And.intro (by decide +kernel) (And.intro (by decide +kernel) h))))))))
set_option maxRecDepth 100000 in
theorem q_58_3 {d : Nat} {Q : am_Q} (h : pW cd_24 (278, 8198) d Q 52 [some (.ref 266)] [] HC_274) : pW cd_24 (278, 8198) d Q 36 [some (.ref 266)] [] HC_273 := pW.run (am_in [52]) 9 (And.intro (show ¬ (30 : Int32) < 0 by decide +kernel) (And.intro (show (30 : Int32).toNatClampNeg ≤ 10000 by decide +kernel) (And.intro (by decide +kernel) (And.intro (by decide +kernel) (And.intro (show ¬ (30 : Int32) < 0 by decide +kernel) (And.intro (show (30 : Int32).toNatClampNeg ≤ 10000 by decide +kernel) (And.intro (by decide +kernel) (And.intro (by decide +kernel) h))))))))
set_option maxRecDepth 100000 in
theorem q_58_4 {d : Nat} {Q : am_Q} (h : pW cd_24 (278, 8198) d Q 68 [some (.ref 266)] [] HC_275) : pW cd_24 (278, 8198) d Q 52 [some (.ref 266)] [] HC_274 := pW.run (am_in [68]) 9 (And.intro (show ¬ (30 : Int32) < 0 by decide +kernel) (And.intro (show (30 : Int32).toNatClampNeg ≤ 10000 by decide +kernel) (And.intro (by decide +kernel) (And.intro (by decide +kernel) (And.intro (show ¬ (30 : Int32) < 0 by decide +kernel) (And.intro (show (30 : Int32).toNatClampNeg ≤ 10000 by decide +kernel) (And.intro (by decide +kernel) (And.intro (by decide +kernel) h))))))))
set_option maxRecDepth 100000 in
theorem q_58_5 {d : Nat} {Q : am_Q} (h : pW cd_24 (278, 8198) d Q 86 [some (.ref 266)] [] HC_276) : pW cd_24 (278, 8198) d Q 68 [some (.ref 266)] [] HC_275 := pW.run (am_in [86]) 11 (And.intro (show ¬ (30 : Int32) < 0 by decide +kernel) (And.intro (show (30 : Int32).toNatClampNeg ≤ 10000 by decide +kernel) (And.intro (by decide +kernel) (And.intro (by decide +kernel) h))))
set_option maxRecDepth 100000 in
theorem q_58_6 {d : Nat} {Q : am_Q} (h : pW cd_24 (278, 8198) d Q 103 [some (.ref 266)] [(.ref 277), (.ref 266)] HC_277) : pW cd_24 (278, 8198) d Q 86 [some (.ref 266)] [] HC_276 := pW.run (am_in [103]) 11 (And.intro (show ¬ (4 : Int32) < 0 by decide +kernel) (And.intro (show (4 : Int32).toNatClampNeg ≤ 10000 by decide +kernel) (And.intro (by decide +kernel) (And.intro (by decide +kernel) (And.intro (show ¬ (28 : Int32) < 0 by decide +kernel) (And.intro (show (28 : Int32).toNatClampNeg ≤ 10000 by decide +kernel) (And.intro (by decide +kernel) (And.intro (by decide +kernel) h))))))))
set_option maxRecDepth 100000 in
theorem q_58_7 {d : Nat} {Q : am_Q} (w : Q none HC_278) : pW cd_24 (278, 8198) d Q 103 [some (.ref 266)] [(.ref 277), (.ref 266)] HC_277 := pW.run (am_in []) 3 ⟨rfl, rfl, w⟩
set_option maxRecDepth 100000 in
theorem ct_58 {d : Nat} {Q : am_Q} (w : Q none HC_278) : am_Spec PR (d + 1) 24 (278, 8198) [(.ref 266)] HC_271 Q := pS.of rfl (q_58_1 (q_58_2 (q_58_3 (q_58_4 (q_58_5 (q_58_6 (q_58_7 w)))))))
def S_279 : Nat → Nat × Nat := fun i => bif Nat.beq i 278 then (100, 8) else (S_277) i
def I_279 : Nat → Nat → Int32 := u2 (uR (I_277) 278 (fun _ => 0)) 0 13 (0)
def L_279 : Nat → Nat → Int64 := uR (L_277) 278 (fun _ => 0)
def R_279 : Nat → Nat → Option Nat := u2 (uR (u2 (R_278) 0 11 (some 266)) 278 (fun _ => none)) 0 12 (some 278)
abbrev HC_279 : am_Hp := (279, 8206, S_279, I_279, L_279, R_279)
set_option maxRecDepth 100000 in
theorem q_60_1 {d : Nat} {Q : am_Q} (w : Q (some (.int (0))) HC_279) : pW cd_108 (279, 8206) d Q 0 [some (.ref 19), some (.int (0))] [] HC_279 := pW.run (am_in []) 9 (And.intro (fun z => absurd (show (0 : Int32) < 0 from z) (by decide +kernel)) (fun _ => (And.intro (fun _ => (And.intro (Or.inl rfl) ⟨rfl, rfl, w⟩)) (fun z => absurd (show (0 : Int32) ≤ (0 : Int32) by decide +kernel) z))))
set_option maxRecDepth 100000 in
theorem ct_60 {d : Nat} {Q : am_Q} (w : Q (some (.int (0))) HC_279) : am_Spec PR (d + 1) 108 (279, 8206) [(.ref 19), (.int (0))] HC_279 Q := pS.of rfl (q_60_1 w)
def I_280 : Nat → Nat → Int32 := u2 (u2 (u2 (I_279) 28 0 (-1)) 28 1 (0)) 28 2 (0)
abbrev HC_280 : am_Hp := (279, 8206, S_279, I_280, L_279, R_279)
def I_281 : Nat → Nat → Int32 := u2 (I_280) 29 0 (0)
abbrev HC_281 : am_Hp := (279, 8206, S_279, I_281, L_279, R_279)
def I_282 : Nat → Nat → Int32 := u2 (I_281) 29 1 (0)
abbrev HC_282 : am_Hp := (279, 8206, S_279, I_282, L_279, R_279)
def I_283 : Nat → Nat → Int32 := u2 (I_282) 29 2 (0)
abbrev HC_283 : am_Hp := (279, 8206, S_279, I_283, L_279, R_279)
def I_284 : Nat → Nat → Int32 := u2 (I_283) 29 3 (0)
abbrev HC_284 : am_Hp := (279, 8206, S_279, I_284, L_279, R_279)
def I_285 : Nat → Nat → Int32 := u2 (I_284) 29 4 (0)
abbrev HC_285 : am_Hp := (279, 8206, S_279, I_285, L_279, R_279)
def I_286 : Nat → Nat → Int32 := u2 (I_285) 29 5 (0)
abbrev HC_286 : am_Hp := (279, 8206, S_279, I_286, L_279, R_279)
def I_287 : Nat → Nat → Int32 := u2 (I_286) 29 6 (0)
abbrev HC_287 : am_Hp := (279, 8206, S_279, I_287, L_279, R_279)
def I_288 : Nat → Nat → Int32 := u2 (I_287) 29 7 (0)
abbrev HC_288 : am_Hp := (279, 8206, S_279, I_288, L_279, R_279)
set_option maxRecDepth 100000 in
theorem q_61_1 {d : Nat} {Q : am_Q} (h : pW cd_287 (279, 8206) d Q 5 [some (.ref 29), some (.int (0)), some (.int (0)), some (.int (8))] [] HC_280) : pW cd_287 (279, 8206) d Q 0 [some (.ref 29), some (.int (0)), none, none] [] HC_280 := pW.run (am_in [5]) 6 (And.intro (Nat.le_of_ble_eq_true rfl) (And.intro (Nat.le_of_ble_eq_true rfl) h))
set_option maxRecDepth 100000 in
theorem q_61_2 {d : Nat} {Q : am_Q} (h : pW cd_287 (279, 8206) d Q 5 [some (.ref 29), some (.int (0)), some (.int (1)), some (.int (8))] [] HC_281) : pW cd_287 (279, 8206) d Q 5 [some (.ref 29), some (.int (0)), some (.int (0)), some (.int (8))] [] HC_280 := pW.run (am_in [5]) 10 (And.intro (fun z => absurd (show (8 : Int32) ≤ (0 : Int32) from z) (by decide +kernel)) (fun _ => (And.intro (show vp_in 0 8 from vin_l (by decide +kernel)) (And.intro (Nat.le_of_ble_eq_true rfl) h))))
set_option maxRecDepth 100000 in
theorem q_61_3 {d : Nat} {Q : am_Q} (h : pW cd_287 (279, 8206) d Q 5 [some (.ref 29), some (.int (0)), some (.int (2)), some (.int (8))] [] HC_282) : pW cd_287 (279, 8206) d Q 5 [some (.ref 29), some (.int (0)), some (.int (1)), some (.int (8))] [] HC_281 := pW.run (am_in [5]) 10 (And.intro (fun z => absurd (show (8 : Int32) ≤ (1 : Int32) from z) (by decide +kernel)) (fun _ => (And.intro (show vp_in 1 8 from vin_l (by decide +kernel)) (And.intro (Nat.le_of_ble_eq_true rfl) h))))
set_option maxRecDepth 100000 in
theorem q_61_4 {d : Nat} {Q : am_Q} (h : pW cd_287 (279, 8206) d Q 5 [some (.ref 29), some (.int (0)), some (.int (3)), some (.int (8))] [] HC_283) : pW cd_287 (279, 8206) d Q 5 [some (.ref 29), some (.int (0)), some (.int (2)), some (.int (8))] [] HC_282 := pW.run (am_in [5]) 10 (And.intro (fun z => absurd (show (8 : Int32) ≤ (2 : Int32) from z) (by decide +kernel)) (fun _ => (And.intro (show vp_in 2 8 from vin_l (by decide +kernel)) (And.intro (Nat.le_of_ble_eq_true rfl) h))))
set_option maxRecDepth 100000 in
theorem q_61_5 {d : Nat} {Q : am_Q} (h : pW cd_287 (279, 8206) d Q 5 [some (.ref 29), some (.int (0)), some (.int (4)), some (.int (8))] [] HC_284) : pW cd_287 (279, 8206) d Q 5 [some (.ref 29), some (.int (0)), some (.int (3)), some (.int (8))] [] HC_283 := pW.run (am_in [5]) 10 (And.intro (fun z => absurd (show (8 : Int32) ≤ (3 : Int32) from z) (by decide +kernel)) (fun _ => (And.intro (show vp_in 3 8 from vin_l (by decide +kernel)) (And.intro (Nat.le_of_ble_eq_true rfl) h))))
set_option maxRecDepth 100000 in
theorem q_61_6 {d : Nat} {Q : am_Q} (h : pW cd_287 (279, 8206) d Q 5 [some (.ref 29), some (.int (0)), some (.int (5)), some (.int (8))] [] HC_285) : pW cd_287 (279, 8206) d Q 5 [some (.ref 29), some (.int (0)), some (.int (4)), some (.int (8))] [] HC_284 := pW.run (am_in [5]) 10 (And.intro (fun z => absurd (show (8 : Int32) ≤ (4 : Int32) from z) (by decide +kernel)) (fun _ => (And.intro (show vp_in 4 8 from vin_l (by decide +kernel)) (And.intro (Nat.le_of_ble_eq_true rfl) h))))
set_option maxRecDepth 100000 in
theorem q_61_7 {d : Nat} {Q : am_Q} (h : pW cd_287 (279, 8206) d Q 5 [some (.ref 29), some (.int (0)), some (.int (6)), some (.int (8))] [] HC_286) : pW cd_287 (279, 8206) d Q 5 [some (.ref 29), some (.int (0)), some (.int (5)), some (.int (8))] [] HC_285 := pW.run (am_in [5]) 10 (And.intro (fun z => absurd (show (8 : Int32) ≤ (5 : Int32) from z) (by decide +kernel)) (fun _ => (And.intro (show vp_in 5 8 from vin_l (by decide +kernel)) (And.intro (Nat.le_of_ble_eq_true rfl) h))))
set_option maxRecDepth 100000 in
theorem q_61_8 {d : Nat} {Q : am_Q} (h : pW cd_287 (279, 8206) d Q 5 [some (.ref 29), some (.int (0)), some (.int (7)), some (.int (8))] [] HC_287) : pW cd_287 (279, 8206) d Q 5 [some (.ref 29), some (.int (0)), some (.int (6)), some (.int (8))] [] HC_286 := pW.run (am_in [5]) 10 (And.intro (fun z => absurd (show (8 : Int32) ≤ (6 : Int32) from z) (by decide +kernel)) (fun _ => (And.intro (show vp_in 6 8 from vin_l (by decide +kernel)) (And.intro (Nat.le_of_ble_eq_true rfl) h))))
set_option maxRecDepth 100000 in
theorem q_61_9 {d : Nat} {Q : am_Q} (h : pW cd_287 (279, 8206) d Q 5 [some (.ref 29), some (.int (0)), some (.int (8)), some (.int (8))] [] HC_288) : pW cd_287 (279, 8206) d Q 5 [some (.ref 29), some (.int (0)), some (.int (7)), some (.int (8))] [] HC_287 := pW.run (am_in [5]) 10 (And.intro (fun z => absurd (show (8 : Int32) ≤ (7 : Int32) from z) (by decide +kernel)) (fun _ => (And.intro (show vp_in 7 8 from vin_l (by decide +kernel)) (And.intro (Nat.le_of_ble_eq_true rfl) h))))
set_option maxRecDepth 100000 in
theorem q_61_10 {d : Nat} {Q : am_Q} (w : Q none HC_288) : pW cd_287 (279, 8206) d Q 5 [some (.ref 29), some (.int (0)), some (.int (8)), some (.int (8))] [] HC_288 := pW.run (am_in []) 5 (And.intro (fun _ => ⟨rfl, rfl, w⟩) (fun z => absurd (show (8 : Int32) ≤ (8 : Int32) by decide +kernel) z))
set_option maxRecDepth 100000 in
theorem ct_61 {d : Nat} {Q : am_Q} (w : Q none HC_288) : am_Spec PR (d + 1) 287 (279, 8206) [(.ref 29), (.int (0))] HC_280 Q := pS.of rfl (q_61_1 (q_61_2 (q_61_3 (q_61_4 (q_61_5 (q_61_6 (q_61_7 (q_61_8 (q_61_9 (q_61_10 w))))))))))
def I_289 : Nat → Nat → Int32 := u2 (I_288) 30 0 (0)
abbrev HC_289 : am_Hp := (279, 8206, S_279, I_289, L_279, R_279)
def I_290 : Nat → Nat → Int32 := u2 (I_289) 30 1 (0)
abbrev HC_290 : am_Hp := (279, 8206, S_279, I_290, L_279, R_279)
def I_291 : Nat → Nat → Int32 := u2 (I_290) 30 2 (0)
abbrev HC_291 : am_Hp := (279, 8206, S_279, I_291, L_279, R_279)
def I_292 : Nat → Nat → Int32 := u2 (I_291) 30 3 (0)
abbrev HC_292 : am_Hp := (279, 8206, S_279, I_292, L_279, R_279)
set_option maxRecDepth 100000 in
theorem q_62_1 {d : Nat} {Q : am_Q} (h : pW cd_287 (279, 8206) d Q 5 [some (.ref 30), some (.int (0)), some (.int (0)), some (.int (4))] [] HC_288) : pW cd_287 (279, 8206) d Q 0 [some (.ref 30), some (.int (0)), none, none] [] HC_288 := pW.run (am_in [5]) 6 (And.intro (Nat.le_of_ble_eq_true rfl) (And.intro (Nat.le_of_ble_eq_true rfl) h))
set_option maxRecDepth 100000 in
theorem q_62_2 {d : Nat} {Q : am_Q} (h : pW cd_287 (279, 8206) d Q 5 [some (.ref 30), some (.int (0)), some (.int (1)), some (.int (4))] [] HC_289) : pW cd_287 (279, 8206) d Q 5 [some (.ref 30), some (.int (0)), some (.int (0)), some (.int (4))] [] HC_288 := pW.run (am_in [5]) 10 (And.intro (fun z => absurd (show (4 : Int32) ≤ (0 : Int32) from z) (by decide +kernel)) (fun _ => (And.intro (show vp_in 0 4 from vin_l (by decide +kernel)) (And.intro (Nat.le_of_ble_eq_true rfl) h))))
set_option maxRecDepth 100000 in
theorem q_62_3 {d : Nat} {Q : am_Q} (h : pW cd_287 (279, 8206) d Q 5 [some (.ref 30), some (.int (0)), some (.int (2)), some (.int (4))] [] HC_290) : pW cd_287 (279, 8206) d Q 5 [some (.ref 30), some (.int (0)), some (.int (1)), some (.int (4))] [] HC_289 := pW.run (am_in [5]) 10 (And.intro (fun z => absurd (show (4 : Int32) ≤ (1 : Int32) from z) (by decide +kernel)) (fun _ => (And.intro (show vp_in 1 4 from vin_l (by decide +kernel)) (And.intro (Nat.le_of_ble_eq_true rfl) h))))
set_option maxRecDepth 100000 in
theorem q_62_4 {d : Nat} {Q : am_Q} (h : pW cd_287 (279, 8206) d Q 5 [some (.ref 30), some (.int (0)), some (.int (3)), some (.int (4))] [] HC_291) : pW cd_287 (279, 8206) d Q 5 [some (.ref 30), some (.int (0)), some (.int (2)), some (.int (4))] [] HC_290 := pW.run (am_in [5]) 10 (And.intro (fun z => absurd (show (4 : Int32) ≤ (2 : Int32) from z) (by decide +kernel)) (fun _ => (And.intro (show vp_in 2 4 from vin_l (by decide +kernel)) (And.intro (Nat.le_of_ble_eq_true rfl) h))))
set_option maxRecDepth 100000 in
theorem q_62_5 {d : Nat} {Q : am_Q} (h : pW cd_287 (279, 8206) d Q 5 [some (.ref 30), some (.int (0)), some (.int (4)), some (.int (4))] [] HC_292) : pW cd_287 (279, 8206) d Q 5 [some (.ref 30), some (.int (0)), some (.int (3)), some (.int (4))] [] HC_291 := pW.run (am_in [5]) 10 (And.intro (fun z => absurd (show (4 : Int32) ≤ (3 : Int32) from z) (by decide +kernel)) (fun _ => (And.intro (show vp_in 3 4 from vin_l (by decide +kernel)) (And.intro (Nat.le_of_ble_eq_true rfl) h))))
set_option maxRecDepth 100000 in
theorem q_62_6 {d : Nat} {Q : am_Q} (w : Q none HC_292) : pW cd_287 (279, 8206) d Q 5 [some (.ref 30), some (.int (0)), some (.int (4)), some (.int (4))] [] HC_292 := pW.run (am_in []) 5 (And.intro (fun _ => ⟨rfl, rfl, w⟩) (fun z => absurd (show (4 : Int32) ≤ (4 : Int32) by decide +kernel) z))
set_option maxRecDepth 100000 in
theorem ct_62 {d : Nat} {Q : am_Q} (w : Q none HC_292) : am_Spec PR (d + 1) 287 (279, 8206) [(.ref 30), (.int (0))] HC_288 Q := pS.of rfl (q_62_1 (q_62_2 (q_62_3 (q_62_4 (q_62_5 (q_62_6 w))))))
def I_293 : Nat → Nat → Int32 := u2 (I_292) 31 0 (0)
abbrev HC_293 : am_Hp := (279, 8206, S_279, I_293, L_279, R_279)
def I_294 : Nat → Nat → Int32 := u2 (I_293) 31 1 (0)
abbrev HC_294 : am_Hp := (279, 8206, S_279, I_294, L_279, R_279)
def I_295 : Nat → Nat → Int32 := u2 (I_294) 31 2 (0)
abbrev HC_295 : am_Hp := (279, 8206, S_279, I_295, L_279, R_279)
def I_296 : Nat → Nat → Int32 := u2 (I_295) 31 3 (0)
abbrev HC_296 : am_Hp := (279, 8206, S_279, I_296, L_279, R_279)
set_option maxRecDepth 100000 in
theorem q_63_1 {d : Nat} {Q : am_Q} (h : pW cd_287 (279, 8206) d Q 5 [some (.ref 31), some (.int (0)), some (.int (0)), some (.int (4))] [] HC_292) : pW cd_287 (279, 8206) d Q 0 [some (.ref 31), some (.int (0)), none, none] [] HC_292 := pW.run (am_in [5]) 6 (And.intro (Nat.le_of_ble_eq_true rfl) (And.intro (Nat.le_of_ble_eq_true rfl) h))
set_option maxRecDepth 100000 in
theorem q_63_2 {d : Nat} {Q : am_Q} (h : pW cd_287 (279, 8206) d Q 5 [some (.ref 31), some (.int (0)), some (.int (1)), some (.int (4))] [] HC_293) : pW cd_287 (279, 8206) d Q 5 [some (.ref 31), some (.int (0)), some (.int (0)), some (.int (4))] [] HC_292 := pW.run (am_in [5]) 10 (And.intro (fun z => absurd (show (4 : Int32) ≤ (0 : Int32) from z) (by decide +kernel)) (fun _ => (And.intro (show vp_in 0 4 from vin_l (by decide +kernel)) (And.intro (Nat.le_of_ble_eq_true rfl) h))))
set_option maxRecDepth 100000 in
theorem q_63_3 {d : Nat} {Q : am_Q} (h : pW cd_287 (279, 8206) d Q 5 [some (.ref 31), some (.int (0)), some (.int (2)), some (.int (4))] [] HC_294) : pW cd_287 (279, 8206) d Q 5 [some (.ref 31), some (.int (0)), some (.int (1)), some (.int (4))] [] HC_293 := pW.run (am_in [5]) 10 (And.intro (fun z => absurd (show (4 : Int32) ≤ (1 : Int32) from z) (by decide +kernel)) (fun _ => (And.intro (show vp_in 1 4 from vin_l (by decide +kernel)) (And.intro (Nat.le_of_ble_eq_true rfl) h))))
set_option maxRecDepth 100000 in
theorem q_63_4 {d : Nat} {Q : am_Q} (h : pW cd_287 (279, 8206) d Q 5 [some (.ref 31), some (.int (0)), some (.int (3)), some (.int (4))] [] HC_295) : pW cd_287 (279, 8206) d Q 5 [some (.ref 31), some (.int (0)), some (.int (2)), some (.int (4))] [] HC_294 := pW.run (am_in [5]) 10 (And.intro (fun z => absurd (show (4 : Int32) ≤ (2 : Int32) from z) (by decide +kernel)) (fun _ => (And.intro (show vp_in 2 4 from vin_l (by decide +kernel)) (And.intro (Nat.le_of_ble_eq_true rfl) h))))
set_option maxRecDepth 100000 in
theorem q_63_5 {d : Nat} {Q : am_Q} (h : pW cd_287 (279, 8206) d Q 5 [some (.ref 31), some (.int (0)), some (.int (4)), some (.int (4))] [] HC_296) : pW cd_287 (279, 8206) d Q 5 [some (.ref 31), some (.int (0)), some (.int (3)), some (.int (4))] [] HC_295 := pW.run (am_in [5]) 10 (And.intro (fun z => absurd (show (4 : Int32) ≤ (3 : Int32) from z) (by decide +kernel)) (fun _ => (And.intro (show vp_in 3 4 from vin_l (by decide +kernel)) (And.intro (Nat.le_of_ble_eq_true rfl) h))))
set_option maxRecDepth 100000 in
theorem q_63_6 {d : Nat} {Q : am_Q} (w : Q none HC_296) : pW cd_287 (279, 8206) d Q 5 [some (.ref 31), some (.int (0)), some (.int (4)), some (.int (4))] [] HC_296 := pW.run (am_in []) 5 (And.intro (fun _ => ⟨rfl, rfl, w⟩) (fun z => absurd (show (4 : Int32) ≤ (4 : Int32) by decide +kernel) z))
set_option maxRecDepth 100000 in
theorem ct_63 {d : Nat} {Q : am_Q} (w : Q none HC_296) : am_Spec PR (d + 1) 287 (279, 8206) [(.ref 31), (.int (0))] HC_292 Q := pS.of rfl (q_63_1 (q_63_2 (q_63_3 (q_63_4 (q_63_5 (q_63_6 w))))))
set_option maxRecDepth 100000 in
theorem q_59_1 {d : Nat} {Q : am_Q} (h : pC (279, 8206) (d + 1) 108 [(.ref 19), (.int (0))] HC_279 (am_ret (pW cd_79 (279, 8206) (d + 1) Q) 9 [some (.ref 28), some (.ref 19)] [(.ref 28)])) : pW cd_79 (279, 8206) (d + 1) Q 0 [some (.ref 28), some (.ref 19)] [] HC_279 := pW.run (am_in [9]) 6 h
set_option maxRecDepth 100000 in
theorem q_59_2 {d : Nat} {Q : am_Q} (h : pC (279, 8206) (d + 1) 287 [(.ref 29), (.int (0))] HC_280 (am_ret (pW cd_79 (279, 8206) (d + 1) Q) 44 [some (.ref 28), some (.ref 19)] [])) : pW cd_79 (279, 8206) (d + 1) Q 9 [some (.ref 28), some (.ref 19)] [(.int (0)), (.ref 28)] HC_279 := pW.run (am_in [44]) 15 (And.intro (fun _ => h) (fun z => absurd (show (0 : Int32) = 0 by decide +kernel) z))
set_option maxRecDepth 100000 in
theorem q_59_3 {d : Nat} {Q : am_Q} (h : pC (279, 8206) (d + 1) 287 [(.ref 30), (.int (0))] HC_288 (am_ret (pW cd_79 (279, 8206) (d + 1) Q) 52 [some (.ref 28), some (.ref 19)] [])) : pW cd_79 (279, 8206) (d + 1) Q 44 [some (.ref 28), some (.ref 19)] [] HC_288 := pW.run (am_in [52]) 5 h
set_option maxRecDepth 100000 in
theorem q_59_4 {d : Nat} {Q : am_Q} (h : pC (279, 8206) (d + 1) 287 [(.ref 31), (.int (0))] HC_292 (am_ret (pW cd_79 (279, 8206) (d + 1) Q) 60 [some (.ref 28), some (.ref 19)] [])) : pW cd_79 (279, 8206) (d + 1) Q 52 [some (.ref 28), some (.ref 19)] [] HC_292 := pW.run (am_in [60]) 5 h
set_option maxRecDepth 100000 in
theorem q_59_5 {d : Nat} {Q : am_Q} (w : Q none HC_296) : pW cd_79 (279, 8206) (d + 1) Q 60 [some (.ref 28), some (.ref 19)] [] HC_296 := pW.run (am_in []) 2 ⟨rfl, rfl, w⟩
set_option maxRecDepth 100000 in
theorem ct_59 {d : Nat} {Q : am_Q} (w : Q none HC_296) : am_Spec PR (d + 2) 79 (279, 8206) [(.ref 28), (.ref 19)] HC_279 Q := pS.of rfl (q_59_1 ⟨(279, 8206), Nat.le_of_ble_eq_true rfl, Nat.le_of_ble_eq_true rfl, Nat.le_of_ble_eq_true rfl, Nat.le_of_ble_eq_true rfl, ct_60 (q_59_2 ⟨(279, 8206), Nat.le_of_ble_eq_true rfl, Nat.le_of_ble_eq_true rfl, Nat.le_of_ble_eq_true rfl, Nat.le_of_ble_eq_true rfl, ct_61 (q_59_3 ⟨(279, 8206), Nat.le_of_ble_eq_true rfl, Nat.le_of_ble_eq_true rfl, Nat.le_of_ble_eq_true rfl, Nat.le_of_ble_eq_true rfl, ct_62 (q_59_4 ⟨(279, 8206), Nat.le_of_ble_eq_true rfl, Nat.le_of_ble_eq_true rfl, Nat.le_of_ble_eq_true rfl, Nat.le_of_ble_eq_true rfl, ct_63 (q_59_5 w)⟩)⟩)⟩)⟩)
set_option maxRecDepth 100000 in
theorem q_1_1 {d : Nat} {Q : am_Q} (h : pC (279, 8206) (d + 5) 86 [(.ref 1)] HC_2 (am_ret (pW cd_122 (279, 8206) (d + 5) Q) 12 [some (.ref 0), none] [(.ref 1), (.ref 0)])) : pW cd_122 (279, 8206) (d + 5) Q 0 [some (.ref 0), none] [] HC_1 := pW.run (am_in [12]) 7 (And.intro (by decide +kernel) (And.intro (by decide +kernel) (And.intro rfl h)))
set_option maxRecDepth 100000 in
theorem q_1_2 {d : Nat} {Q : am_Q} (h : pC (279, 8206) (d + 5) 65 [(.ref 3), (.ref 1)] HC_4 (am_ret (pW cd_122 (279, 8206) (d + 5) Q) 27 [some (.ref 0), none] [(.ref 3), (.ref 0)])) : pW cd_122 (279, 8206) (d + 5) Q 12 [some (.ref 0), none] [(.ref 1), (.ref 0)] HC_3 := pW.run (am_in [27]) 8 (And.intro (by decide +kernel) (And.intro (by decide +kernel) (And.intro rfl h)))
set_option maxRecDepth 100000 in
theorem q_1_3 {d : Nat} {Q : am_Q} (h : pC (279, 8206) (d + 5) 105 [(.ref 5)] HC_9 (am_ret (pW cd_122 (279, 8206) (d + 5) Q) 38 [some (.ref 0), none] [(.ref 5), (.ref 0)])) : pW cd_122 (279, 8206) (d + 5) Q 27 [some (.ref 0), none] [(.ref 3), (.ref 0)] HC_8 := pW.run (am_in [38]) 6 (And.intro (by decide +kernel) (And.intro (by decide +kernel) (And.intro rfl h)))
set_option maxRecDepth 100000 in
theorem q_1_4 {d : Nat} {Q : am_Q} (h : pC (279, 8206) (d + 5) 89 [(.ref 14), (.ref 3), (.ref 5)] HC_18 (am_ret (pW cd_122 (279, 8206) (d + 5) Q) 57 [some (.ref 0), none] [(.ref 14), (.ref 0)])) : pW cd_122 (279, 8206) (d + 5) Q 38 [some (.ref 0), none] [(.ref 5), (.ref 0)] HC_17 := pW.run (am_in [57]) 10 (And.intro (by decide +kernel) (And.intro (by decide +kernel) (And.intro rfl h)))
set_option maxRecDepth 100000 in
theorem q_1_5 {d : Nat} {Q : am_Q} (h : pC (279, 8206) (d + 5) 105 [(.ref 19)] HC_24 (am_ret (pW cd_122 (279, 8206) (d + 5) Q) 68 [some (.ref 0), none] [(.ref 19), (.ref 0)])) : pW cd_122 (279, 8206) (d + 5) Q 57 [some (.ref 0), none] [(.ref 14), (.ref 0)] HC_23 := pW.run (am_in [68]) 6 (And.intro (by decide +kernel) (And.intro (by decide +kernel) (And.intro rfl h)))
set_option maxRecDepth 100000 in
theorem q_1_6 {d : Nat} {Q : am_Q} (h : pC (279, 8206) (d + 5) 78 [(.ref 28)] HC_33 (am_ret (pW cd_122 (279, 8206) (d + 5) Q) 79 [some (.ref 0), none] [(.ref 28), (.ref 0)])) : pW cd_122 (279, 8206) (d + 5) Q 68 [some (.ref 0), none] [(.ref 19), (.ref 0)] HC_32 := pW.run (am_in [79]) 6 (And.intro (by decide +kernel) (And.intro (by decide +kernel) (And.intro rfl h)))
set_option maxRecDepth 100000 in
theorem q_1_7 {d : Nat} {Q : am_Q} (h : pC (279, 8206) (d + 5) 0 [(.ref 33)] HC_37 (am_ret (pW cd_122 (279, 8206) (d + 5) Q) 90 [some (.ref 0), none] [(.ref 33), (.ref 0)])) : pW cd_122 (279, 8206) (d + 5) Q 79 [some (.ref 0), none] [(.ref 28), (.ref 0)] HC_36 := pW.run (am_in [90]) 6 (And.intro (by decide +kernel) (And.intro (by decide +kernel) (And.intro rfl h)))
set_option maxRecDepth 100000 in
theorem q_1_8 {d : Nat} {Q : am_Q} (h : pW cd_122 (279, 8206) (d + 5) Q 103 [some (.ref 0), some (.int (0))] [] HC_244) : pW cd_122 (279, 8206) (d + 5) Q 90 [some (.ref 0), none] [(.ref 33), (.ref 0)] HC_243 := pW.run (am_in [103]) 8 (And.intro (show ¬ (3 : Int32) < 0 by decide +kernel) (And.intro (show (3 : Int32).toNatClampNeg ≤ 10000 by decide +kernel) (And.intro (by decide +kernel) (And.intro (by decide +kernel) (And.intro (Nat.le_of_ble_eq_true rfl) h)))))
set_option maxRecDepth 100000 in
theorem q_1_9 {d : Nat} {Q : am_Q} (h : pC (279, 8206) (d + 5) 78 [(.ref 241)] HC_245 (am_ret (pW cd_122 (279, 8206) (d + 5) Q) 120 [some (.ref 0), some (.int (0))] [(.ref 241), (.int (0)), (.ref 240)])) : pW cd_122 (279, 8206) (d + 5) Q 103 [some (.ref 0), some (.int (0))] [] HC_244 := pW.run (am_in [120]) 10 (And.intro (fun z => absurd (show (3 : Int32) ≤ (0 : Int32) from z) (by decide +kernel)) (fun _ => (And.intro (by decide +kernel) (And.intro (by decide +kernel) (And.intro rfl h)))))
set_option maxRecDepth 100000 in
theorem q_1_10 {d : Nat} {Q : am_Q} (h : pW cd_122 (279, 8206) (d + 5) Q 103 [some (.ref 0), some (.int (1))] [] HC_249) : pW cd_122 (279, 8206) (d + 5) Q 120 [some (.ref 0), some (.int (0))] [(.ref 241), (.int (0)), (.ref 240)] HC_248 := pW.run (am_in [103]) 4 (And.intro (show vp_in 0 3 from vin_l (by decide +kernel)) (And.intro (Nat.le_of_ble_eq_true rfl) h))
set_option maxRecDepth 100000 in
theorem q_1_11 {d : Nat} {Q : am_Q} (h : pC (279, 8206) (d + 5) 78 [(.ref 246)] HC_250 (am_ret (pW cd_122 (279, 8206) (d + 5) Q) 120 [some (.ref 0), some (.int (1))] [(.ref 246), (.int (1)), (.ref 240)])) : pW cd_122 (279, 8206) (d + 5) Q 103 [some (.ref 0), some (.int (1))] [] HC_249 := pW.run (am_in [120]) 10 (And.intro (fun z => absurd (show (3 : Int32) ≤ (1 : Int32) from z) (by decide +kernel)) (fun _ => (And.intro (by decide +kernel) (And.intro (by decide +kernel) (And.intro rfl h)))))
set_option maxRecDepth 100000 in
theorem q_1_12 {d : Nat} {Q : am_Q} (h : pW cd_122 (279, 8206) (d + 5) Q 103 [some (.ref 0), some (.int (2))] [] HC_254) : pW cd_122 (279, 8206) (d + 5) Q 120 [some (.ref 0), some (.int (1))] [(.ref 246), (.int (1)), (.ref 240)] HC_253 := pW.run (am_in [103]) 4 (And.intro (show vp_in 1 3 from vin_l (by decide +kernel)) (And.intro (Nat.le_of_ble_eq_true rfl) h))
set_option maxRecDepth 100000 in
theorem q_1_13 {d : Nat} {Q : am_Q} (h : pC (279, 8206) (d + 5) 78 [(.ref 251)] HC_255 (am_ret (pW cd_122 (279, 8206) (d + 5) Q) 120 [some (.ref 0), some (.int (2))] [(.ref 251), (.int (2)), (.ref 240)])) : pW cd_122 (279, 8206) (d + 5) Q 103 [some (.ref 0), some (.int (2))] [] HC_254 := pW.run (am_in [120]) 10 (And.intro (fun z => absurd (show (3 : Int32) ≤ (2 : Int32) from z) (by decide +kernel)) (fun _ => (And.intro (by decide +kernel) (And.intro (by decide +kernel) (And.intro rfl h)))))
set_option maxRecDepth 100000 in
theorem q_1_14 {d : Nat} {Q : am_Q} (h : pW cd_122 (279, 8206) (d + 5) Q 103 [some (.ref 0), some (.int (3))] [] HC_259) : pW cd_122 (279, 8206) (d + 5) Q 120 [some (.ref 0), some (.int (2))] [(.ref 251), (.int (2)), (.ref 240)] HC_258 := pW.run (am_in [103]) 4 (And.intro (show vp_in 2 3 from vin_l (by decide +kernel)) (And.intro (Nat.le_of_ble_eq_true rfl) h))
set_option maxRecDepth 100000 in
theorem q_1_15 {d : Nat} {Q : am_Q} (h : pC (279, 8206) (d + 5) 36 [(.ref 256), (.ref 19), (.ref 28)] HC_260 (am_ret (pW cd_122 (279, 8206) (d + 5) Q) 148 [some (.ref 0), some (.int (3))] [(.ref 256), (.ref 0)])) : pW cd_122 (279, 8206) (d + 5) Q 103 [some (.ref 0), some (.int (3))] [] HC_259 := pW.run (am_in [148]) 15 (And.intro (fun _ => (And.intro (by decide +kernel) (And.intro (by decide +kernel) (And.intro rfl h)))) (fun z => absurd (show (3 : Int32) ≤ (3 : Int32) by decide +kernel) z))
set_option maxRecDepth 100000 in
theorem q_1_16 {d : Nat} {Q : am_Q} (h : pC (279, 8206) (d + 5) 15 [(.ref 264), (.ref 19), (.ref 28), (.ref 256)] HC_267 (am_ret (pW cd_122 (279, 8206) (d + 5) Q) 171 [some (.ref 0), some (.int (3))] [(.ref 264), (.ref 0)])) : pW cd_122 (279, 8206) (d + 5) Q 148 [some (.ref 0), some (.int (3))] [(.ref 256), (.ref 0)] HC_266 := pW.run (am_in [171]) 12 (And.intro (by decide +kernel) (And.intro (by decide +kernel) (And.intro rfl h)))
set_option maxRecDepth 100000 in
theorem q_1_17 {d : Nat} {Q : am_Q} (h : pC (279, 8206) (d + 5) 24 [(.ref 266)] HC_271 (am_ret (pW cd_122 (279, 8206) (d + 5) Q) 182 [some (.ref 0), some (.int (3))] [(.ref 266), (.ref 0)])) : pW cd_122 (279, 8206) (d + 5) Q 171 [some (.ref 0), some (.int (3))] [(.ref 264), (.ref 0)] HC_270 := pW.run (am_in [182]) 6 (And.intro (by decide +kernel) (And.intro (by decide +kernel) (And.intro rfl h)))
set_option maxRecDepth 100000 in
theorem q_1_18 {d : Nat} {Q : am_Q} (h : pW cd_122 (279, 8206) (d + 5) Q 198 [some (.ref 0), some (.int (3))] [] HC_279) : pW cd_122 (279, 8206) (d + 5) Q 182 [some (.ref 0), some (.int (3))] [(.ref 266), (.ref 0)] HC_278 := pW.run (am_in [198]) 9 (And.intro (show ¬ (8 : Int32) < 0 by decide +kernel) (And.intro (show (8 : Int32).toNatClampNeg ≤ 10000 by decide +kernel) (And.intro (by decide +kernel) (And.intro (by decide +kernel) h))))
set_option maxRecDepth 100000 in
theorem q_1_19 {d : Nat} {Q : am_Q} (h : pC (279, 8206) (d + 5) 79 [(.ref 28), (.ref 19)] HC_279 (am_ret (pW cd_122 (279, 8206) (d + 5) Q) 209 [some (.ref 0), some (.int (3))] [])) : pW cd_122 (279, 8206) (d + 5) Q 198 [some (.ref 0), some (.int (3))] [] HC_279 := pW.run (am_in [209]) 6 h
set_option maxRecDepth 100000 in
theorem q_1_20 {d : Nat} {Q : am_Q} (w : Q none HC_296) : pW cd_122 (279, 8206) (d + 5) Q 209 [some (.ref 0), some (.int (3))] [] HC_296 := pW.run (am_in []) 2 ⟨rfl, rfl, w⟩
set_option maxRecDepth 100000 in
theorem ct_1 {d : Nat} {Q : am_Q} (w : Q none HC_296) : am_Spec PR (d + 6) 122 (279, 8206) [(.ref 0)] HC_1 Q := pS.of rfl (q_1_1 ⟨(3, 1616), Nat.le_of_ble_eq_true rfl, Nat.le_of_ble_eq_true rfl, Nat.le_of_ble_eq_true rfl, Nat.le_of_ble_eq_true rfl, ct_2 (q_1_2 ⟨(5, 1646), Nat.le_of_ble_eq_true rfl, Nat.le_of_ble_eq_true rfl, Nat.le_of_ble_eq_true rfl, Nat.le_of_ble_eq_true rfl, ct_3 (q_1_3 ⟨(14, 2008), Nat.le_of_ble_eq_true rfl, Nat.le_of_ble_eq_true rfl, Nat.le_of_ble_eq_true rfl, Nat.le_of_ble_eq_true rfl, ct_4 (q_1_4 ⟨(19, 2034), Nat.le_of_ble_eq_true rfl, Nat.le_of_ble_eq_true rfl, Nat.le_of_ble_eq_true rfl, Nat.le_of_ble_eq_true rfl, ct_6 (q_1_5 ⟨(28, 2396), Nat.le_of_ble_eq_true rfl, Nat.le_of_ble_eq_true rfl, Nat.le_of_ble_eq_true rfl, Nat.le_of_ble_eq_true rfl, ct_8 (q_1_6 ⟨(33, 2479), Nat.le_of_ble_eq_true rfl, Nat.le_of_ble_eq_true rfl, Nat.le_of_ble_eq_true rfl, Nat.le_of_ble_eq_true rfl, ct_10 (q_1_7 ⟨(240, 5926), Nat.le_of_ble_eq_true rfl, Nat.le_of_ble_eq_true rfl, Nat.le_of_ble_eq_true rfl, Nat.le_of_ble_eq_true rfl, ct_11 (q_1_8 (q_1_9 ⟨(246, 6012), Nat.le_of_ble_eq_true rfl, Nat.le_of_ble_eq_true rfl, Nat.le_of_ble_eq_true rfl, Nat.le_of_ble_eq_true rfl, ct_53 (q_1_10 (q_1_11 ⟨(251, 6095), Nat.le_of_ble_eq_true rfl, Nat.le_of_ble_eq_true rfl, Nat.le_of_ble_eq_true rfl, Nat.le_of_ble_eq_true rfl, ct_54 (q_1_12 (q_1_13 ⟨(256, 6178), Nat.le_of_ble_eq_true rfl, Nat.le_of_ble_eq_true rfl, Nat.le_of_ble_eq_true rfl, Nat.le_of_ble_eq_true rfl, ct_55 (q_1_14 (q_1_15 ⟨(264, 7865), Nat.le_of_ble_eq_true rfl, Nat.le_of_ble_eq_true rfl, Nat.le_of_ble_eq_true rfl, Nat.le_of_ble_eq_true rfl, ct_56 (q_1_16 ⟨(266, 7882), Nat.le_of_ble_eq_true rfl, Nat.le_of_ble_eq_true rfl, Nat.le_of_ble_eq_true rfl, Nat.le_of_ble_eq_true rfl, ct_57 (q_1_17 ⟨(278, 8198), Nat.le_of_ble_eq_true rfl, Nat.le_of_ble_eq_true rfl, Nat.le_of_ble_eq_true rfl, Nat.le_of_ble_eq_true rfl, ct_58 (q_1_18 (q_1_19 ⟨(279, 8206), Nat.le_of_ble_eq_true rfl, Nat.le_of_ble_eq_true rfl, Nat.le_of_ble_eq_true rfl, Nat.le_of_ble_eq_true rfl, ct_59 (q_1_20 w)⟩))⟩)⟩)⟩))⟩))⟩))⟩))⟩)⟩)⟩)⟩)⟩)⟩)⟩)
def S_297 : Nat → Nat × Nat := fun i => bif Nat.beq i 279 then (12, 92) else (S_279) i
def I_297 : Nat → Nat → Int32 := uR (I_296) 279 (fun _ => 0)
def L_297 : Nat → Nat → Int64 := uR (L_279) 279 (fun _ => 0)
def R_297 : Nat → Nat → Option Nat := uR (R_279) 279 (fun _ => none)
abbrev HC_297 : am_Hp := (280, 8298, S_297, I_297, L_297, R_297)
def S_298 : Nat → Nat × Nat := fun i => bif Nat.beq i 281 then (103, 16) else (fun i => bif Nat.beq i 280 then (100, 1600) else (S_297) i) i
def I_298 : Nat → Nat → Int32 := uR (u2 (uR (I_297) 280 (fun _ => 0)) 279 3 (-1)) 281 (fun _ => 0)
def L_298 : Nat → Nat → Int64 := uR (uR (L_297) 280 (fun _ => 0)) 281 (fun _ => 0)
def R_298 : Nat → Nat → Option Nat := uR (u2 (uR (R_297) 280 (fun _ => none)) 279 0 (some 280)) 281 (fun _ => none)
abbrev HC_298 : am_Hp := (282, 9914, S_298, I_298, L_298, R_298)
def S_299 : Nat → Nat × Nat := fun i => bif Nat.beq i 283 then (100, 320) else (fun i => bif Nat.beq i 282 then (100, 320) else (S_298) i) i
def I_299 : Nat → Nat → Int32 := uR (uR (I_298) 282 (fun _ => 0)) 283 (fun _ => 0)
def L_299 : Nat → Nat → Int64 := uR (uR (L_298) 282 (fun _ => 0)) 283 (fun _ => 0)
def R_299 : Nat → Nat → Option Nat := uR (u2 (uR (u2 (R_298) 279 10 (some 281)) 282 (fun _ => none)) 279 11 (some 282)) 283 (fun _ => none)
abbrev HC_299 : am_Hp := (284, 10554, S_299, I_299, L_299, R_299)
def S_300 : Nat → Nat × Nat := fun i => bif Nat.beq i 285 then (100, 320) else (fun i => bif Nat.beq i 284 then (100, 320) else (S_299) i) i
def I_300 : Nat → Nat → Int32 := uR (uR (I_299) 284 (fun _ => 0)) 285 (fun _ => 0)
def L_300 : Nat → Nat → Int64 := uR (uR (L_299) 284 (fun _ => 0)) 285 (fun _ => 0)
def R_300 : Nat → Nat → Option Nat := uR (u2 (uR (u2 (R_299) 279 12 (some 283)) 284 (fun _ => none)) 279 13 (some 284)) 285 (fun _ => none)
abbrev HC_300 : am_Hp := (286, 11194, S_300, I_300, L_300, R_300)
def S_301 : Nat → Nat × Nat := fun i => bif Nat.beq i 287 then (100, 64) else (fun i => bif Nat.beq i 286 then (100, 160) else (S_300) i) i
def I_301 : Nat → Nat → Int32 := uR (uR (I_300) 286 (fun _ => 0)) 287 (fun _ => 0)
def L_301 : Nat → Nat → Int64 := uR (uR (L_300) 286 (fun _ => 0)) 287 (fun _ => 0)
def R_301 : Nat → Nat → Option Nat := uR (u2 (uR (u2 (R_300) 279 14 (some 285)) 286 (fun _ => none)) 279 15 (some 286)) 287 (fun _ => none)
abbrev HC_301 : am_Hp := (288, 11418, S_301, I_301, L_301, R_301)
def S_302 : Nat → Nat × Nat := fun i => bif Nat.beq i 289 then (100, 8) else (fun i => bif Nat.beq i 288 then (100, 5) else (S_301) i) i
def I_302 : Nat → Nat → Int32 := uR (uR (I_301) 288 (fun _ => 0)) 289 (fun _ => 0)
def L_302 : Nat → Nat → Int64 := uR (uR (L_301) 288 (fun _ => 0)) 289 (fun _ => 0)
def R_302 : Nat → Nat → Option Nat := uR (u2 (uR (u2 (R_301) 279 16 (some 287)) 288 (fun _ => none)) 279 24 (some 288)) 289 (fun _ => none)
abbrev HC_302 : am_Hp := (290, 11431, S_302, I_302, L_302, R_302)
def S_303 : Nat → Nat × Nat := fun i => bif Nat.beq i 291 then (100, 8) else (fun i => bif Nat.beq i 290 then (100, 8) else (S_302) i) i
def I_303 : Nat → Nat → Int32 := uR (uR (I_302) 290 (fun _ => 0)) 291 (fun _ => 0)
def L_303 : Nat → Nat → Int64 := uR (uR (L_302) 290 (fun _ => 0)) 291 (fun _ => 0)
def R_303 : Nat → Nat → Option Nat := uR (u2 (uR (u2 (R_302) 279 25 (some 289)) 290 (fun _ => none)) 279 26 (some 290)) 291 (fun _ => none)
abbrev HC_303 : am_Hp := (292, 11447, S_303, I_303, L_303, R_303)
def S_304 : Nat → Nat × Nat := fun i => bif Nat.beq i 293 then (100, 16) else (fun i => bif Nat.beq i 292 then (100, 4) else (S_303) i) i
def I_304 : Nat → Nat → Int32 := uR (uR (I_303) 292 (fun _ => 0)) 293 (fun _ => 0)
def L_304 : Nat → Nat → Int64 := uR (uR (L_303) 292 (fun _ => 0)) 293 (fun _ => 0)
def R_304 : Nat → Nat → Option Nat := uR (u2 (uR (u2 (R_303) 279 27 (some 291)) 292 (fun _ => none)) 279 28 (some 292)) 293 (fun _ => none)
abbrev HC_304 : am_Hp := (294, 11467, S_304, I_304, L_304, R_304)
def S_305 : Nat → Nat × Nat := fun i => bif Nat.beq i 295 then (100, 8) else (fun i => bif Nat.beq i 294 then (100, 8) else (S_304) i) i
def I_305 : Nat → Nat → Int32 := uR (uR (I_304) 294 (fun _ => 0)) 295 (fun _ => 0)
