/-! ===== the constructors, by program ===== -/
def L_305 : Nat → Nat → Int64 := uR (uR (L_304) 294 (fun _ => 0)) 295 (fun _ => 0)
def R_305 : Nat → Nat → Option Nat := uR (u2 (uR (u2 (R_304) 279 29 (some 293)) 294 (fun _ => none)) 279 30 (some 294)) 295 (fun _ => none)
abbrev HC_305 : am_Hp := (296, 11483, S_305, I_305, L_305, R_305)
def S_306 : Nat → Nat × Nat := fun i => bif Nat.beq i 297 then (100, 4) else (fun i => bif Nat.beq i 296 then (100, 8) else (S_305) i) i
def I_306 : Nat → Nat → Int32 := uR (uR (I_305) 296 (fun _ => 0)) 297 (fun _ => 0)
def L_306 : Nat → Nat → Int64 := uR (uR (L_305) 296 (fun _ => 0)) 297 (fun _ => 0)
def R_306 : Nat → Nat → Option Nat := uR (u2 (uR (u2 (R_305) 279 31 (some 295)) 296 (fun _ => none)) 279 32 (some 296)) 297 (fun _ => none)
abbrev HC_306 : am_Hp := (298, 11495, S_306, I_306, L_306, R_306)
def S_307 : Nat → Nat × Nat := fun i => bif Nat.beq i 298 then (100, 16) else (S_306) i
def I_307 : Nat → Nat → Int32 := u2 (uR (I_306) 298 (fun _ => 0)) 279 50 (8)
def L_307 : Nat → Nat → Int64 := uR (L_306) 298 (fun _ => 0)
def R_307 : Nat → Nat → Option Nat := u2 (uR (u2 (R_306) 279 33 (some 297)) 298 (fun _ => none)) 279 34 (some 298)
abbrev HC_307 : am_Hp := (299, 11511, S_307, I_307, L_307, R_307)
def S_308 : Nat → Nat × Nat := fun i => bif Nat.beq i 300 then (100, 8) else (fun i => bif Nat.beq i 299 then (100, 82) else (S_307) i) i
def I_308 : Nat → Nat → Int32 := uR (uR (u2 (I_307) 279 51 (1)) 299 (fun _ => 0)) 300 (fun _ => 0)
def L_308 : Nat → Nat → Int64 := uR (uR (L_307) 299 (fun _ => 0)) 300 (fun _ => 0)
def R_308 : Nat → Nat → Option Nat := uR (u2 (uR (R_307) 299 (fun _ => none)) 279 59 (some 299)) 300 (fun _ => none)
abbrev HC_308 : am_Hp := (301, 11601, S_308, I_308, L_308, R_308)
def S_309 : Nat → Nat × Nat := fun i => bif Nat.beq i 302 then (100, 64) else (fun i => bif Nat.beq i 301 then (100, 8) else (S_308) i) i
def I_309 : Nat → Nat → Int32 := uR (uR (I_308) 301 (fun _ => 0)) 302 (fun _ => 0)
def L_309 : Nat → Nat → Int64 := uR (uR (L_308) 301 (fun _ => 0)) 302 (fun _ => 0)
def R_309 : Nat → Nat → Option Nat := uR (u2 (uR (u2 (R_308) 279 60 (some 300)) 301 (fun _ => none)) 279 63 (some 301)) 302 (fun _ => none)
abbrev HC_309 : am_Hp := (303, 11673, S_309, I_309, L_309, R_309)
def S_310 : Nat → Nat × Nat := fun i => bif Nat.beq i 304 then (103, 8) else (fun i => bif Nat.beq i 303 then (100, 3280) else (S_309) i) i
def I_310 : Nat → Nat → Int32 := uR (uR (I_309) 303 (fun _ => 0)) 304 (fun _ => 0)
def L_310 : Nat → Nat → Int64 := uR (uR (L_309) 303 (fun _ => 0)) 304 (fun _ => 0)
def R_310 : Nat → Nat → Option Nat := uR (u2 (uR (u2 (R_309) 279 64 (some 302)) 303 (fun _ => none)) 279 65 (some 303)) 304 (fun _ => none)
abbrev HC_310 : am_Hp := (305, 14961, S_310, I_310, L_310, R_310)
def S_311 : Nat → Nat × Nat := fun i => bif Nat.beq i 306 then (103, 256) else (fun i => bif Nat.beq i 305 then (103, 8) else (S_310) i) i
def I_311 : Nat → Nat → Int32 := uR (uR (I_310) 305 (fun _ => 0)) 306 (fun _ => 0)
def L_311 : Nat → Nat → Int64 := uR (uR (L_310) 305 (fun _ => 0)) 306 (fun _ => 0)
def R_311 : Nat → Nat → Option Nat := uR (u2 (uR (u2 (R_310) 279 68 (some 304)) 305 (fun _ => none)) 279 69 (some 305)) 306 (fun _ => none)
abbrev HC_311 : am_Hp := (307, 15225, S_311, I_311, L_311, R_311)
def S_312 : Nat → Nat × Nat := fun i => bif Nat.beq i 308 then (100, 8) else (fun i => bif Nat.beq i 307 then (103, 256) else (S_311) i) i
def I_312 : Nat → Nat → Int32 := uR (uR (I_311) 307 (fun _ => 0)) 308 (fun _ => 0)
def L_312 : Nat → Nat → Int64 := uR (uR (L_311) 307 (fun _ => 0)) 308 (fun _ => 0)
def R_312 : Nat → Nat → Option Nat := uR (u2 (uR (u2 (R_311) 279 70 (some 306)) 307 (fun _ => none)) 279 71 (some 307)) 308 (fun _ => none)
abbrev HC_312 : am_Hp := (309, 15489, S_312, I_312, L_312, R_312)
def S_313 : Nat → Nat × Nat := fun i => bif Nat.beq i 310 then (100, 8) else (fun i => bif Nat.beq i 309 then (100, 8) else (S_312) i) i
def I_313 : Nat → Nat → Int32 := uR (uR (I_312) 309 (fun _ => 0)) 310 (fun _ => 0)
def L_313 : Nat → Nat → Int64 := uR (uR (L_312) 309 (fun _ => 0)) 310 (fun _ => 0)
def R_313 : Nat → Nat → Option Nat := uR (u2 (uR (u2 (R_312) 279 72 (some 308)) 309 (fun _ => none)) 279 73 (some 309)) 310 (fun _ => none)
abbrev HC_313 : am_Hp := (311, 15505, S_313, I_313, L_313, R_313)
def S_314 : Nat → Nat × Nat := fun i => bif Nat.beq i 312 then (100, 30) else (fun i => bif Nat.beq i 311 then (103, 8) else (S_313) i) i
def I_314 : Nat → Nat → Int32 := uR (uR (I_313) 311 (fun _ => 0)) 312 (fun _ => 0)
def L_314 : Nat → Nat → Int64 := uR (uR (L_313) 311 (fun _ => 0)) 312 (fun _ => 0)
def R_314 : Nat → Nat → Option Nat := uR (u2 (uR (u2 (R_313) 279 74 (some 310)) 311 (fun _ => none)) 279 77 (some 311)) 312 (fun _ => none)
abbrev HC_314 : am_Hp := (313, 15543, S_314, I_314, L_314, R_314)
def S_315 : Nat → Nat × Nat := fun i => bif Nat.beq i 314 then (100, 30) else (fun i => bif Nat.beq i 313 then (100, 30) else (S_314) i) i
def I_315 : Nat → Nat → Int32 := uR (uR (I_314) 313 (fun _ => 0)) 314 (fun _ => 0)
def L_315 : Nat → Nat → Int64 := uR (uR (L_314) 313 (fun _ => 0)) 314 (fun _ => 0)
def R_315 : Nat → Nat → Option Nat := uR (u2 (uR (u2 (R_314) 279 78 (some 312)) 313 (fun _ => none)) 279 79 (some 313)) 314 (fun _ => none)
abbrev HC_315 : am_Hp := (315, 15603, S_315, I_315, L_315, R_315)
def S_316 : Nat → Nat × Nat := fun i => bif Nat.beq i 316 then (100, 30) else (fun i => bif Nat.beq i 315 then (100, 30) else (S_315) i) i
def I_316 : Nat → Nat → Int32 := uR (uR (I_315) 315 (fun _ => 0)) 316 (fun _ => 0)
def L_316 : Nat → Nat → Int64 := uR (uR (L_315) 315 (fun _ => 0)) 316 (fun _ => 0)
def R_316 : Nat → Nat → Option Nat := uR (u2 (uR (u2 (R_315) 279 80 (some 314)) 315 (fun _ => none)) 279 81 (some 315)) 316 (fun _ => none)
abbrev HC_316 : am_Hp := (317, 15663, S_316, I_316, L_316, R_316)
def S_317 : Nat → Nat × Nat := fun i => bif Nat.beq i 318 then (100, 30) else (fun i => bif Nat.beq i 317 then (100, 30) else (S_316) i) i
def I_317 : Nat → Nat → Int32 := uR (uR (I_316) 317 (fun _ => 0)) 318 (fun _ => 0)
def L_317 : Nat → Nat → Int64 := uR (uR (L_316) 317 (fun _ => 0)) 318 (fun _ => 0)
def R_317 : Nat → Nat → Option Nat := uR (u2 (uR (u2 (R_316) 279 82 (some 316)) 317 (fun _ => none)) 279 83 (some 317)) 318 (fun _ => none)
abbrev HC_317 : am_Hp := (319, 15723, S_317, I_317, L_317, R_317)
def S_318 : Nat → Nat × Nat := fun i => bif Nat.beq i 320 then (100, 28) else (fun i => bif Nat.beq i 319 then (100, 30) else (S_317) i) i
def I_318 : Nat → Nat → Int32 := uR (uR (I_317) 319 (fun _ => 0)) 320 (fun _ => 0)
def L_318 : Nat → Nat → Int64 := uR (uR (L_317) 319 (fun _ => 0)) 320 (fun _ => 0)
def R_318 : Nat → Nat → Option Nat := uR (u2 (uR (u2 (R_317) 279 84 (some 318)) 319 (fun _ => none)) 279 85 (some 319)) 320 (fun _ => none)
abbrev HC_318 : am_Hp := (321, 15781, S_318, I_318, L_318, R_318)
def S_319 : Nat → Nat × Nat := fun i => bif Nat.beq i 322 then (102, 3) else (fun i => bif Nat.beq i 321 then (100, 4) else (S_318) i) i
def I_319 : Nat → Nat → Int32 := uR (uR (I_318) 321 (fun _ => 0)) 322 (fun _ => 0)
def L_319 : Nat → Nat → Int64 := uR (uR (L_318) 321 (fun _ => 0)) 322 (fun _ => 0)
def R_319 : Nat → Nat → Option Nat := uR (u2 (uR (u2 (R_318) 279 88 (some 320)) 321 (fun _ => none)) 279 89 (some 321)) 322 (fun _ => none)
abbrev HC_319 : am_Hp := (323, 15788, S_319, I_319, L_319, R_319)
def S_320 : Nat → Nat × Nat := fun i => bif Nat.beq i 323 then (100, 246) else (S_319) i
def I_320 : Nat → Nat → Int32 := u2 (uR (I_319) 323 (fun _ => 0)) 299 16 (-1)
def L_320 : Nat → Nat → Int64 := uR (L_319) 323 (fun _ => 0)
def R_320 : Nat → Nat → Option Nat := u2 (uR (u2 (R_319) 279 90 (some 322)) 323 (fun _ => none)) 279 91 (some 323)
abbrev HC_320 : am_Hp := (324, 16034, S_320, I_320, L_320, R_320)
set_option maxRecDepth 100000 in
theorem q_64_1 {d : Nat} {Q : am_Q} (h : pW cd_162 (324, 16034) d Q 23 [some (.ref 279)] [(.ref 281), (.ref 279)] HC_298) : pW cd_162 (324, 16034) d Q 0 [some (.ref 279)] [] HC_297 := pW.run (am_in [23]) 13 (And.intro (show ¬ (1600 : Int32) < 0 by decide +kernel) (And.intro (show (1600 : Int32).toNatClampNeg ≤ 10000 by decide +kernel) (And.intro (by decide +kernel) (And.intro (by decide +kernel) (And.intro (show ¬ (16 : Int32) < 0 by decide +kernel) (And.intro (show (16 : Int32).toNatClampNeg ≤ 10000 by decide +kernel) (And.intro (by decide +kernel) (And.intro (by decide +kernel) h))))))))
set_option maxRecDepth 100000 in
theorem q_64_2 {d : Nat} {Q : am_Q} (h : pW cd_162 (324, 16034) d Q 41 [some (.ref 279)] [(.ref 283), (.ref 279)] HC_299) : pW cd_162 (324, 16034) d Q 23 [some (.ref 279)] [(.ref 281), (.ref 279)] HC_298 := pW.run (am_in [41]) 9 (And.intro (show ¬ (320 : Int32) < 0 by decide +kernel) (And.intro (show (320 : Int32).toNatClampNeg ≤ 10000 by decide +kernel) (And.intro (by decide +kernel) (And.intro (by decide +kernel) (And.intro (show ¬ (320 : Int32) < 0 by decide +kernel) (And.intro (show (320 : Int32).toNatClampNeg ≤ 10000 by decide +kernel) (And.intro (by decide +kernel) (And.intro (by decide +kernel) h))))))))
set_option maxRecDepth 100000 in
theorem q_64_3 {d : Nat} {Q : am_Q} (h : pW cd_162 (324, 16034) d Q 59 [some (.ref 279)] [(.ref 285), (.ref 279)] HC_300) : pW cd_162 (324, 16034) d Q 41 [some (.ref 279)] [(.ref 283), (.ref 279)] HC_299 := pW.run (am_in [59]) 9 (And.intro (show ¬ (320 : Int32) < 0 by decide +kernel) (And.intro (show (320 : Int32).toNatClampNeg ≤ 10000 by decide +kernel) (And.intro (by decide +kernel) (And.intro (by decide +kernel) (And.intro (show ¬ (320 : Int32) < 0 by decide +kernel) (And.intro (show (320 : Int32).toNatClampNeg ≤ 10000 by decide +kernel) (And.intro (by decide +kernel) (And.intro (by decide +kernel) h))))))))
set_option maxRecDepth 100000 in
theorem q_64_4 {d : Nat} {Q : am_Q} (h : pW cd_162 (324, 16034) d Q 76 [some (.ref 279)] [(.ref 287), (.ref 279)] HC_301) : pW cd_162 (324, 16034) d Q 59 [some (.ref 279)] [(.ref 285), (.ref 279)] HC_300 := pW.run (am_in [76]) 9 (And.intro (show ¬ (160 : Int32) < 0 by decide +kernel) (And.intro (show (160 : Int32).toNatClampNeg ≤ 10000 by decide +kernel) (And.intro (by decide +kernel) (And.intro (by decide +kernel) (And.intro (show ¬ (64 : Int32) < 0 by decide +kernel) (And.intro (show (64 : Int32).toNatClampNeg ≤ 10000 by decide +kernel) (And.intro (by decide +kernel) (And.intro (by decide +kernel) h))))))))
set_option maxRecDepth 100000 in
theorem q_64_5 {d : Nat} {Q : am_Q} (h : pW cd_162 (324, 16034) d Q 91 [some (.ref 279)] [(.ref 289), (.ref 279)] HC_302) : pW cd_162 (324, 16034) d Q 76 [some (.ref 279)] [(.ref 287), (.ref 279)] HC_301 := pW.run (am_in [91]) 9 (And.intro (show ¬ (5 : Int32) < 0 by decide +kernel) (And.intro (show (5 : Int32).toNatClampNeg ≤ 10000 by decide +kernel) (And.intro (by decide +kernel) (And.intro (by decide +kernel) (And.intro (show ¬ (8 : Int32) < 0 by decide +kernel) (And.intro (show (8 : Int32).toNatClampNeg ≤ 10000 by decide +kernel) (And.intro (by decide +kernel) (And.intro (by decide +kernel) h))))))))
set_option maxRecDepth 100000 in
theorem q_64_6 {d : Nat} {Q : am_Q} (h : pW cd_162 (324, 16034) d Q 107 [some (.ref 279)] [(.ref 291), (.ref 279)] HC_303) : pW cd_162 (324, 16034) d Q 91 [some (.ref 279)] [(.ref 289), (.ref 279)] HC_302 := pW.run (am_in [107]) 9 (And.intro (show ¬ (8 : Int32) < 0 by decide +kernel) (And.intro (show (8 : Int32).toNatClampNeg ≤ 10000 by decide +kernel) (And.intro (by decide +kernel) (And.intro (by decide +kernel) (And.intro (show ¬ (8 : Int32) < 0 by decide +kernel) (And.intro (show (8 : Int32).toNatClampNeg ≤ 10000 by decide +kernel) (And.intro (by decide +kernel) (And.intro (by decide +kernel) h))))))))
set_option maxRecDepth 100000 in
theorem q_64_7 {d : Nat} {Q : am_Q} (h : pW cd_162 (324, 16034) d Q 122 [some (.ref 279)] [(.ref 293), (.ref 279)] HC_304) : pW cd_162 (324, 16034) d Q 107 [some (.ref 279)] [(.ref 291), (.ref 279)] HC_303 := pW.run (am_in [122]) 9 (And.intro (show ¬ (4 : Int32) < 0 by decide +kernel) (And.intro (show (4 : Int32).toNatClampNeg ≤ 10000 by decide +kernel) (And.intro (by decide +kernel) (And.intro (by decide +kernel) (And.intro (show ¬ (16 : Int32) < 0 by decide +kernel) (And.intro (show (16 : Int32).toNatClampNeg ≤ 10000 by decide +kernel) (And.intro (by decide +kernel) (And.intro (by decide +kernel) h))))))))
set_option maxRecDepth 100000 in
theorem q_64_8 {d : Nat} {Q : am_Q} (h : pW cd_162 (324, 16034) d Q 138 [some (.ref 279)] [(.ref 295), (.ref 279)] HC_305) : pW cd_162 (324, 16034) d Q 122 [some (.ref 279)] [(.ref 293), (.ref 279)] HC_304 := pW.run (am_in [138]) 9 (And.intro (show ¬ (8 : Int32) < 0 by decide +kernel) (And.intro (show (8 : Int32).toNatClampNeg ≤ 10000 by decide +kernel) (And.intro (by decide +kernel) (And.intro (by decide +kernel) (And.intro (show ¬ (8 : Int32) < 0 by decide +kernel) (And.intro (show (8 : Int32).toNatClampNeg ≤ 10000 by decide +kernel) (And.intro (by decide +kernel) (And.intro (by decide +kernel) h))))))))
set_option maxRecDepth 100000 in
theorem q_64_9 {d : Nat} {Q : am_Q} (h : pW cd_162 (324, 16034) d Q 153 [some (.ref 279)] [(.ref 297), (.ref 279)] HC_306) : pW cd_162 (324, 16034) d Q 138 [some (.ref 279)] [(.ref 295), (.ref 279)] HC_305 := pW.run (am_in [153]) 9 (And.intro (show ¬ (8 : Int32) < 0 by decide +kernel) (And.intro (show (8 : Int32).toNatClampNeg ≤ 10000 by decide +kernel) (And.intro (by decide +kernel) (And.intro (by decide +kernel) (And.intro (show ¬ (4 : Int32) < 0 by decide +kernel) (And.intro (show (4 : Int32).toNatClampNeg ≤ 10000 by decide +kernel) (And.intro (by decide +kernel) (And.intro (by decide +kernel) h))))))))
set_option maxRecDepth 100000 in
theorem q_64_10 {d : Nat} {Q : am_Q} (h : pW cd_162 (324, 16034) d Q 170 [some (.ref 279)] [] HC_307) : pW cd_162 (324, 16034) d Q 153 [some (.ref 279)] [(.ref 297), (.ref 279)] HC_306 := pW.run (am_in [170]) 9 (And.intro (show ¬ (16 : Int32) < 0 by decide +kernel) (And.intro (show (16 : Int32).toNatClampNeg ≤ 10000 by decide +kernel) (And.intro (by decide +kernel) (And.intro (by decide +kernel) h))))
set_option maxRecDepth 100000 in
theorem q_64_11 {d : Nat} {Q : am_Q} (h : pW cd_162 (324, 16034) d Q 188 [some (.ref 279)] [(.ref 300), (.ref 279)] HC_308) : pW cd_162 (324, 16034) d Q 170 [some (.ref 279)] [] HC_307 := pW.run (am_in [188]) 11 (And.intro (show ¬ (82 : Int32) < 0 by decide +kernel) (And.intro (show (82 : Int32).toNatClampNeg ≤ 10000 by decide +kernel) (And.intro (by decide +kernel) (And.intro (by decide +kernel) (And.intro (show ¬ (8 : Int32) < 0 by decide +kernel) (And.intro (show (8 : Int32).toNatClampNeg ≤ 10000 by decide +kernel) (And.intro (by decide +kernel) (And.intro (by decide +kernel) h))))))))
set_option maxRecDepth 100000 in
theorem q_64_12 {d : Nat} {Q : am_Q} (h : pW cd_162 (324, 16034) d Q 204 [some (.ref 279)] [(.ref 302), (.ref 279)] HC_309) : pW cd_162 (324, 16034) d Q 188 [some (.ref 279)] [(.ref 300), (.ref 279)] HC_308 := pW.run (am_in [204]) 9 (And.intro (show ¬ (8 : Int32) < 0 by decide +kernel) (And.intro (show (8 : Int32).toNatClampNeg ≤ 10000 by decide +kernel) (And.intro (by decide +kernel) (And.intro (by decide +kernel) (And.intro (show ¬ (64 : Int32) < 0 by decide +kernel) (And.intro (show (64 : Int32).toNatClampNeg ≤ 10000 by decide +kernel) (And.intro (by decide +kernel) (And.intro (by decide +kernel) h))))))))
set_option maxRecDepth 100000 in
theorem q_64_13 {d : Nat} {Q : am_Q} (h : pW cd_162 (324, 16034) d Q 221 [some (.ref 279)] [(.ref 304), (.ref 279)] HC_310) : pW cd_162 (324, 16034) d Q 204 [some (.ref 279)] [(.ref 302), (.ref 279)] HC_309 := pW.run (am_in [221]) 9 (And.intro (show ¬ (3280 : Int32) < 0 by decide +kernel) (And.intro (show (3280 : Int32).toNatClampNeg ≤ 10000 by decide +kernel) (And.intro (by decide +kernel) (And.intro (by decide +kernel) (And.intro (show ¬ (8 : Int32) < 0 by decide +kernel) (And.intro (show (8 : Int32).toNatClampNeg ≤ 10000 by decide +kernel) (And.intro (by decide +kernel) (And.intro (by decide +kernel) h))))))))
set_option maxRecDepth 100000 in
theorem q_64_14 {d : Nat} {Q : am_Q} (h : pW cd_162 (324, 16034) d Q 238 [some (.ref 279)] [(.ref 306), (.ref 279)] HC_311) : pW cd_162 (324, 16034) d Q 221 [some (.ref 279)] [(.ref 304), (.ref 279)] HC_310 := pW.run (am_in [238]) 9 (And.intro (show ¬ (8 : Int32) < 0 by decide +kernel) (And.intro (show (8 : Int32).toNatClampNeg ≤ 10000 by decide +kernel) (And.intro (by decide +kernel) (And.intro (by decide +kernel) (And.intro (show ¬ (256 : Int32) < 0 by decide +kernel) (And.intro (show (256 : Int32).toNatClampNeg ≤ 10000 by decide +kernel) (And.intro (by decide +kernel) (And.intro (by decide +kernel) h))))))))
set_option maxRecDepth 100000 in
theorem q_64_15 {d : Nat} {Q : am_Q} (h : pW cd_162 (324, 16034) d Q 255 [some (.ref 279)] [(.ref 308), (.ref 279)] HC_312) : pW cd_162 (324, 16034) d Q 238 [some (.ref 279)] [(.ref 306), (.ref 279)] HC_311 := pW.run (am_in [255]) 9 (And.intro (show ¬ (256 : Int32) < 0 by decide +kernel) (And.intro (show (256 : Int32).toNatClampNeg ≤ 10000 by decide +kernel) (And.intro (by decide +kernel) (And.intro (by decide +kernel) (And.intro (show ¬ (8 : Int32) < 0 by decide +kernel) (And.intro (show (8 : Int32).toNatClampNeg ≤ 10000 by decide +kernel) (And.intro (by decide +kernel) (And.intro (by decide +kernel) h))))))))
set_option maxRecDepth 100000 in
theorem q_64_16 {d : Nat} {Q : am_Q} (h : pW cd_162 (324, 16034) d Q 271 [some (.ref 279)] [(.ref 310), (.ref 279)] HC_313) : pW cd_162 (324, 16034) d Q 255 [some (.ref 279)] [(.ref 308), (.ref 279)] HC_312 := pW.run (am_in [271]) 9 (And.intro (show ¬ (8 : Int32) < 0 by decide +kernel) (And.intro (show (8 : Int32).toNatClampNeg ≤ 10000 by decide +kernel) (And.intro (by decide +kernel) (And.intro (by decide +kernel) (And.intro (show ¬ (8 : Int32) < 0 by decide +kernel) (And.intro (show (8 : Int32).toNatClampNeg ≤ 10000 by decide +kernel) (And.intro (by decide +kernel) (And.intro (by decide +kernel) h))))))))
set_option maxRecDepth 100000 in
theorem q_64_17 {d : Nat} {Q : am_Q} (h : pW cd_162 (324, 16034) d Q 287 [some (.ref 279)] [(.ref 312), (.ref 279)] HC_314) : pW cd_162 (324, 16034) d Q 271 [some (.ref 279)] [(.ref 310), (.ref 279)] HC_313 := pW.run (am_in [287]) 9 (And.intro (show ¬ (8 : Int32) < 0 by decide +kernel) (And.intro (show (8 : Int32).toNatClampNeg ≤ 10000 by decide +kernel) (And.intro (by decide +kernel) (And.intro (by decide +kernel) (And.intro (show ¬ (30 : Int32) < 0 by decide +kernel) (And.intro (show (30 : Int32).toNatClampNeg ≤ 10000 by decide +kernel) (And.intro (by decide +kernel) (And.intro (by decide +kernel) h))))))))
set_option maxRecDepth 100000 in
theorem q_64_18 {d : Nat} {Q : am_Q} (h : pW cd_162 (324, 16034) d Q 303 [some (.ref 279)] [(.ref 314), (.ref 279)] HC_315) : pW cd_162 (324, 16034) d Q 287 [some (.ref 279)] [(.ref 312), (.ref 279)] HC_314 := pW.run (am_in [303]) 9 (And.intro (show ¬ (30 : Int32) < 0 by decide +kernel) (And.intro (show (30 : Int32).toNatClampNeg ≤ 10000 by decide +kernel) (And.intro (by decide +kernel) (And.intro (by decide +kernel) (And.intro (show ¬ (30 : Int32) < 0 by decide +kernel) (And.intro (show (30 : Int32).toNatClampNeg ≤ 10000 by decide +kernel) (And.intro (by decide +kernel) (And.intro (by decide +kernel) h))))))))
set_option maxRecDepth 100000 in
theorem q_64_19 {d : Nat} {Q : am_Q} (h : pW cd_162 (324, 16034) d Q 319 [some (.ref 279)] [(.ref 316), (.ref 279)] HC_316) : pW cd_162 (324, 16034) d Q 303 [some (.ref 279)] [(.ref 314), (.ref 279)] HC_315 := pW.run (am_in [319]) 9 (And.intro (show ¬ (30 : Int32) < 0 by decide +kernel) (And.intro (show (30 : Int32).toNatClampNeg ≤ 10000 by decide +kernel) (And.intro (by decide +kernel) (And.intro (by decide +kernel) (And.intro (show ¬ (30 : Int32) < 0 by decide +kernel) (And.intro (show (30 : Int32).toNatClampNeg ≤ 10000 by decide +kernel) (And.intro (by decide +kernel) (And.intro (by decide +kernel) h))))))))
set_option maxRecDepth 100000 in
theorem q_64_20 {d : Nat} {Q : am_Q} (h : pW cd_162 (324, 16034) d Q 335 [some (.ref 279)] [(.ref 318), (.ref 279)] HC_317) : pW cd_162 (324, 16034) d Q 319 [some (.ref 279)] [(.ref 316), (.ref 279)] HC_316 := pW.run (am_in [335]) 9 (And.intro (show ¬ (30 : Int32) < 0 by decide +kernel) (And.intro (show (30 : Int32).toNatClampNeg ≤ 10000 by decide +kernel) (And.intro (by decide +kernel) (And.intro (by decide +kernel) (And.intro (show ¬ (30 : Int32) < 0 by decide +kernel) (And.intro (show (30 : Int32).toNatClampNeg ≤ 10000 by decide +kernel) (And.intro (by decide +kernel) (And.intro (by decide +kernel) h))))))))
set_option maxRecDepth 100000 in
theorem q_64_21 {d : Nat} {Q : am_Q} (h : pW cd_162 (324, 16034) d Q 351 [some (.ref 279)] [(.ref 320), (.ref 279)] HC_318) : pW cd_162 (324, 16034) d Q 335 [some (.ref 279)] [(.ref 318), (.ref 279)] HC_317 := pW.run (am_in [351]) 9 (And.intro (show ¬ (30 : Int32) < 0 by decide +kernel) (And.intro (show (30 : Int32).toNatClampNeg ≤ 10000 by decide +kernel) (And.intro (by decide +kernel) (And.intro (by decide +kernel) (And.intro (show ¬ (28 : Int32) < 0 by decide +kernel) (And.intro (show (28 : Int32).toNatClampNeg ≤ 10000 by decide +kernel) (And.intro (by decide +kernel) (And.intro (by decide +kernel) h))))))))
set_option maxRecDepth 100000 in
theorem q_64_22 {d : Nat} {Q : am_Q} (h : pW cd_162 (324, 16034) d Q 365 [some (.ref 279)] [(.ref 322), (.ref 279)] HC_319) : pW cd_162 (324, 16034) d Q 351 [some (.ref 279)] [(.ref 320), (.ref 279)] HC_318 := pW.run (am_in [365]) 9 (And.intro (show ¬ (4 : Int32) < 0 by decide +kernel) (And.intro (show (4 : Int32).toNatClampNeg ≤ 10000 by decide +kernel) (And.intro (by decide +kernel) (And.intro (by decide +kernel) (And.intro (show ¬ (3 : Int32) < 0 by decide +kernel) (And.intro (show (3 : Int32).toNatClampNeg ≤ 10000 by decide +kernel) (And.intro (by decide +kernel) (And.intro (by decide +kernel) h))))))))
set_option maxRecDepth 100000 in
theorem q_64_23 {d : Nat} {Q : am_Q} (h : pW cd_162 (324, 16034) d Q 385 [some (.ref 279)] [] HC_320) : pW cd_162 (324, 16034) d Q 365 [some (.ref 279)] [(.ref 322), (.ref 279)] HC_319 := pW.run (am_in [385]) 11 (And.intro (show ¬ (246 : Int32) < 0 by decide +kernel) (And.intro (show (246 : Int32).toNatClampNeg ≤ 10000 by decide +kernel) (And.intro (by decide +kernel) (And.intro (by decide +kernel) (And.intro (show vp_in 16 82 from vin_l (by decide +kernel)) h)))))
set_option maxRecDepth 100000 in
theorem q_64_24 {d : Nat} {Q : am_Q} (w : Q none HC_320) : pW cd_162 (324, 16034) d Q 385 [some (.ref 279)] [] HC_320 := pW.run (am_in []) 2 ⟨rfl, rfl, w⟩
set_option maxRecDepth 100000 in
theorem ct_64 {d : Nat} {Q : am_Q} (w : Q none HC_320) : am_Spec PR (d + 1) 162 (324, 16034) [(.ref 279)] HC_297 Q := pS.of rfl (q_64_1 (q_64_2 (q_64_3 (q_64_4 (q_64_5 (q_64_6 (q_64_7 (q_64_8 (q_64_9 (q_64_10 (q_64_11 (q_64_12 (q_64_13 (q_64_14 (q_64_15 (q_64_16 (q_64_17 (q_64_18 (q_64_19 (q_64_20 (q_64_21 (q_64_22 (q_64_23 (q_64_24 w))))))))))))))))))))))))
