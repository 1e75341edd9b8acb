/-! ===== blocks of methods, by program ===== -/
section BLK
variable {d : Nat} {Q : am_Q} {hi : Nat → Nat → Int32} {hl : Nat → Nat → Int64} {sw : Bool} {kp : Nat → Nat}
-- 219: DogDecreesModel.place(II)I
set_option maxRecDepth 100000 in
theorem k_219_0 {x1 : Int32} {x2 : Int32}
    (h1 : (g_208 hi x1) = 0 → Q (some (.int (-1))) (mkH hi hl sw kp))
    (h2 : ¬ ((g_208 hi x1) = 0) → cS (d + 2) 211 [(.ref 279)] (mkH hi hl sw kp) (am_ret (cW cd_219 (d + 2) Q) 14 [some (.ref 279), some (.int x1), some (.int x2)] []))
    : cW cd_219 (d + 2) Q 0 [some (.ref 279), some (.int x1), some (.int x2)] [] (mkH hi hl sw kp) :=
  cW.run (am_in [14, 97]) 6 (cC.of (s_208 (And.intro (fun c1 => (cQ.of (h1 c1))) (fun c2 => (cC.of (h2 c2))))))
theorem e_219 {x1 : Int32} {x2 : Int32}
    (h1 : (g_208 hi x1) = 0 → Q (some (.int (-1))) (mkH hi hl sw kp))
    (h2 : ¬ ((g_208 hi x1) = 0) → cS (d + 2) 211 [(.ref 279)] (mkH hi hl sw kp) (am_ret (cW cd_219 (d + 2) Q) 14 [some (.ref 279), some (.int x1), some (.int x2)] []))
    : cS ((d + 2) + 1) 219 [(.ref 279), (.int x1), (.int x2)] (mkH hi hl sw kp) Q := cS.of rfl (k_219_0 h1 h2)
set_option maxRecDepth 100000 in
theorem k_219_14 {x1 : Int32} {x2 : Int32}
    (h1 : x2 = 0 → vp_in x1 8)
    (h2 : x2 = 0 → Q (some (.int (hi 294 x1.toNatClampNeg))) (mkH hi hl sw kp))
    (h3 : ¬ x2 = 0 → x2 = 1 → vp_in x1 8)
    (h4 : ¬ x2 = 0 → x2 = 1 → Q (some (.int (hi 300 x1.toNatClampNeg))) (mkH hi hl sw kp))
    (h5 : ¬ x2 = 0 → ¬ x2 = 1 → x2 = 2 → vp_in x1 8)
    (h6 : ¬ x2 = 0 → ¬ x2 = 1 → x2 = 2 → Q (some (.int (hi 295 x1.toNatClampNeg))) (mkH hi hl sw kp))
    (h7 : ¬ x2 = 0 → ¬ x2 = 1 → ¬ x2 = 2 → x2 = 3 → vp_in x1 8)
    (h8 : ¬ x2 = 0 → ¬ x2 = 1 → ¬ x2 = 2 → x2 = 3 → Q (some (.int (hi 296 x1.toNatClampNeg))) (mkH hi hl sw kp))
    (h9 : ¬ x2 = 0 → ¬ x2 = 1 → ¬ x2 = 2 → ¬ x2 = 3 → x2 = 4 → (hi 299 16) = x1 → cS (d + 2) 213 [(.ref 279), (.int x1), (.int (1))] (mkH hi hl sw kp) (am_ret (cW cd_219 (d + 2) Q) 97 [some (.ref 279), some (.int x1), some (.int x2)] []))
    (h10 : ¬ x2 = 0 → ¬ x2 = 1 → ¬ x2 = 2 → ¬ x2 = 3 → x2 = 4 → ¬ ((hi 299 16) = x1) → cS (d + 2) 213 [(.ref 279), (.int x1), (.int (0))] (mkH hi hl sw kp) (am_ret (cW cd_219 (d + 2) Q) 97 [some (.ref 279), some (.int x1), some (.int x2)] []))
    (h11 : ¬ x2 = 0 → ¬ x2 = 1 → ¬ x2 = 2 → ¬ x2 = 3 → ¬ x2 = 4 → Q (some (.int (-1))) (mkH hi hl sw kp))
    : cW cd_219 (d + 2) Q 14 [some (.ref 279), some (.int x1), some (.int x2)] [] (mkH hi hl sw kp) :=
  cW.run (am_in [14, 97]) 13 (And.intro (fun c1 => (And.intro (h1 c1) (cQ.of (h2 c1)))) (fun c2 => (And.intro (fun c3 => (And.intro (h3 c2 c3) (cQ.of (h4 c2 c3)))) (fun c4 => (And.intro (fun c5 => (And.intro (h5 c2 c4 c5) (cQ.of (h6 c2 c4 c5)))) (fun c6 => (And.intro (fun c7 => (And.intro (h7 c2 c4 c6 c7) (cQ.of (h8 c2 c4 c6 c7)))) (fun c8 => (And.intro (fun c9 => (And.intro (show vp_in 16 82 from vin_l (by decide +kernel)) (And.intro (fun c10 => (cC.of (h9 c2 c4 c6 c8 c9 c10))) (fun c11 => (cC.of (h10 c2 c4 c6 c8 c9 c11)))))) (fun c12 => (cQ.of (h11 c2 c4 c6 c8 c12))))))))))))
set_option maxRecDepth 100000 in
theorem k_219_97 {x1 : Int32} {x2 : Int32} {s0 : Int32}
    (h1 : Q (some (.int s0)) (mkH hi hl sw kp))
    : cW cd_219 (d + 2) Q 97 [some (.ref 279), some (.int x1), some (.int x2)] [(.int s0)] (mkH hi hl sw kp) :=
  cW.run (am_in [14, 97]) 1 (cQ.of (h1))
-- 16: DogDecrees$Laying.prepare(III)V
set_option maxRecDepth 100000 in
theorem k_16_0 {x1 : Int32} {x2 : Int32} {x3 : Int32}
    (h1 : cS (d + 2) 38 [(.ref 256)] (mkH (u2 (u2 hi 264 7 x2) 264 8 (if ((hi 19 4) - (g_117 (u2 hi 264 7 x2) (hi 28 1))) < x2 then ((hi 19 4) - (g_117 (u2 hi 264 7 x2) (hi 28 1))) else x2)) hl sw kp) (am_ret (cW cd_16 (d + 2) Q) 42 [some (.ref 264), some (.int x1), some (.int x2), some (.int x3)] []))
    : cW cd_16 (d + 2) Q 0 [some (.ref 264), some (.int x1), some (.int x2), some (.int x3)] [] (mkH hi hl sw kp) :=
  cW.run (am_in [42, 51, 70, 78]) 20 (cC.of (s_117 (cC.of (h1))))
theorem e_16 {x1 : Int32} {x2 : Int32} {x3 : Int32}
    (h1 : cS (d + 2) 38 [(.ref 256)] (mkH (u2 (u2 hi 264 7 x2) 264 8 (if ((hi 19 4) - (g_117 (u2 hi 264 7 x2) (hi 28 1))) < x2 then ((hi 19 4) - (g_117 (u2 hi 264 7 x2) (hi 28 1))) else x2)) hl sw kp) (am_ret (cW cd_16 (d + 2) Q) 42 [some (.ref 264), some (.int x1), some (.int x2), some (.int x3)] []))
    : cS ((d + 2) + 1) 16 [(.ref 264), (.int x1), (.int x2), (.int x3)] (mkH hi hl sw kp) Q := cS.of rfl (k_16_0 h1)
set_option maxRecDepth 100000 in
theorem k_16_42 {x1 : Int32} {x2 : Int32} {x3 : Int32}
    (h1 : cS (d + 2) 39 [(.ref 256), (.int x2), (.int x3)] (mkH hi hl sw kp) (am_ret (cW cd_16 (d + 2) Q) 51 [some (.ref 264), some (.int x1), some (.int x2), some (.int x3)] []))
    : cW cd_16 (d + 2) Q 42 [some (.ref 264), some (.int x1), some (.int x2), some (.int x3)] [] (mkH hi hl sw kp) :=
  cW.run (am_in [42, 51, 70, 78]) 5 (cC.of (h1))
set_option maxRecDepth 100000 in
theorem k_16_51 {x1 : Int32} {x2 : Int32} {x3 : Int32}
    (h1 : cS (d + 2) 40 [(.ref 256), (.int (g_84 hi)), (.int (hi 264 8)), (.int x2)] (mkH hi hl sw kp) (am_ret (cW cd_16 (d + 2) Q) 70 [some (.ref 264), some (.int x1), some (.int x2), some (.int x3)] []))
    : cW cd_16 (d + 2) Q 51 [some (.ref 264), some (.int x1), some (.int x2), some (.int x3)] [] (mkH hi hl sw kp) :=
  cW.run (am_in [42, 51, 70, 78]) 9 (cC.of (s_84 (cC.of (h1))))
set_option maxRecDepth 100000 in
theorem k_16_70 {x1 : Int32} {x2 : Int32} {x3 : Int32}
    (h1 : cS (d + 2) 50 [(.ref 256), (.int x1)] (mkH hi hl sw kp) (am_ret (cW cd_16 (d + 2) Q) 78 [some (.ref 264), some (.int x1), some (.int x2), some (.int x3)] []))
    : cW cd_16 (d + 2) Q 70 [some (.ref 264), some (.int x1), some (.int x2), some (.int x3)] [] (mkH hi hl sw kp) :=
  cW.run (am_in [42, 51, 70, 78]) 4 (cC.of (h1))
set_option maxRecDepth 100000 in
theorem k_16_78 {x1 : Int32} {x2 : Int32} {x3 : Int32}
    (h1 : Q none (mkH hi hl sw kp))
    : cW cd_16 (d + 2) Q 78 [some (.ref 264), some (.int x1), some (.int x2), some (.int x3)] [] (mkH hi hl sw kp) :=
  cW.run (am_in [42, 51, 70, 78]) 1 (cQ.of (h1))
-- 19: DogDecrees$Laying.layFrom(II)V
set_option maxRecDepth 100000 in
theorem k_19_0 {x1 : Int32} {x2 : Int32}
    (h1 : (hi 19 1) ≤ x1 → x2 = 0 → cS d 20 [(.ref 264)] (mkH hi hl sw kp) (am_ret (cW cd_19 d Q) 25 [some (.ref 264), some (.int x1), some (.int x2), none, none] []))
    (h2 : (hi 19 1) ≤ x1 → ¬ (x2 = 0) → cW cd_19 d Q 25 [some (.ref 264), some (.int x1), some (.int x2), none, none] [] (mkH hi hl sw kp))
    (h3 : ¬ ((hi 19 1) ≤ x1) → x1 < (8) → vp_in x1 8)
    (h4 : ¬ ((hi 19 1) ≤ x1) → x1 < (8) → cW cd_19 d Q 46 [some (.ref 264), some (.int x1), some (.int x2), some (.int (if ((9) - (hi 29 x1.toNatClampNeg)) < x2 then ((9) - (hi 29 x1.toNatClampNeg)) else x2)), some (.int (if ((9) - (hi 29 x1.toNatClampNeg)) < x2 then ((9) - (hi 29 x1.toNatClampNeg)) else x2))] [] (mkH hi hl sw kp))
    (h5 : ¬ ((hi 19 1) ≤ x1) → ¬ (x1 < (8)) → x2 = 0 → cS d 20 [(.ref 264)] (mkH hi hl sw kp) (am_ret (cW cd_19 d Q) 25 [some (.ref 264), some (.int x1), some (.int x2), none, none] []))
    (h6 : ¬ ((hi 19 1) ≤ x1) → ¬ (x1 < (8)) → ¬ (x2 = 0) → cW cd_19 d Q 25 [some (.ref 264), some (.int x1), some (.int x2), none, none] [] (mkH hi hl sw kp))
    : cW cd_19 d Q 0 [some (.ref 264), some (.int x1), some (.int x2), none, none] [] (mkH hi hl sw kp) :=
  cW.run (am_in [25, 46, 73]) 20 (And.intro (fun c1 => (And.intro (fun c2 => (cC.of (h1 c1 c2))) (fun c3 => (h2 c1 c3)))) (fun c4 => (And.intro (fun c5 => (And.intro (h3 c4 c5) (And.intro (Nat.le_of_ble_eq_true rfl) (And.intro (Nat.le_of_ble_eq_true rfl) (h4 c4 c5))))) (fun c6 => (And.intro (fun c7 => (cC.of (h5 c4 c6 c7))) (fun c8 => (h6 c4 c6 c8)))))))
theorem e_19 {x1 : Int32} {x2 : Int32}
    (h1 : (hi 19 1) ≤ x1 → x2 = 0 → cS d 20 [(.ref 264)] (mkH hi hl sw kp) (am_ret (cW cd_19 d Q) 25 [some (.ref 264), some (.int x1), some (.int x2), none, none] []))
    (h2 : (hi 19 1) ≤ x1 → ¬ (x2 = 0) → cW cd_19 d Q 25 [some (.ref 264), some (.int x1), some (.int x2), none, none] [] (mkH hi hl sw kp))
    (h3 : ¬ ((hi 19 1) ≤ x1) → x1 < (8) → vp_in x1 8)
    (h4 : ¬ ((hi 19 1) ≤ x1) → x1 < (8) → cW cd_19 d Q 46 [some (.ref 264), some (.int x1), some (.int x2), some (.int (if ((9) - (hi 29 x1.toNatClampNeg)) < x2 then ((9) - (hi 29 x1.toNatClampNeg)) else x2)), some (.int (if ((9) - (hi 29 x1.toNatClampNeg)) < x2 then ((9) - (hi 29 x1.toNatClampNeg)) else x2))] [] (mkH hi hl sw kp))
    (h5 : ¬ ((hi 19 1) ≤ x1) → ¬ (x1 < (8)) → x2 = 0 → cS d 20 [(.ref 264)] (mkH hi hl sw kp) (am_ret (cW cd_19 d Q) 25 [some (.ref 264), some (.int x1), some (.int x2), none, none] []))
    (h6 : ¬ ((hi 19 1) ≤ x1) → ¬ (x1 < (8)) → ¬ (x2 = 0) → cW cd_19 d Q 25 [some (.ref 264), some (.int x1), some (.int x2), none, none] [] (mkH hi hl sw kp))
    : cS (d + 1) 19 [(.ref 264), (.int x1), (.int x2)] (mkH hi hl sw kp) Q := cS.of rfl (k_19_0 h1 h2 h3 h4 h5 h6)
set_option maxRecDepth 100000 in
theorem k_19_25 {x1 : Int32} {x2 : Int32}
    (h1 : Q none (mkH hi hl sw kp))
    : cW cd_19 d Q 25 [some (.ref 264), some (.int x1), some (.int x2), none, none] [] (mkH hi hl sw kp) :=
  cW.run (am_in [25, 46, 73]) 1 (cQ.of (h1))
set_option maxRecDepth 100000 in
theorem k_19_46 {x1 : Int32} {x2 : Int32} {x3 : Int32} {x4 : Int32}
    (h1 : x4 < 0 → Q none (mkH hi hl sw kp))
    (h2 : ¬ (x4 < 0) → vp_in x1 8)
    (h3 : ¬ (x4 < 0) → cS d 19 [(.ref 264), (.int (x1 + (1))), (.int (x2 - x4))] (mkH (u2 hi 257 x1.toNatClampNeg x4) hl sw kp) (am_ret (cW cd_19 d Q) 73 [some (.ref 264), some (.int x1), some (.int x2), some (.int x3), some (.int x4)] []))
    : cW cd_19 d Q 46 [some (.ref 264), some (.int x1), some (.int x2), some (.int x3), some (.int x4)] [] (mkH hi hl sw kp) :=
  cW.run (am_in [25, 46, 73]) 16 (And.intro (fun c1 => (cQ.of (h1 c1))) (fun c2 => (And.intro (h2 c2) (cC.of (h3 c2)))))
set_option maxRecDepth 100000 in
theorem k_19_73 {x1 : Int32} {x2 : Int32} {x3 : Int32} {x4 : Int32}
    (h1 : cW cd_19 d Q 46 [some (.ref 264), some (.int x1), some (.int x2), some (.int x3), some (.int (x4 + (-1)))] [] (mkH hi hl sw kp))
    : cW cd_19 d Q 73 [some (.ref 264), some (.int x1), some (.int x2), some (.int x3), some (.int x4)] [] (mkH hi hl sw kp) :=
  cW.run (am_in [25, 46, 73]) 2 (And.intro (Nat.le_of_ble_eq_true rfl) (h1))
-- 21: DogDecrees$Laying.takeTurns()V
set_option maxRecDepth 100000 in
theorem k_21_0
    (h1 : cW cd_21 d Q 19 [some (.ref 264), some (.int (0))] [] (mkH (u2 (u2 hi 264 5 (-1)) 264 6 (-1)) (u2 hl 264 4 (-1)) sw kp))
    : cW cd_21 d Q 0 [some (.ref 264), none] [] (mkH hi hl sw kp) :=
  cW.run (am_in [19, 35]) 11 (And.intro (Nat.le_of_ble_eq_true rfl) (h1))
theorem e_21
    (h1 : cW cd_21 d Q 19 [some (.ref 264), some (.int (0))] [] (mkH (u2 (u2 hi 264 5 (-1)) 264 6 (-1)) (u2 hl 264 4 (-1)) sw kp))
    : cS (d + 1) 21 [(.ref 264)] (mkH hi hl sw kp) Q := cS.of rfl (k_21_0 h1)
set_option maxRecDepth 100000 in
theorem k_21_19 {x1 : Int32}
    (h1 : (hi 19 1) ≤ x1 → Q none (mkH hi hl sw kp))
    (h2 : ¬ ((hi 19 1) ≤ x1) → cS d 22 [(.ref 264), (.int x1)] (mkH hi hl sw kp) (am_ret (cW cd_21 d Q) 35 [some (.ref 264), some (.int x1)] []))
    : cW cd_21 d Q 19 [some (.ref 264), some (.int x1)] [] (mkH hi hl sw kp) :=
  cW.run (am_in [19, 35]) 8 (And.intro (fun c1 => (cQ.of (h1 c1))) (fun c2 => (cC.of (h2 c2))))
set_option maxRecDepth 100000 in
theorem k_21_35 {x1 : Int32}
    (h1 : cW cd_21 d Q 19 [some (.ref 264), some (.int (x1 + (1)))] [] (mkH hi hl sw kp))
    : cW cd_21 d Q 35 [some (.ref 264), some (.int x1)] [] (mkH hi hl sw kp) :=
  cW.run (am_in [19, 35]) 2 (And.intro (Nat.le_of_ble_eq_true rfl) (h1))
-- 37: DogDecrees$Odds.look(II)V
set_option maxRecDepth 100000 in
theorem k_37_0 {x1 : Int32} {x2 : Int32}
    (h1 : cS d 38 [(.ref 256)] (mkH hi hl sw kp) (am_ret (cW cd_37 d Q) 4 [some (.ref 256), some (.int x1), some (.int x2)] []))
    : cW cd_37 d Q 0 [some (.ref 256), some (.int x1), some (.int x2)] [] (mkH hi hl sw kp) :=
  cW.run (am_in [4, 10, 17]) 2 (cC.of (h1))
theorem e_37 {x1 : Int32} {x2 : Int32}
    (h1 : cS d 38 [(.ref 256)] (mkH hi hl sw kp) (am_ret (cW cd_37 d Q) 4 [some (.ref 256), some (.int x1), some (.int x2)] []))
    : cS (d + 1) 37 [(.ref 256), (.int x1), (.int x2)] (mkH hi hl sw kp) Q := cS.of rfl (k_37_0 h1)
set_option maxRecDepth 100000 in
theorem k_37_4 {x1 : Int32} {x2 : Int32}
    (h1 : cS d 39 [(.ref 256), (.int x2), (.int (0))] (mkH hi hl sw kp) (am_ret (cW cd_37 d Q) 10 [some (.ref 256), some (.int x1), some (.int x2)] []))
    : cW cd_37 d Q 4 [some (.ref 256), some (.int x1), some (.int x2)] [] (mkH hi hl sw kp) :=
  cW.run (am_in [4, 10, 17]) 4 (cC.of (h1))
set_option maxRecDepth 100000 in
theorem k_37_10 {x1 : Int32} {x2 : Int32}
    (h1 : cS d 40 [(.ref 256), (.int x1), (.int (0)), (.int x2)] (mkH hi hl sw kp) (am_ret (cW cd_37 d Q) 17 [some (.ref 256), some (.int x1), some (.int x2)] []))
    : cW cd_37 d Q 10 [some (.ref 256), some (.int x1), some (.int x2)] [] (mkH hi hl sw kp) :=
  cW.run (am_in [4, 10, 17]) 5 (cC.of (h1))
set_option maxRecDepth 100000 in
theorem k_37_17 {x1 : Int32} {x2 : Int32}
    (h1 : Q none (mkH hi hl sw kp))
    : cW cd_37 d Q 17 [some (.ref 256), some (.int x1), some (.int x2)] [] (mkH hi hl sw kp) :=
  cW.run (am_in [4, 10, 17]) 1 (cQ.of (h1))
-- 60: DogDecrees$PullTelling.tellSum(I)Z
set_option maxRecDepth 100000 in
theorem k_60_0 {x1 : Int32}
    (h1 : cS d 61 [(.ref 18), (.int x1)] (mkH hi hl sw kp) (am_ret (cW cd_60 d Q) 5 [some (.ref 18), some (.int x1), none, none] []))
    : cW cd_60 d Q 0 [some (.ref 18), some (.int x1), none, none] [] (mkH hi hl sw kp) :=
  cW.run (am_in [5, 12, 58, 63, 77]) 3 (cC.of (h1))
theorem e_60 {x1 : Int32}
    (h1 : cS d 61 [(.ref 18), (.int x1)] (mkH hi hl sw kp) (am_ret (cW cd_60 d Q) 5 [some (.ref 18), some (.int x1), none, none] []))
    : cS (d + 1) 60 [(.ref 18), (.int x1)] (mkH hi hl sw kp) Q := cS.of rfl (k_60_0 h1)
set_option maxRecDepth 100000 in
theorem k_60_5 {x1 : Int32} {s0 : Int32}
    (h1 : s0 = 0 → Q (some (.int (0))) (mkH hi hl sw kp))
    (h2 : ¬ (s0 = 0) → cW cd_60 d Q 12 [some (.ref 18), some (.int x1), some (.int (0)), none] [] (mkH hi hl sw kp))
    : cW cd_60 d Q 5 [some (.ref 18), some (.int x1), none, none] [(.int s0)] (mkH hi hl sw kp) :=
  cW.run (am_in [5, 12, 58, 63, 77]) 3 (And.intro (fun c1 => (And.intro (Or.inl rfl) (cQ.of (h1 c1)))) (fun c2 => (And.intro (Nat.le_of_ble_eq_true rfl) (h2 c2))))
set_option maxRecDepth 100000 in
theorem k_60_12 {x1 : Int32} {x2 : Int32} {o3 : Option Value}
    (h1 : (1600) ≤ x2 → Q (some (.int (1))) (mkH hi hl sw kp))
    (h2 : ¬ ((1600) ≤ x2) → (hi 3 2) = (43) → cS d 67 [(.ref 3)] (mkH hi hl sw kp) (am_ret (cW cd_60 d Q) 58 [some (.ref 18), some (.int x1), some (.int x2), some (.int (hi 3 2))] []))
    (h3 : ¬ ((1600) ≤ x2) → ¬ ((hi 3 2) = (43)) → (hi 3 2) = (45) → cS d 67 [(.ref 3)] (mkH hi hl sw kp) (am_ret (cW cd_60 d Q) 58 [some (.ref 18), some (.int x1), some (.int x2), some (.int (hi 3 2))] []))
    (h4 : ¬ ((1600) ≤ x2) → ¬ ((hi 3 2) = (43)) → ¬ ((hi 3 2) = (45)) → Q (some (.int (1))) (mkH hi hl sw kp))
    : cW cd_60 d Q 12 [some (.ref 18), some (.int x1), some (.int x2), o3] [] (mkH hi hl sw kp) :=
  cW.run (am_in [5, 12, 58, 63, 77]) 20 (And.intro (fun c1 => (And.intro (Or.inr rfl) (cQ.of (h1 c1)))) (fun c2 => (And.intro (fun c3 => (And.intro (Nat.le_of_ble_eq_true rfl) (cC.of (h2 c2 c3)))) (fun c4 => (And.intro (fun c5 => (And.intro (Nat.le_of_ble_eq_true rfl) (cC.of (h3 c2 c4 c5)))) (fun c6 => (And.intro (Or.inr rfl) (cQ.of (h4 c2 c4 c6)))))))))
set_option maxRecDepth 100000 in
theorem k_60_58 {x1 : Int32} {x2 : Int32} {x3 : Int32}
    (h1 : cS d 61 [(.ref 18), (.int x1)] (mkH hi hl sw kp) (am_ret (cW cd_60 d Q) 63 [some (.ref 18), some (.int x1), some (.int x2), some (.int x3)] []))
    : cW cd_60 d Q 58 [some (.ref 18), some (.int x1), some (.int x2), some (.int x3)] [] (mkH hi hl sw kp) :=
  cW.run (am_in [5, 12, 58, 63, 77]) 3 (cC.of (h1))
set_option maxRecDepth 100000 in
theorem k_60_63 {x1 : Int32} {x2 : Int32} {x3 : Int32} {s0 : Int32}
    (h1 : s0 = 0 → Q (some (.int (0))) (mkH hi hl sw kp))
    (h2 : ¬ (s0 = 0) → cS d 8 [(.ref 11), (.int (-x3))] (mkH hi hl sw kp) (am_ret (cW cd_60 d Q) 77 [some (.ref 18), some (.int x1), some (.int x2), some (.int x3)] []))
    : cW cd_60 d Q 63 [some (.ref 18), some (.int x1), some (.int x2), some (.int x3)] [(.int s0)] (mkH hi hl sw kp) :=
  cW.run (am_in [5, 12, 58, 63, 77]) 6 (And.intro (fun c1 => (And.intro (Or.inl rfl) (cQ.of (h1 c1)))) (fun c2 => (cC.of (h2 c2))))
set_option maxRecDepth 100000 in
theorem k_60_77 {x1 : Int32} {x2 : Int32} {x3 : Int32}
    (h1 : cW cd_60 d Q 12 [some (.ref 18), some (.int x1), some (.int (x2 + (1))), some (.int x3)] [] (mkH hi hl sw kp))
    : cW cd_60 d Q 77 [some (.ref 18), some (.int x1), some (.int x2), some (.int x3)] [] (mkH hi hl sw kp) :=
  cW.run (am_in [5, 12, 58, 63, 77]) 2 (And.intro (Nat.le_of_ble_eq_true rfl) (h1))
-- 146: DogDecrees.fed(I)I
set_option maxRecDepth 100000 in
theorem k_146_0 {x1 : Int32}
    (h1 : (g_158 x1 (1 : Int32) (8 : Int32)) = 0 → Q (some (.int (-1))) (mkH hi hl sw kp))
    (h2 : ¬ ((g_158 x1 (1 : Int32) (8 : Int32)) = 0) → x1 ≤ (hi 28 1) → cS (d + 1) 39 [(.ref 256), (.int (1)), (.int (1))] (mkH hi hl sw kp) (am_ret (cW cd_146 (d + 1) Q) 32 [some (.ref 0), some (.int x1), none, none, none, none, none, none] []))
    (h3 : ¬ ((g_158 x1 (1 : Int32) (8 : Int32)) = 0) → ¬ (x1 ≤ (hi 28 1)) → Q (some (.int (-1))) (mkH hi hl sw kp))
    : cW cd_146 (d + 1) Q 0 [some (.ref 0), some (.int x1), none, none, none, none, none, none] [] (mkH hi hl sw kp) :=
  cW.run (am_in [32, 41, 60, 83, 91]) 15 (cC.of (s_158 (And.intro (fun c1 => (cQ.of (h1 c1))) (fun c2 => (And.intro (fun c3 => (cC.of (h2 c2 c3))) (fun c4 => (cQ.of (h3 c2 c4))))))))
theorem e_146 {x1 : Int32}
    (h1 : (g_158 x1 (1 : Int32) (8 : Int32)) = 0 → Q (some (.int (-1))) (mkH hi hl sw kp))
    (h2 : ¬ ((g_158 x1 (1 : Int32) (8 : Int32)) = 0) → x1 ≤ (hi 28 1) → cS (d + 1) 39 [(.ref 256), (.int (1)), (.int (1))] (mkH hi hl sw kp) (am_ret (cW cd_146 (d + 1) Q) 32 [some (.ref 0), some (.int x1), none, none, none, none, none, none] []))
    (h3 : ¬ ((g_158 x1 (1 : Int32) (8 : Int32)) = 0) → ¬ (x1 ≤ (hi 28 1)) → Q (some (.int (-1))) (mkH hi hl sw kp))
    : cS ((d + 1) + 1) 146 [(.ref 0), (.int x1)] (mkH hi hl sw kp) Q := cS.of rfl (k_146_0 h1 h2 h3)
set_option maxRecDepth 100000 in
theorem k_146_32 {x1 : Int32}
    (h1 : cW cd_146 (d + 1) Q 41 [some (.ref 0), some (.int x1), some (.int (-1)), some (.long (-1)), none, some (.int (0)), none, none] [] (mkH hi hl sw kp))
    : cW cd_146 (d + 1) Q 32 [some (.ref 0), some (.int x1), none, none, none, none, none, none] [] (mkH hi hl sw kp) :=
  cW.run (am_in [32, 41, 60, 83, 91]) 6 (And.intro (Nat.le_of_ble_eq_true rfl) (And.intro (Nat.le_of_ble_eq_true rfl) (And.intro (Nat.le_of_ble_eq_true rfl) (h1))))
set_option maxRecDepth 100000 in
theorem k_146_41 {x1 : Int32} {x2 : Int32} {x3 : Int64} {x5 : Int32} {o6 : Option Value}
    (h1 : (hi 19 1) ≤ x5 → Q (some (.int x2)) (mkH hi hl sw kp))
    (h2 : ¬ ((hi 19 1) ≤ x5) → cS (d + 1) 38 [(.ref 256)] (mkH hi hl sw kp) (am_ret (cW cd_146 (d + 1) Q) 60 [some (.ref 0), some (.int x1), some (.int x2), some (.long x3), none, some (.int x5), o6, none] []))
    : cW cd_146 (d + 1) Q 41 [some (.ref 0), some (.int x1), some (.int x2), some (.long x3), none, some (.int x5), o6, none] [] (mkH hi hl sw kp) :=
  cW.run (am_in [32, 41, 60, 83, 91]) 8 (And.intro (fun c1 => (cQ.of (h1 c1))) (fun c2 => (cC.of (h2 c2))))
set_option maxRecDepth 100000 in
theorem k_146_60 {x1 : Int32} {x2 : Int32} {x3 : Int64} {x5 : Int32} {o6 : Option Value}
    (h1 : vp_in x5 8)
    (h2 : cS (d + 1) 40 [(.ref 256), (.int (255)), (.int (0)), (.int (1))] (mkH (u2 hi 257 x5.toNatClampNeg (1)) hl sw kp) (am_ret (cW cd_146 (d + 1) Q) 83 [some (.ref 0), some (.int x1), some (.int x2), some (.long x3), none, some (.int x5), o6, none] []))
    : cW cd_146 (d + 1) Q 60 [some (.ref 0), some (.int x1), some (.int x2), some (.long x3), none, some (.int x5), o6, none] [] (mkH hi hl sw kp) :=
  cW.run (am_in [32, 41, 60, 83, 91]) 12 (And.intro (h1) (cC.of (h2)))
set_option maxRecDepth 100000 in
theorem k_146_83 {x1 : Int32} {x2 : Int32} {x3 : Int64} {x5 : Int32} {o6 : Option Value}
    (h1 : cS (d + 1) 54 [(.ref 256), (.int x1)] (mkH hi hl sw kp) (am_ret (cW cd_146 (d + 1) Q) 91 [some (.ref 0), some (.int x1), some (.int x2), some (.long x3), none, some (.int x5), o6, none] []))
    : cW cd_146 (d + 1) Q 83 [some (.ref 0), some (.int x1), some (.int x2), some (.long x3), none, some (.int x5), o6, none] [] (mkH hi hl sw kp) :=
  cW.run (am_in [32, 41, 60, 83, 91]) 4 (cC.of (h1))
set_option maxRecDepth 100000 in
theorem k_146_91 {x1 : Int32} {x2 : Int32} {x3 : Int64} {x5 : Int32} {o6 : Option Value} {s0 : Int64}
    (h1 : (lg_cmp s0 x3) ≤ 0 → cW cd_146 (d + 1) Q 41 [some (.ref 0), some (.int x1), some (.int x2), some (.long x3), none, some (.int (x5 + (1))), some (.long s0), none] [] (mkH hi hl sw kp))
    (h2 : ¬ ((lg_cmp s0 x3) ≤ 0) → cW cd_146 (d + 1) Q 41 [some (.ref 0), some (.int x1), some (.int x5), some (.long s0), none, some (.int (x5 + (1))), some (.long s0), none] [] (mkH hi hl sw kp))
    : cW cd_146 (d + 1) Q 91 [some (.ref 0), some (.int x1), some (.int x2), some (.long x3), none, some (.int x5), o6, none] [(.long s0)] (mkH hi hl sw kp) :=
  cW.run (am_in [32, 41, 60, 83, 91]) 11 (And.intro (Nat.le_of_ble_eq_true rfl) (And.intro (fun c1 => (And.intro (Nat.le_of_ble_eq_true rfl) (h1 c1))) (fun c2 => (And.intro (Nat.le_of_ble_eq_true rfl) (And.intro (Nat.le_of_ble_eq_true rfl) (And.intro (Nat.le_of_ble_eq_true rfl) (h2 c2)))))))
-- 203: DogDecreesModel.readLine()V
set_option maxRecDepth 100000 in
theorem k_203_0
    (h1 : cS d 172 [(.ref 279), (.long (1684366692))] (mkH hi hl sw kp) (am_ret (cW cd_203 d Q) 7 [some (.ref 279)] []))
    : cW cd_203 d Q 0 [some (.ref 279)] [] (mkH hi hl sw kp) :=
  cW.run (am_in [7, 22, 32, 48, 58, 74, 84, 99, 109, 125, 135, 154, 164, 190, 203, 229, 242, 256, 266, 292, 305, 332, 343, 364, 375]) 3 (cC.of (h1))
theorem e_203
    (h1 : cS d 172 [(.ref 279), (.long (1684366692))] (mkH hi hl sw kp) (am_ret (cW cd_203 d Q) 7 [some (.ref 279)] []))
    : cS (d + 1) 203 [(.ref 279)] (mkH hi hl sw kp) Q := cS.of rfl (k_203_0 h1)
set_option maxRecDepth 100000 in
theorem k_203_7 {s0 : Int32}
    (h1 : s0 = 0 → cS d 172 [(.ref 279), (.long (482854658917))] (mkH hi hl sw kp) (am_ret (cW cd_203 d Q) 32 [some (.ref 279)] []))
    (h2 : ¬ (s0 = 0) → (4) ≤ (hi 279 35) → cS d 172 [(.ref 279), (.long (482854658917))] (mkH hi hl sw kp) (am_ret (cW cd_203 d Q) 32 [some (.ref 279)] []))
    (h3 : ¬ (s0 = 0) → ¬ ((4) ≤ (hi 279 35)) → cS d 197 [(.ref 279)] (mkH hi hl sw kp) (am_ret (cW cd_203 d Q) 22 [some (.ref 279)] []))
    : cW cd_203 d Q 7 [some (.ref 279)] [(.int s0)] (mkH hi hl sw kp) :=
  cW.run (am_in [7, 22, 32, 48, 58, 74, 84, 99, 109, 125, 135, 154, 164, 190, 203, 229, 242, 256, 266, 292, 305, 332, 343, 364, 375]) 8 (And.intro (fun c1 => (cC.of (h1 c1))) (fun c2 => (And.intro (fun c3 => (cC.of (h2 c2 c3))) (fun c4 => (cC.of (h3 c2 c4))))))
set_option maxRecDepth 100000 in
theorem k_203_22
    (h1 : cW cd_203 d Q 343 [some (.ref 279)] [] (mkH hi hl sw kp))
    : cW cd_203 d Q 22 [some (.ref 279)] [] (mkH hi hl sw kp) :=
  cW.run (am_in [7, 22, 32, 48, 58, 74, 84, 99, 109, 125, 135, 154, 164, 190, 203, 229, 242, 256, 266, 292, 305, 332, 343, 364, 375]) 1 (h1)
set_option maxRecDepth 100000 in
theorem k_203_32 {s0 : Int32}
    (h1 : s0 = 0 → cS d 172 [(.ref 279), (.long (1885434984))] (mkH hi hl sw kp) (am_ret (cW cd_203 d Q) 58 [some (.ref 279)] []))
    (h2 : ¬ (s0 = 0) → (8) ≤ (hi 279 36) → cS d 172 [(.ref 279), (.long (1885434984))] (mkH hi hl sw kp) (am_ret (cW cd_203 d Q) 58 [some (.ref 279)] []))
    (h3 : ¬ (s0 = 0) → ¬ ((8) ≤ (hi 279 36)) → cS d 198 [(.ref 279)] (mkH hi hl sw kp) (am_ret (cW cd_203 d Q) 48 [some (.ref 279)] []))
    : cW cd_203 d Q 32 [some (.ref 279)] [(.int s0)] (mkH hi hl sw kp) :=
  cW.run (am_in [7, 22, 32, 48, 58, 74, 84, 99, 109, 125, 135, 154, 164, 190, 203, 229, 242, 256, 266, 292, 305, 332, 343, 364, 375]) 8 (And.intro (fun c1 => (cC.of (h1 c1))) (fun c2 => (And.intro (fun c3 => (cC.of (h2 c2 c3))) (fun c4 => (cC.of (h3 c2 c4))))))
set_option maxRecDepth 100000 in
theorem k_203_48
    (h1 : cW cd_203 d Q 343 [some (.ref 279)] [] (mkH hi hl sw kp))
    : cW cd_203 d Q 48 [some (.ref 279)] [] (mkH hi hl sw kp) :=
  cW.run (am_in [7, 22, 32, 48, 58, 74, 84, 99, 109, 125, 135, 154, 164, 190, 203, 229, 242, 256, 266, 292, 305, 332, 343, 364, 375]) 1 (h1)
set_option maxRecDepth 100000 in
theorem k_203_58 {s0 : Int32}
    (h1 : s0 = 0 → cS d 172 [(.ref 279), (.long (1667330917))] (mkH hi hl sw kp) (am_ret (cW cd_203 d Q) 84 [some (.ref 279)] []))
    (h2 : ¬ (s0 = 0) → (16) ≤ (hi 279 37) → cS d 172 [(.ref 279), (.long (1667330917))] (mkH hi hl sw kp) (am_ret (cW cd_203 d Q) 84 [some (.ref 279)] []))
    (h3 : ¬ (s0 = 0) → ¬ ((16) ≤ (hi 279 37)) → cS d 199 [(.ref 279)] (mkH hi hl sw kp) (am_ret (cW cd_203 d Q) 74 [some (.ref 279)] []))
    : cW cd_203 d Q 58 [some (.ref 279)] [(.int s0)] (mkH hi hl sw kp) :=
  cW.run (am_in [7, 22, 32, 48, 58, 74, 84, 99, 109, 125, 135, 154, 164, 190, 203, 229, 242, 256, 266, 292, 305, 332, 343, 364, 375]) 8 (And.intro (fun c1 => (cC.of (h1 c1))) (fun c2 => (And.intro (fun c3 => (cC.of (h2 c2 c3))) (fun c4 => (cC.of (h3 c2 c4))))))
set_option maxRecDepth 100000 in
theorem k_203_74
    (h1 : cW cd_203 d Q 343 [some (.ref 279)] [] (mkH hi hl sw kp))
    : cW cd_203 d Q 74 [some (.ref 279)] [] (mkH hi hl sw kp) :=
  cW.run (am_in [7, 22, 32, 48, 58, 74, 84, 99, 109, 125, 135, 154, 164, 190, 203, 229, 242, 256, 266, 292, 305, 332, 343, 364, 375]) 1 (h1)
set_option maxRecDepth 100000 in
theorem k_203_84 {s0 : Int32}
    (h1 : s0 = 0 → cS d 172 [(.ref 279), (.long (2003330414))] (mkH hi hl sw kp) (am_ret (cW cd_203 d Q) 109 [some (.ref 279)] []))
    (h2 : ¬ (s0 = 0) → (4) ≤ (hi 279 38) → cS d 172 [(.ref 279), (.long (2003330414))] (mkH hi hl sw kp) (am_ret (cW cd_203 d Q) 109 [some (.ref 279)] []))
    (h3 : ¬ (s0 = 0) → ¬ ((4) ≤ (hi 279 38)) → cS d 200 [(.ref 279)] (mkH hi hl sw kp) (am_ret (cW cd_203 d Q) 99 [some (.ref 279)] []))
    : cW cd_203 d Q 84 [some (.ref 279)] [(.int s0)] (mkH hi hl sw kp) :=
  cW.run (am_in [7, 22, 32, 48, 58, 74, 84, 99, 109, 125, 135, 154, 164, 190, 203, 229, 242, 256, 266, 292, 305, 332, 343, 364, 375]) 8 (And.intro (fun c1 => (cC.of (h1 c1))) (fun c2 => (And.intro (fun c3 => (cC.of (h2 c2 c3))) (fun c4 => (cC.of (h3 c2 c4))))))
set_option maxRecDepth 100000 in
theorem k_203_99
    (h1 : cW cd_203 d Q 343 [some (.ref 279)] [] (mkH hi hl sw kp))
    : cW cd_203 d Q 99 [some (.ref 279)] [] (mkH hi hl sw kp) :=
  cW.run (am_in [7, 22, 32, 48, 58, 74, 84, 99, 109, 125, 135, 154, 164, 190, 203, 229, 242, 256, 266, 292, 305, 332, 343, 364, 375]) 1 (h1)
set_option maxRecDepth 100000 in
theorem k_203_109 {s0 : Int32}
    (h1 : s0 = 0 → cS d 172 [(.ref 279), (.long (1886743660))] (mkH hi hl sw kp) (am_ret (cW cd_203 d Q) 135 [some (.ref 279)] []))
    (h2 : ¬ (s0 = 0) → (16) ≤ (hi 279 39) → cS d 172 [(.ref 279), (.long (1886743660))] (mkH hi hl sw kp) (am_ret (cW cd_203 d Q) 135 [some (.ref 279)] []))
    (h3 : ¬ (s0 = 0) → ¬ ((16) ≤ (hi 279 39)) → cS d 201 [(.ref 279)] (mkH hi hl sw kp) (am_ret (cW cd_203 d Q) 125 [some (.ref 279)] []))
    : cW cd_203 d Q 109 [some (.ref 279)] [(.int s0)] (mkH hi hl sw kp) :=
  cW.run (am_in [7, 22, 32, 48, 58, 74, 84, 99, 109, 125, 135, 154, 164, 190, 203, 229, 242, 256, 266, 292, 305, 332, 343, 364, 375]) 8 (And.intro (fun c1 => (cC.of (h1 c1))) (fun c2 => (And.intro (fun c3 => (cC.of (h2 c2 c3))) (fun c4 => (cC.of (h3 c2 c4))))))
set_option maxRecDepth 100000 in
theorem k_203_125
    (h1 : cW cd_203 d Q 343 [some (.ref 279)] [] (mkH hi hl sw kp))
    : cW cd_203 d Q 125 [some (.ref 279)] [] (mkH hi hl sw kp) :=
  cW.run (am_in [7, 22, 32, 48, 58, 74, 84, 99, 109, 125, 135, 154, 164, 190, 203, 229, 242, 256, 266, 292, 305, 332, 343, 364, 375]) 1 (h1)
set_option maxRecDepth 100000 in
theorem k_203_135 {s0 : Int32}
    (h1 : s0 = 0 → cS d 172 [(.ref 279), (.long (6578553))] (mkH hi hl sw kp) (am_ret (cW cd_203 d Q) 164 [some (.ref 279)] []))
    (h2 : ¬ (s0 = 0) → (hi 279 52) = 0 → cS d 193 [(.ref 279)] (mkH (u2 hi 279 52 (1)) hl sw kp) (am_ret (cW cd_203 d Q) 154 [some (.ref 279)] []))
    (h3 : ¬ (s0 = 0) → ¬ ((hi 279 52) = 0) → cS d 172 [(.ref 279), (.long (6578553))] (mkH hi hl sw kp) (am_ret (cW cd_203 d Q) 164 [some (.ref 279)] []))
    : cW cd_203 d Q 135 [some (.ref 279)] [(.int s0)] (mkH hi hl sw kp) :=
  cW.run (am_in [7, 22, 32, 48, 58, 74, 84, 99, 109, 125, 135, 154, 164, 190, 203, 229, 242, 256, 266, 292, 305, 332, 343, 364, 375]) 9 (And.intro (fun c1 => (cC.of (h1 c1))) (fun c2 => (And.intro (fun c3 => (And.intro (Or.inr rfl) (cC.of (h2 c2 c3)))) (fun c4 => (cC.of (h3 c2 c4))))))
set_option maxRecDepth 100000 in
theorem k_203_154
    (h1 : cW cd_203 d Q 343 [some (.ref 279)] [] (mkH hi hl sw kp))
    : cW cd_203 d Q 154 [some (.ref 279)] [] (mkH hi hl sw kp) :=
  cW.run (am_in [7, 22, 32, 48, 58, 74, 84, 99, 109, 125, 135, 154, 164, 190, 203, 229, 242, 256, 266, 292, 305, 332, 343, 364, 375]) 1 (h1)
set_option maxRecDepth 100000 in
theorem k_203_164 {s0 : Int32}
    (h1 : s0 = 0 → cS d 172 [(.ref 279), (.long (448377483891))] (mkH hi hl sw kp) (am_ret (cW cd_203 d Q) 203 [some (.ref 279)] []))
    (h2 : ¬ (s0 = 0) → (hi 279 53) = 0 → cS d 177 [(.ref 279), (.long (6578553)), (.int (1)), (.int (24))] (mkH (u2 hi 279 53 (1)) hl sw kp) (am_ret (cW cd_203 d Q) 190 [some (.ref 279)] [(.ref 279)]))
    (h3 : ¬ (s0 = 0) → ¬ ((hi 279 53) = 0) → cS d 172 [(.ref 279), (.long (448377483891))] (mkH hi hl sw kp) (am_ret (cW cd_203 d Q) 203 [some (.ref 279)] []))
    : cW cd_203 d Q 164 [some (.ref 279)] [(.int s0)] (mkH hi hl sw kp) :=
  cW.run (am_in [7, 22, 32, 48, 58, 74, 84, 99, 109, 125, 135, 154, 164, 190, 203, 229, 242, 256, 266, 292, 305, 332, 343, 364, 375]) 13 (And.intro (fun c1 => (cC.of (h1 c1))) (fun c2 => (And.intro (fun c3 => (And.intro (Or.inr rfl) (cC.of (h2 c2 c3)))) (fun c4 => (cC.of (h3 c2 c4))))))
set_option maxRecDepth 100000 in
theorem k_203_190 {s1 : Int32}
    (h1 : cW cd_203 d Q 343 [some (.ref 279)] [] (mkH (u2 hi 279 40 s1) hl sw kp))
    : cW cd_203 d Q 190 [some (.ref 279)] [(.int s1), (.ref 279)] (mkH hi hl sw kp) :=
  cW.run (am_in [7, 22, 32, 48, 58, 74, 84, 99, 109, 125, 135, 154, 164, 190, 203, 229, 242, 256, 266, 292, 305, 332, 343, 364, 375]) 2 (h1)
set_option maxRecDepth 100000 in
theorem k_203_203 {s0 : Int32}
    (h1 : s0 = 0 → cS d 172 [(.ref 279), (.long (495873782388))] (mkH hi hl sw kp) (am_ret (cW cd_203 d Q) 242 [some (.ref 279)] []))
    (h2 : ¬ (s0 = 0) → (hi 279 54) = 0 → cS d 177 [(.ref 279), (.long (448377483891)), (.int (1)), (.int (24))] (mkH (u2 hi 279 54 (1)) hl sw kp) (am_ret (cW cd_203 d Q) 229 [some (.ref 279)] [(.ref 279)]))
    (h3 : ¬ (s0 = 0) → ¬ ((hi 279 54) = 0) → cS d 172 [(.ref 279), (.long (495873782388))] (mkH hi hl sw kp) (am_ret (cW cd_203 d Q) 242 [some (.ref 279)] []))
    : cW cd_203 d Q 203 [some (.ref 279)] [(.int s0)] (mkH hi hl sw kp) :=
  cW.run (am_in [7, 22, 32, 48, 58, 74, 84, 99, 109, 125, 135, 154, 164, 190, 203, 229, 242, 256, 266, 292, 305, 332, 343, 364, 375]) 13 (And.intro (fun c1 => (cC.of (h1 c1))) (fun c2 => (And.intro (fun c3 => (And.intro (Or.inr rfl) (cC.of (h2 c2 c3)))) (fun c4 => (cC.of (h3 c2 c4))))))
set_option maxRecDepth 100000 in
theorem k_203_229 {s1 : Int32}
    (h1 : cW cd_203 d Q 343 [some (.ref 279)] [] (mkH (u2 hi 279 41 s1) hl sw kp))
    : cW cd_203 d Q 229 [some (.ref 279)] [(.int s1), (.ref 279)] (mkH hi hl sw kp) :=
  cW.run (am_in [7, 22, 32, 48, 58, 74, 84, 99, 109, 125, 135, 154, 164, 190, 203, 229, 242, 256, 266, 292, 305, 332, 343, 364, 375]) 2 (h1)
set_option maxRecDepth 100000 in
theorem k_203_242 {s0 : Int32}
    (h1 : s0 = 0 → cS d 172 [(.ref 279), (.long (6383461))] (mkH hi hl sw kp) (am_ret (cW cd_203 d Q) 266 [some (.ref 279)] []))
    (h2 : ¬ (s0 = 0) → (hi 279 55) = 0 → cS d 202 [(.ref 279)] (mkH hi hl sw kp) (am_ret (cW cd_203 d Q) 256 [some (.ref 279)] []))
    (h3 : ¬ (s0 = 0) → ¬ ((hi 279 55) = 0) → cS d 172 [(.ref 279), (.long (6383461))] (mkH hi hl sw kp) (am_ret (cW cd_203 d Q) 266 [some (.ref 279)] []))
    : cW cd_203 d Q 242 [some (.ref 279)] [(.int s0)] (mkH hi hl sw kp) :=
  cW.run (am_in [7, 22, 32, 48, 58, 74, 84, 99, 109, 125, 135, 154, 164, 190, 203, 229, 242, 256, 266, 292, 305, 332, 343, 364, 375]) 7 (And.intro (fun c1 => (cC.of (h1 c1))) (fun c2 => (And.intro (fun c3 => (cC.of (h2 c2 c3))) (fun c4 => (cC.of (h3 c2 c4))))))
set_option maxRecDepth 100000 in
theorem k_203_256
    (h1 : cW cd_203 d Q 343 [some (.ref 279)] [] (mkH hi hl sw kp))
    : cW cd_203 d Q 256 [some (.ref 279)] [] (mkH hi hl sw kp) :=
  cW.run (am_in [7, 22, 32, 48, 58, 74, 84, 99, 109, 125, 135, 154, 164, 190, 203, 229, 242, 256, 266, 292, 305, 332, 343, 364, 375]) 1 (h1)
set_option maxRecDepth 100000 in
theorem k_203_266 {s0 : Int32}
    (h1 : s0 = 0 → cS d 172 [(.ref 279), (.long (1685217655))] (mkH hi hl sw kp) (am_ret (cW cd_203 d Q) 305 [some (.ref 279)] []))
    (h2 : ¬ (s0 = 0) → (hi 279 56) = 0 → cS d 177 [(.ref 279), (.long (6383461)), (.int (0)), (.int (99))] (mkH (u2 hi 279 56 (1)) hl sw kp) (am_ret (cW cd_203 d Q) 292 [some (.ref 279)] [(.ref 279)]))
    (h3 : ¬ (s0 = 0) → ¬ ((hi 279 56) = 0) → cS d 172 [(.ref 279), (.long (1685217655))] (mkH hi hl sw kp) (am_ret (cW cd_203 d Q) 305 [some (.ref 279)] []))
    : cW cd_203 d Q 266 [some (.ref 279)] [(.int s0)] (mkH hi hl sw kp) :=
  cW.run (am_in [7, 22, 32, 48, 58, 74, 84, 99, 109, 125, 135, 154, 164, 190, 203, 229, 242, 256, 266, 292, 305, 332, 343, 364, 375]) 13 (And.intro (fun c1 => (cC.of (h1 c1))) (fun c2 => (And.intro (fun c3 => (And.intro (Or.inr rfl) (cC.of (h2 c2 c3)))) (fun c4 => (cC.of (h3 c2 c4))))))
set_option maxRecDepth 100000 in
theorem k_203_292 {s1 : Int32}
    (h1 : cW cd_203 d Q 343 [some (.ref 279)] [] (mkH (u2 hi 279 43 s1) hl sw kp))
    : cW cd_203 d Q 292 [some (.ref 279)] [(.int s1), (.ref 279)] (mkH hi hl sw kp) :=
  cW.run (am_in [7, 22, 32, 48, 58, 74, 84, 99, 109, 125, 135, 154, 164, 190, 203, 229, 242, 256, 266, 292, 305, 332, 343, 364, 375]) 2 (h1)
set_option maxRecDepth 100000 in
theorem k_203_305 {s0 : Int32}
    (h1 : s0 = 0 → cS d 171 [(.ref 279), (.int (2))] (mkH hi hl sw kp) (am_ret (cW cd_203 d Q) 343 [some (.ref 279)] []))
    (h2 : ¬ (s0 = 0) → (hi 279 57) = 0 → cS d 177 [(.ref 279), (.long (1685217655)), (.int (0)), (.int (999))] (mkH (u2 hi 279 57 (1)) hl sw kp) (am_ret (cW cd_203 d Q) 332 [some (.ref 279)] [(.ref 279)]))
    (h3 : ¬ (s0 = 0) → ¬ ((hi 279 57) = 0) → cS d 171 [(.ref 279), (.int (2))] (mkH hi hl sw kp) (am_ret (cW cd_203 d Q) 343 [some (.ref 279)] []))
    : cW cd_203 d Q 305 [some (.ref 279)] [(.int s0)] (mkH hi hl sw kp) :=
  cW.run (am_in [7, 22, 32, 48, 58, 74, 84, 99, 109, 125, 135, 154, 164, 190, 203, 229, 242, 256, 266, 292, 305, 332, 343, 364, 375]) 13 (And.intro (fun c1 => (cC.of (h1 c1))) (fun c2 => (And.intro (fun c3 => (And.intro (Or.inr rfl) (cC.of (h2 c2 c3)))) (fun c4 => (cC.of (h3 c2 c4))))))
set_option maxRecDepth 100000 in
theorem k_203_332 {s1 : Int32}
    (h1 : cW cd_203 d Q 343 [some (.ref 279)] [] (mkH (u2 hi 279 44 s1) hl sw kp))
    : cW cd_203 d Q 332 [some (.ref 279)] [(.int s1), (.ref 279)] (mkH hi hl sw kp) :=
  cW.run (am_in [7, 22, 32, 48, 58, 74, 84, 99, 109, 125, 135, 154, 164, 190, 203, 229, 242, 256, 266, 292, 305, 332, 343, 364, 375]) 2 (h1)
set_option maxRecDepth 100000 in
theorem k_203_343
    (h1 : (hi 279 2) = 0 → (hi 279 6) = (59) → cW cd_203 d Q 364 [some (.ref 279)] [] (mkH hi hl sw kp))
    (h2 : (hi 279 2) = 0 → ¬ ((hi 279 6) = (59)) → cS d 171 [(.ref 279), (.int (2))] (mkH hi hl sw kp) (am_ret (cW cd_203 d Q) 364 [some (.ref 279)] []))
    (h3 : ¬ ((hi 279 2) = 0) → cW cd_203 d Q 364 [some (.ref 279)] [] (mkH hi hl sw kp))
    : cW cd_203 d Q 343 [some (.ref 279)] [] (mkH hi hl sw kp) :=
  cW.run (am_in [7, 22, 32, 48, 58, 74, 84, 99, 109, 125, 135, 154, 164, 190, 203, 229, 242, 256, 266, 292, 305, 332, 343, 364, 375]) 10 (And.intro (fun c1 => (And.intro (fun c2 => (h1 c1 c2)) (fun c3 => (cC.of (h2 c1 c3))))) (fun c4 => (h3 c4)))
set_option maxRecDepth 100000 in
theorem k_203_364
    (h1 : (hi 279 2) = 0 → cS d 170 [(.ref 279)] (mkH hi hl sw kp) (am_ret (cW cd_203 d Q) 375 [some (.ref 279)] []))
    (h2 : ¬ ((hi 279 2) = 0) → cW cd_203 d Q 375 [some (.ref 279)] [] (mkH hi hl sw kp))
    : cW cd_203 d Q 364 [some (.ref 279)] [] (mkH hi hl sw kp) :=
  cW.run (am_in [7, 22, 32, 48, 58, 74, 84, 99, 109, 125, 135, 154, 164, 190, 203, 229, 242, 256, 266, 292, 305, 332, 343, 364, 375]) 5 (And.intro (fun c1 => (cC.of (h1 c1))) (fun c2 => (h2 c2)))
set_option maxRecDepth 100000 in
theorem k_203_375
    (h1 : Q none (mkH hi hl sw kp))
    : cW cd_203 d Q 375 [some (.ref 279)] [] (mkH hi hl sw kp) :=
  cW.run (am_in [7, 22, 32, 48, 58, 74, 84, 99, 109, 125, 135, 154, 164, 190, 203, 229, 242, 256, 266, 292, 305, 332, 343, 364, 375]) 1 (cQ.of (h1))
-- 217: DogDecreesModel.layWays()V
set_option maxRecDepth 100000 in
theorem k_217_0
    (h1 : cW cd_217 d Q 2 [some (.ref 279), some (.int (0)), none, none] [] (mkH hi hl sw kp))
    : cW cd_217 d Q 0 [some (.ref 279), none, none, none] [] (mkH hi hl sw kp) :=
  cW.run (am_in [2, 23, 36, 39, 60]) 2 (And.intro (Nat.le_of_ble_eq_true rfl) (h1))
theorem e_217
    (h1 : cW cd_217 d Q 2 [some (.ref 279), some (.int (0)), none, none] [] (mkH hi hl sw kp))
    : cS (d + 1) 217 [(.ref 279)] (mkH hi hl sw kp) Q := cS.of rfl (k_217_0 h1)
set_option maxRecDepth 100000 in
theorem k_217_2 {x1 : Int32}
    (h1 : (64) ≤ x1 → cW cd_217 d Q 23 [some (.ref 279), some (.int (0)), none, none] [] (mkH hi hl sw kp))
    (h2 : ¬ ((64) ≤ x1) → vp_in x1 64)
    (h3 : ¬ ((64) ≤ x1) → cW cd_217 d Q 2 [some (.ref 279), some (.int (x1 + (1))), none, none] [] (mkH (u2 hi 302 x1.toNatClampNeg (0)) hl sw kp))
    : cW cd_217 d Q 2 [some (.ref 279), some (.int x1), none, none] [] (mkH hi hl sw kp) :=
  cW.run (am_in [2, 23, 36, 39, 60]) 10 (And.intro (fun c1 => (And.intro (Nat.le_of_ble_eq_true rfl) (h1 c1))) (fun c2 => (And.intro (h2 c2) (And.intro (Nat.le_of_ble_eq_true rfl) (h3 c2)))))
set_option maxRecDepth 100000 in
theorem k_217_23 {x1 : Int32} {o2 : Option Value} {o3 : Option Value}
    (h1 : (hi 279 46) ≤ x1 → Q none (mkH hi hl sw kp))
    (h2 : ¬ ((hi 279 46) ≤ x1) → cS d 215 [(.ref 279), (.int x1)] (mkH hi hl sw kp) (am_ret (cW cd_217 d Q) 36 [some (.ref 279), some (.int x1), o2, o3] []))
    : cW cd_217 d Q 23 [some (.ref 279), some (.int x1), o2, o3] [] (mkH hi hl sw kp) :=
  cW.run (am_in [2, 23, 36, 39, 60]) 7 (And.intro (fun c1 => (cQ.of (h1 c1))) (fun c2 => (cC.of (h2 c2))))
set_option maxRecDepth 100000 in
theorem k_217_36 {x1 : Int32} {o2 : Option Value} {o3 : Option Value} {s0 : Int32}
    (h1 : cW cd_217 d Q 39 [some (.ref 279), some (.int x1), some (.int s0), some (.int (0))] [] (mkH hi hl sw kp))
    : cW cd_217 d Q 36 [some (.ref 279), some (.int x1), o2, o3] [(.int s0)] (mkH hi hl sw kp) :=
  cW.run (am_in [2, 23, 36, 39, 60]) 3 (And.intro (Nat.le_of_ble_eq_true rfl) (And.intro (Nat.le_of_ble_eq_true rfl) (h1)))
set_option maxRecDepth 100000 in
theorem k_217_39 {x1 : Int32} {x2 : Int32} {x3 : Int32}
    (h1 : (60) ≤ x3 → cW cd_217 d Q 23 [some (.ref 279), some (.int (x1 + (1))), some (.int x2), some (.int x3)] [] (mkH hi hl sw kp))
    (h2 : ¬ ((60) ≤ x3) → cS d 216 [(.ref 279), (.int x1), (.int x3), (.int x2)] (mkH hi hl sw kp) (am_ret (cW cd_217 d Q) 60 [some (.ref 279), some (.int x1), some (.int x2), some (.int x3)] [(.int ((8) * x1)), (.ref 302)]))
    : cW cd_217 d Q 39 [some (.ref 279), some (.int x1), some (.int x2), some (.int x3)] [] (mkH hi hl sw kp) :=
  cW.run (am_in [2, 23, 36, 39, 60]) 13 (And.intro (fun c1 => (And.intro (Nat.le_of_ble_eq_true rfl) (h1 c1))) (fun c2 => (cC.of (h2 c2))))
set_option maxRecDepth 100000 in
theorem k_217_60 {x1 : Int32} {x2 : Int32} {x3 : Int32} {s1 : Int32} {s2 : Int32}
    (h1 : vp_in (s1 + s2) 64)
    (h2 : cW cd_217 d Q 39 [some (.ref 279), some (.int x1), some (.int x2), some (.int (x3 + (1)))] [] (mkH (u2 hi 302 (s1 + s2).toNatClampNeg ((hi 302 (s1 + s2).toNatClampNeg) + (1))) hl sw kp))
    : cW cd_217 d Q 60 [some (.ref 279), some (.int x1), some (.int x2), some (.int x3)] [(.int s2), (.int s1), (.ref 302)] (mkH hi hl sw kp) :=
  cW.run (am_in [2, 23, 36, 39, 60]) 8 (And.intro rfl (And.intro rfl (And.intro (h1) (And.intro (h1) (And.intro (Nat.le_of_ble_eq_true rfl) (h2))))))
-- 227: DogDecreesModel.hour()I
set_option maxRecDepth 100000 in
theorem k_227_0
    (h1 : (hi 299 17) = (2000) → Q (some (.int (-1))) (mkH hi hl sw kp))
    (h2 : ¬ ((hi 299 17) = (2000)) → (hi 279 46) = 0 → Q (some (.int (-1))) (mkH hi hl sw kp))
    (h3 : ¬ ((hi 299 17) = (2000)) → ¬ ((hi 279 46) = 0) → cS d 223 [(.ref 279)] (mkH hi hl sw kp) (am_ret (cW cd_227 d Q) 26 [some (.ref 279), none, none] []))
    : cW cd_227 d Q 0 [some (.ref 279), none, none] [] (mkH hi hl sw kp) :=
  cW.run (am_in [26, 30, 84, 87, 101, 111, 115, 117]) 11 (And.intro (show vp_in 17 82 from vin_l (by decide +kernel)) (And.intro (fun c1 => (cQ.of (h1 c1))) (fun c2 => (And.intro (fun c3 => (cQ.of (h2 c2 c3))) (fun c4 => (cC.of (h3 c2 c4)))))))
theorem e_227
    (h1 : (hi 299 17) = (2000) → Q (some (.int (-1))) (mkH hi hl sw kp))
    (h2 : ¬ ((hi 299 17) = (2000)) → (hi 279 46) = 0 → Q (some (.int (-1))) (mkH hi hl sw kp))
    (h3 : ¬ ((hi 299 17) = (2000)) → ¬ ((hi 279 46) = 0) → cS d 223 [(.ref 279)] (mkH hi hl sw kp) (am_ret (cW cd_227 d Q) 26 [some (.ref 279), none, none] []))
    : cS (d + 1) 227 [(.ref 279)] (mkH hi hl sw kp) Q := cS.of rfl (k_227_0 h1 h2 h3)
set_option maxRecDepth 100000 in
theorem k_227_26
    (h1 : cS d 211 [(.ref 279)] (mkH hi hl sw kp) (am_ret (cW cd_227 d Q) 30 [some (.ref 279), none, none] []))
    : cW cd_227 d Q 26 [some (.ref 279), none, none] [] (mkH hi hl sw kp) :=
  cW.run (am_in [26, 30, 84, 87, 101, 111, 115, 117]) 2 (cC.of (h1))
set_option maxRecDepth 100000 in
theorem k_227_30
    (h1 : cS d 215 [(.ref 279), (.int (hi 299 16))] (mkH (u2 hi 299 19 ((((hi 299 19) * (137)) + (71)) - (((hi 299 19) * (137)) + (71)) / (1000) * (1000))) hl sw kp) (am_ret (cW cd_227 d Q) 84 [some (.ref 279), none, none] [(.int (((((hi 299 19) * (137)) + (71)) - (((hi 299 19) * (137)) + (71)) / (1000) * (1000)) - ((((hi 299 19) * (137)) + (71)) - (((hi 299 19) * (137)) + (71)) / (1000) * (1000)) / (60) * (60))), (.int (hi 299 16)), (.ref 279)]))
    : cW cd_227 d Q 30 [some (.ref 279), none, none] [] (mkH hi hl sw kp) :=
  cW.run (am_in [26, 30, 84, 87, 101, 111, 115, 117]) 31 (And.intro (show vp_in 19 82 from vin_l (by decide +kernel)) (And.intro (show ¬ ((1000) : Int32) = 0 by decide +kernel) (And.intro (show vp_in 19 82 from vin_l (by decide +kernel)) (And.intro (show vp_in 16 82 from vin_l (by decide +kernel)) (And.intro (show vp_in 19 82 from vin_l (by decide +kernel)) (And.intro (show ¬ ((60) : Int32) = 0 by decide +kernel) (And.intro (show vp_in 16 82 from vin_l (by decide +kernel)) (cC.of (h1)))))))))
set_option maxRecDepth 100000 in
theorem k_227_84 {s1 : Int32} {s2 : Int32} {s3 : Int32}
    (h1 : cS d 216 [(.ref 279), (.int s1), (.int s2), (.int s3)] (mkH hi hl sw kp) (am_ret (cW cd_227 d Q) 87 [some (.ref 279), none, none] []))
    : cW cd_227 d Q 84 [some (.ref 279), none, none] [(.int s3), (.int s2), (.int s1), (.ref 279)] (mkH hi hl sw kp) :=
  cW.run (am_in [26, 30, 84, 87, 101, 111, 115, 117]) 1 (cC.of (h1))
set_option maxRecDepth 100000 in
theorem k_227_87 {s0 : Int32}
    (h1 : cS d 226 [(.ref 279), (.int s0)] (mkH (u2 hi 299 16 s0) hl sw kp) (am_ret (cW cd_227 d Q) 101 [some (.ref 279), some (.int s0), none] []))
    : cW cd_227 d Q 87 [some (.ref 279), none, none] [(.int s0)] (mkH hi hl sw kp) :=
  cW.run (am_in [26, 30, 84, 87, 101, 111, 115, 117]) 9 (And.intro (Nat.le_of_ble_eq_true rfl) (And.intro (show vp_in 16 82 from vin_l (by decide +kernel)) (cC.of (h1))))
set_option maxRecDepth 100000 in
theorem k_227_101 {x1 : Int32}
    (h1 : vp_in x1 8)
    (h2 : cS d 225 [(.ref 279), (.int (hi 295 x1.toNatClampNeg))] (mkH hi hl sw kp) (am_ret (cW cd_227 d Q) 111 [some (.ref 279), some (.int x1), none] []))
    : cW cd_227 d Q 101 [some (.ref 279), some (.int x1), none] [] (mkH hi hl sw kp) :=
  cW.run (am_in [26, 30, 84, 87, 101, 111, 115, 117]) 6 (And.intro (h1) (cC.of (h2)))
set_option maxRecDepth 100000 in
theorem k_227_111 {x1 : Int32}
    (h1 : cS d 212 [(.ref 279)] (mkH hi hl sw kp) (am_ret (cW cd_227 d Q) 115 [some (.ref 279), some (.int x1), none] []))
    : cW cd_227 d Q 111 [some (.ref 279), some (.int x1), none] [] (mkH hi hl sw kp) :=
  cW.run (am_in [26, 30, 84, 87, 101, 111, 115, 117]) 2 (cC.of (h1))
set_option maxRecDepth 100000 in
theorem k_227_115 {x1 : Int32}
    (h1 : cW cd_227 d Q 117 [some (.ref 279), some (.int x1), some (.int (0))] [] (mkH hi hl sw kp))
    : cW cd_227 d Q 115 [some (.ref 279), some (.int x1), none] [] (mkH hi hl sw kp) :=
  cW.run (am_in [26, 30, 84, 87, 101, 111, 115, 117]) 2 (And.intro (Nat.le_of_ble_eq_true rfl) (h1))
set_option maxRecDepth 100000 in
theorem k_227_117 {x1 : Int32} {x2 : Int32}
    (h1 : (8) ≤ x2 → Q (some (.int x1)) (mkH (u2 (u2 hi 299 17 (hi 279 61)) 299 18 (hi 279 62)) hl sw kp))
    (h2 : ¬ ((8) ≤ x2) → vp_in x2 8)
    (h3 : ¬ ((8) ≤ x2) → vp_in ((0) + x2) 82)
    (h4 : ¬ ((8) ≤ x2) → cW cd_227 d Q 117 [some (.ref 279), some (.int x1), some (.int (x2 + (1)))] [] (mkH (u2 hi 299 ((0) + x2).toNatClampNeg (hi 300 x2.toNatClampNeg)) hl sw kp))
    : cW cd_227 d Q 117 [some (.ref 279), some (.int x1), some (.int x2)] [] (mkH hi hl sw kp) :=
  cW.run (am_in [26, 30, 84, 87, 101, 111, 115, 117]) 17 (And.intro (fun c1 => (And.intro (show vp_in 17 82 from vin_l (by decide +kernel)) (And.intro (show vp_in 18 82 from vin_l (by decide +kernel)) (cQ.of (h1 c1))))) (fun c2 => (And.intro (h2 c2) (And.intro (h3 c2) (And.intro (Nat.le_of_ble_eq_true rfl) (h4 c2))))))
-- 18: DogDecrees$Laying.choose(I)Z
set_option maxRecDepth 100000 in
theorem k_18_0 {x1 : Int32}
    (h1 : cS d 38 [(.ref 256)] (mkH hi (u2 hl 264 4 (-1)) sw kp) (am_ret (cW cd_18 d Q) 14 [some (.ref 264), some (.int x1)] []))
    : cW cd_18 d Q 0 [some (.ref 264), some (.int x1)] [] (mkH hi hl sw kp) :=
  cW.run (am_in [14, 20]) 6 (cC.of (h1))
theorem e_18 {x1 : Int32}
    (h1 : cS d 38 [(.ref 256)] (mkH hi (u2 hl 264 4 (-1)) sw kp) (am_ret (cW cd_18 d Q) 14 [some (.ref 264), some (.int x1)] []))
    : cS (d + 1) 18 [(.ref 264), (.int x1)] (mkH hi hl sw kp) Q := cS.of rfl (k_18_0 h1)
set_option maxRecDepth 100000 in
theorem k_18_14 {x1 : Int32}
    (h1 : cS d 19 [(.ref 264), (.int (0)), (.int x1)] (mkH hi hl sw kp) (am_ret (cW cd_18 d Q) 20 [some (.ref 264), some (.int x1)] []))
    : cW cd_18 d Q 14 [some (.ref 264), some (.int x1)] [] (mkH hi hl sw kp) :=
  cW.run (am_in [14, 20]) 4 (cC.of (h1))
set_option maxRecDepth 100000 in
theorem k_18_20 {x1 : Int32}
    (h1 : (lg_cmp (hl 264 4) 0) < 0 → Q (some (.int (0))) (mkH hi hl sw kp))
    (h2 : ¬ ((lg_cmp (hl 264 4) 0) < 0) → Q (some (.int (1))) (mkH hi hl sw kp))
    : cW cd_18 d Q 20 [some (.ref 264), some (.int x1)] [] (mkH hi hl sw kp) :=
  cW.run (am_in [14, 20]) 8 (And.intro (fun c1 => (And.intro (Or.inl rfl) (cQ.of (h1 c1)))) (fun c2 => (And.intro (Or.inr rfl) (cQ.of (h2 c2)))))
-- 58: DogDecrees$PullTelling.tellOne(I)Z
set_option maxRecDepth 100000 in
theorem k_58_0 {x1 : Int32}
    (h1 : (hi 3 2) = (217) → cS d 59 [(.ref 18), (.int x1)] (mkH hi hl sw kp) (am_ret (cW cd_58 d Q) 18 [some (.ref 18), some (.int x1), none] []))
    (h2 : ¬ ((hi 3 2) = (217)) → cS d 60 [(.ref 18), (.int x1)] (mkH hi hl sw kp) (am_ret (cW cd_58 d Q) 24 [some (.ref 18), some (.int x1), none] []))
    : cW cd_58 d Q 0 [some (.ref 18), some (.int x1), none] [] (mkH hi hl sw kp) :=
  cW.run (am_in [18, 24, 64, 69, 83]) 8 (And.intro (fun c1 => (cC.of (h1 c1))) (fun c2 => (cC.of (h2 c2))))
theorem e_58 {x1 : Int32}
    (h1 : (hi 3 2) = (217) → cS d 59 [(.ref 18), (.int x1)] (mkH hi hl sw kp) (am_ret (cW cd_58 d Q) 18 [some (.ref 18), some (.int x1), none] []))
    (h2 : ¬ ((hi 3 2) = (217)) → cS d 60 [(.ref 18), (.int x1)] (mkH hi hl sw kp) (am_ret (cW cd_58 d Q) 24 [some (.ref 18), some (.int x1), none] []))
    : cS (d + 1) 58 [(.ref 18), (.int x1)] (mkH hi hl sw kp) Q := cS.of rfl (k_58_0 h1 h2)
set_option maxRecDepth 100000 in
theorem k_58_18 {x1 : Int32} {s0 : Int32}
    (h1 : s0 = 0 ∨ s0 = 1)
    (h2 : Q (some (.int s0)) (mkH hi hl sw kp))
    : cW cd_58 d Q 18 [some (.ref 18), some (.int x1), none] [(.int s0)] (mkH hi hl sw kp) :=
  cW.run (am_in [18, 24, 64, 69, 83]) 1 (And.intro (h1) (cQ.of (h2)))
set_option maxRecDepth 100000 in
theorem k_58_24 {x1 : Int32} {s0 : Int32}
    (h1 : s0 = 0 → Q (some (.int (0))) (mkH hi hl sw kp))
    (h2 : ¬ (s0 = 0) → (hi 3 2) = (60) → cS d 67 [(.ref 3)] (mkH hi hl sw kp) (am_ret (cW cd_58 d Q) 64 [some (.ref 18), some (.int x1), some (.int (hi 3 2))] []))
    (h3 : ¬ (s0 = 0) → ¬ ((hi 3 2) = (60)) → (hi 3 2) = (62) → cS d 67 [(.ref 3)] (mkH hi hl sw kp) (am_ret (cW cd_58 d Q) 64 [some (.ref 18), some (.int x1), some (.int (hi 3 2))] []))
    (h4 : ¬ (s0 = 0) → ¬ ((hi 3 2) = (60)) → ¬ ((hi 3 2) = (62)) → (hi 3 2) = (61) → cS d 67 [(.ref 3)] (mkH hi hl sw kp) (am_ret (cW cd_58 d Q) 64 [some (.ref 18), some (.int x1), some (.int (hi 3 2))] []))
    (h5 : ¬ (s0 = 0) → ¬ ((hi 3 2) = (60)) → ¬ ((hi 3 2) = (62)) → ¬ ((hi 3 2) = (61)) → Q (some (.int (1))) (mkH hi hl sw kp))
    : cW cd_58 d Q 24 [some (.ref 18), some (.int x1), none] [(.int s0)] (mkH hi hl sw kp) :=
  cW.run (am_in [18, 24, 64, 69, 83]) 17 (And.intro (fun c1 => (And.intro (Or.inl rfl) (cQ.of (h1 c1)))) (fun c2 => (And.intro (Nat.le_of_ble_eq_true rfl) (And.intro (fun c3 => (cC.of (h2 c2 c3))) (fun c4 => (And.intro (fun c5 => (cC.of (h3 c2 c4 c5))) (fun c6 => (And.intro (fun c7 => (cC.of (h4 c2 c4 c6 c7))) (fun c8 => (And.intro (Or.inr rfl) (cQ.of (h5 c2 c4 c6 c8))))))))))))
set_option maxRecDepth 100000 in
theorem k_58_64 {x1 : Int32} {x2 : Int32}
    (h1 : cS d 60 [(.ref 18), (.int x1)] (mkH hi hl sw kp) (am_ret (cW cd_58 d Q) 69 [some (.ref 18), some (.int x1), some (.int x2)] []))
    : cW cd_58 d Q 64 [some (.ref 18), some (.int x1), some (.int x2)] [] (mkH hi hl sw kp) :=
  cW.run (am_in [18, 24, 64, 69, 83]) 3 (cC.of (h1))
set_option maxRecDepth 100000 in
theorem k_58_69 {x1 : Int32} {x2 : Int32} {s0 : Int32}
    (h1 : s0 = 0 → Q (some (.int (0))) (mkH hi hl sw kp))
    (h2 : ¬ (s0 = 0) → cS d 8 [(.ref 11), (.int (-x2))] (mkH hi hl sw kp) (am_ret (cW cd_58 d Q) 83 [some (.ref 18), some (.int x1), some (.int x2)] []))
    : cW cd_58 d Q 69 [some (.ref 18), some (.int x1), some (.int x2)] [(.int s0)] (mkH hi hl sw kp) :=
  cW.run (am_in [18, 24, 64, 69, 83]) 6 (And.intro (fun c1 => (And.intro (Or.inl rfl) (cQ.of (h1 c1)))) (fun c2 => (cC.of (h2 c2))))
set_option maxRecDepth 100000 in
theorem k_58_83 {x1 : Int32} {x2 : Int32}
    (h1 : Q (some (.int (1))) (mkH hi hl sw kp))
    : cW cd_58 d Q 83 [some (.ref 18), some (.int x1), some (.int x2)] [] (mkH hi hl sw kp) :=
  cW.run (am_in [18, 24, 64, 69, 83]) 2 (And.intro (Or.inr rfl) (cQ.of (h1)))
-- 130: DogDecrees.draws(I)I
set_option maxRecDepth 100000 in
theorem k_130_0 {x1 : Int32}
    (h1 : (g_108 hi x1) = 0 → Q (some (.int (-1))) (mkH hi hl sw kp))
    (h2 : ¬ ((g_108 hi x1) = 0) → (g_108 hi (hi 28 0)) = 0 → Q (some (.int (-1))) (mkH hi hl sw kp))
    (h3 : ¬ ((g_108 hi x1) = 0) → ¬ ((g_108 hi (hi 28 0)) = 0) → cS (d + 2) 37 [(.ref 256), (.int (g_84 hi)), (.int (1))] (mkH hi hl sw kp) (am_ret (cW cd_130 (d + 2) Q) 45 [some (.ref 0), some (.int x1)] []))
    : cW cd_130 (d + 2) Q 0 [some (.ref 0), some (.int x1)] [] (mkH hi hl sw kp) :=
  cW.run (am_in [45]) 19 (cC.of (s_108 (And.intro (fun c1 => (cQ.of (h1 c1))) (fun c2 => (cC.of (s_108 (And.intro (fun c3 => (cQ.of (h2 c2 c3))) (fun c4 => (cC.of (s_84 (cC.of (h3 c2 c4))))))))))))
theorem e_130 {x1 : Int32}
    (h1 : (g_108 hi x1) = 0 → Q (some (.int (-1))) (mkH hi hl sw kp))
    (h2 : ¬ ((g_108 hi x1) = 0) → (g_108 hi (hi 28 0)) = 0 → Q (some (.int (-1))) (mkH hi hl sw kp))
    (h3 : ¬ ((g_108 hi x1) = 0) → ¬ ((g_108 hi (hi 28 0)) = 0) → cS (d + 2) 37 [(.ref 256), (.int (g_84 hi)), (.int (1))] (mkH hi hl sw kp) (am_ret (cW cd_130 (d + 2) Q) 45 [some (.ref 0), some (.int x1)] []))
    : cS ((d + 2) + 1) 130 [(.ref 0), (.int x1)] (mkH hi hl sw kp) Q := cS.of rfl (k_130_0 h1 h2 h3)
set_option maxRecDepth 100000 in
theorem k_130_45 {x1 : Int32}
    (h1 : ¬ ((0 : Int32) < 0) → ¬ ((8) ≤ (0 : Int32)) → ¬ ((g_108 hi (hi 28 0)) = 0) → ¬ ((g_108 hi x1) = 0) → vp_in (((((0 : Int32) * (8)) + (hi 28 0)) * (8)) + x1) 512)
    (h2 : Q (some (.int (g_43 hi (0 : Int32) (hi 28 0) x1))) (mkH hi hl sw kp))
    : cW cd_130 (d + 2) Q 45 [some (.ref 0), some (.int x1)] [] (mkH hi hl sw kp) :=
  cW.run (am_in [45]) 9 (cC.of (s_43 (h1) (cQ.of (h2))))
-- 131: DogDecrees.hour()I
set_option maxRecDepth 100000 in
theorem k_131_0
    (h1 : (g_108 hi (hi 28 0)) = 0 → Q (some (.int (-1))) (mkH hi hl sw kp))
    (h2 : ¬ ((g_108 hi (hi 28 0)) = 0) → (hi 28 1) < (2000) → cS (d + 2) 2 [(.ref 33), (.ref 28)] (mkH hi hl sw kp) (am_ret (cW cd_131 (d + 2) Q) 43 [some (.ref 0)] []))
    (h3 : ¬ ((g_108 hi (hi 28 0)) = 0) → ¬ ((hi 28 1) < (2000)) → Q (some (.int (-1))) (mkH hi hl sw kp))
    : cW cd_131 (d + 2) Q 0 [some (.ref 0)] [] (mkH hi hl sw kp) :=
  cW.run (am_in [43, 83, 115, 118]) 17 (cC.of (s_108 (And.intro (fun c1 => (cQ.of (h1 c1))) (fun c2 => (And.intro (fun c3 => (cC.of (h2 c2 c3))) (fun c4 => (cQ.of (h3 c2 c4))))))))
theorem e_131
    (h1 : (g_108 hi (hi 28 0)) = 0 → Q (some (.int (-1))) (mkH hi hl sw kp))
    (h2 : ¬ ((g_108 hi (hi 28 0)) = 0) → (hi 28 1) < (2000) → cS (d + 2) 2 [(.ref 33), (.ref 28)] (mkH hi hl sw kp) (am_ret (cW cd_131 (d + 2) Q) 43 [some (.ref 0)] []))
    (h3 : ¬ ((g_108 hi (hi 28 0)) = 0) → ¬ ((hi 28 1) < (2000)) → Q (some (.int (-1))) (mkH hi hl sw kp))
    : cS ((d + 2) + 1) 131 [(.ref 0)] (mkH hi hl sw kp) Q := cS.of rfl (k_131_0 h1 h2 h3)
set_option maxRecDepth 100000 in
theorem k_131_43
    (h1 : cS (d + 2) 37 [(.ref 256), (.int (g_84 ((u2 hi 28 2 ((((hi 28 2) * (137)) + (71)) - (((hi 28 2) * (137)) + (71)) / (1000) * (1000)))))), (.int (1))] (mkH (u2 hi 28 2 ((((hi 28 2) * (137)) + (71)) - (((hi 28 2) * (137)) + (71)) / (1000) * (1000))) hl sw kp) (am_ret (cW cd_131 (d + 2) Q) 83 [some (.ref 0)] []))
    : cW cd_131 (d + 2) Q 43 [some (.ref 0)] [] (mkH hi hl sw kp) :=
  cW.run (am_in [43, 83, 115, 118]) 19 (And.intro (show ¬ ((1000) : Int32) = 0 by decide +kernel) (cC.of (s_84 (cC.of (h1)))))
set_option maxRecDepth 100000 in
theorem k_131_83
    (h1 : cS (d + 2) 44 [(.ref 256), (.int (hi 28 0)), (.int ((hi 28 2) - (hi 28 2) / (60) * (60)))] (mkH hi hl sw kp) (am_ret (cW cd_131 (d + 2) Q) 115 [some (.ref 0)] [(.ref 19), (.ref 28)]))
    : cW cd_131 (d + 2) Q 83 [some (.ref 0)] [] (mkH hi hl sw kp) :=
  cW.run (am_in [43, 83, 115, 118]) 15 (And.intro (show ¬ ((60) : Int32) = 0 by decide +kernel) (cC.of (h1)))
set_option maxRecDepth 100000 in
theorem k_131_115 {s2 : Int32}
    (h1 : cS (d + 2) 81 [(.ref 28), (.ref 19), (.int s2)] (mkH hi hl sw kp) (am_ret (cW cd_131 (d + 2) Q) 118 [some (.ref 0)] []))
    : cW cd_131 (d + 2) Q 115 [some (.ref 0)] [(.int s2), (.ref 19), (.ref 28)] (mkH hi hl sw kp) :=
  cW.run (am_in [43, 83, 115, 118]) 1 (cC.of (h1))
set_option maxRecDepth 100000 in
theorem k_131_118
    (h1 : Q (some (.int (hi 28 0))) (mkH hi hl sw kp))
    : cW cd_131 (d + 2) Q 118 [some (.ref 0)] [] (mkH hi hl sw kp) :=
  cW.run (am_in [43, 83, 115, 118]) 4 (cQ.of (h1))
-- 136: DogDecrees.where(III)J
set_option maxRecDepth 100000 in
theorem k_136_0 {x1 : Int32} {x2 : Int32} {x3 : Int32}
    (h1 : (g_108 hi x1) = 0 → Q (some (.long (-1))) (mkH hi hl sw kp))
    (h2 : ¬ ((g_108 hi x1) = 0) → (g_158 x2 (0 : Int32) (8 : Int32)) = 0 → Q (some (.long (-1))) (mkH hi hl sw kp))
    (h3 : ¬ ((g_108 hi x1) = 0) → ¬ ((g_158 x2 (0 : Int32) (8 : Int32)) = 0) → (g_158 x3 (0 : Int32) (1 : Int32)) = 0 → Q (some (.long (-1))) (mkH hi hl sw kp))
    (h4 : ¬ ((g_108 hi x1) = 0) → ¬ ((g_158 x2 (0 : Int32) (8 : Int32)) = 0) → ¬ ((g_158 x3 (0 : Int32) (1 : Int32)) = 0) → cS (d + 2) 37 [(.ref 256), (.int (g_84 hi)), (.int x2)] (mkH hi hl sw kp) (am_ret (cW cd_136 (d + 2) Q) 49 [some (.ref 0), some (.int x1), some (.int x2), some (.int x3)] []))
    : cW cd_136 (d + 2) Q 0 [some (.ref 0), some (.int x1), some (.int x2), some (.int x3)] [] (mkH hi hl sw kp) :=
  cW.run (am_in [49, 64, 72, 81]) 22 (cC.of (s_108 (And.intro (fun c1 => (cQ.of (h1 c1))) (fun c2 => (cC.of (s_158 (And.intro (fun c3 => (cQ.of (h2 c2 c3))) (fun c4 => (cC.of (s_158 (And.intro (fun c5 => (cQ.of (h3 c2 c4 c5))) (fun c6 => (cC.of (s_84 (cC.of (h4 c2 c4 c6))))))))))))))))
theorem e_136 {x1 : Int32} {x2 : Int32} {x3 : Int32}
    (h1 : (g_108 hi x1) = 0 → Q (some (.long (-1))) (mkH hi hl sw kp))
    (h2 : ¬ ((g_108 hi x1) = 0) → (g_158 x2 (0 : Int32) (8 : Int32)) = 0 → Q (some (.long (-1))) (mkH hi hl sw kp))
    (h3 : ¬ ((g_108 hi x1) = 0) → ¬ ((g_158 x2 (0 : Int32) (8 : Int32)) = 0) → (g_158 x3 (0 : Int32) (1 : Int32)) = 0 → Q (some (.long (-1))) (mkH hi hl sw kp))
    (h4 : ¬ ((g_108 hi x1) = 0) → ¬ ((g_158 x2 (0 : Int32) (8 : Int32)) = 0) → ¬ ((g_158 x3 (0 : Int32) (1 : Int32)) = 0) → cS (d + 2) 37 [(.ref 256), (.int (g_84 hi)), (.int x2)] (mkH hi hl sw kp) (am_ret (cW cd_136 (d + 2) Q) 49 [some (.ref 0), some (.int x1), some (.int x2), some (.int x3)] []))
    : cS ((d + 2) + 1) 136 [(.ref 0), (.int x1), (.int x2), (.int x3)] (mkH hi hl sw kp) Q := cS.of rfl (k_136_0 h1 h2 h3 h4)
set_option maxRecDepth 100000 in
theorem k_136_49 {x1 : Int32} {x2 : Int32} {x3 : Int32}
    (h1 : cS (d + 2) 46 [(.ref 256), (.int (hi 28 0)), (.int x2)] (mkH hi hl sw kp) (am_ret (cW cd_136 (d + 2) Q) 64 [some (.ref 0), some (.int x1), some (.int x2), some (.int x3)] []))
    : cW cd_136 (d + 2) Q 49 [some (.ref 0), some (.int x1), some (.int x2), some (.int x3)] [] (mkH hi hl sw kp) :=
  cW.run (am_in [49, 64, 72, 81]) 7 (cC.of (h1))
set_option maxRecDepth 100000 in
theorem k_136_64 {x1 : Int32} {x2 : Int32} {x3 : Int32}
    (h1 : cS (d + 2) 47 [(.ref 256), (.int x1)] (mkH hi hl sw kp) (am_ret (cW cd_136 (d + 2) Q) 72 [some (.ref 0), some (.int x1), some (.int x2), some (.int x3)] []))
    : cW cd_136 (d + 2) Q 64 [some (.ref 0), some (.int x1), some (.int x2), some (.int x3)] [] (mkH hi hl sw kp) :=
  cW.run (am_in [49, 64, 72, 81]) 4 (cC.of (h1))
set_option maxRecDepth 100000 in
theorem k_136_72 {x1 : Int32} {x2 : Int32} {x3 : Int32} {s0 : Int64}
    (h1 : vp_in x2 9)
    (h2 : cS (d + 2) 160 [(.long s0), (.long (am_pow x2.toNatClampNeg)), (.int x3)] (mkH hi hl sw kp) (am_ret (cW cd_136 (d + 2) Q) 81 [some (.ref 0), some (.int x1), some (.int x2), some (.int x3)] []))
    : cW cd_136 (d + 2) Q 72 [some (.ref 0), some (.int x1), some (.int x2), some (.int x3)] [(.long s0)] (mkH hi hl sw kp) :=
  cW.run (am_in [49, 64, 72, 81]) 5 (And.intro (h1) (cC.of (h2)))
set_option maxRecDepth 100000 in
theorem k_136_81 {x1 : Int32} {x2 : Int32} {x3 : Int32} {s0 : Int64}
    (h1 : Q (some (.long s0)) (mkH hi hl sw kp))
    : cW cd_136 (d + 2) Q 81 [some (.ref 0), some (.int x1), some (.int x2), some (.int x3)] [(.long s0)] (mkH hi hl sw kp) :=
  cW.run (am_in [49, 64, 72, 81]) 1 (cQ.of (h1))
-- 137: DogDecrees.pass(III)J
set_option maxRecDepth 100000 in
theorem k_137_0 {x1 : Int32} {x2 : Int32} {x3 : Int32}
    (h1 : (g_109 hi x1) = 0 → Q (some (.long (-1))) (mkH hi hl sw kp))
    (h2 : ¬ ((g_109 hi x1) = 0) → (g_158 x2 (0 : Int32) (8 : Int32)) = 0 → Q (some (.long (-1))) (mkH hi hl sw kp))
    (h3 : ¬ ((g_109 hi x1) = 0) → ¬ ((g_158 x2 (0 : Int32) (8 : Int32)) = 0) → (g_158 x3 (0 : Int32) (1 : Int32)) = 0 → Q (some (.long (-1))) (mkH hi hl sw kp))
    (h4 : ¬ ((g_109 hi x1) = 0) → ¬ ((g_158 x2 (0 : Int32) (8 : Int32)) = 0) → ¬ ((g_158 x3 (0 : Int32) (1 : Int32)) = 0) → cS (d + 2) 37 [(.ref 256), (.int (g_84 hi)), (.int x2)] (mkH hi hl sw kp) (am_ret (cW cd_137 (d + 2) Q) 49 [some (.ref 0), some (.int x1), some (.int x2), some (.int x3)] []))
    : cW cd_137 (d + 2) Q 0 [some (.ref 0), some (.int x1), some (.int x2), some (.int x3)] [] (mkH hi hl sw kp) :=
  cW.run (am_in [49, 57, 72, 81]) 22 (cC.of (s_109 (And.intro (fun c1 => (cQ.of (h1 c1))) (fun c2 => (cC.of (s_158 (And.intro (fun c3 => (cQ.of (h2 c2 c3))) (fun c4 => (cC.of (s_158 (And.intro (fun c5 => (cQ.of (h3 c2 c4 c5))) (fun c6 => (cC.of (s_84 (cC.of (h4 c2 c4 c6))))))))))))))))
theorem e_137 {x1 : Int32} {x2 : Int32} {x3 : Int32}
    (h1 : (g_109 hi x1) = 0 → Q (some (.long (-1))) (mkH hi hl sw kp))
    (h2 : ¬ ((g_109 hi x1) = 0) → (g_158 x2 (0 : Int32) (8 : Int32)) = 0 → Q (some (.long (-1))) (mkH hi hl sw kp))
    (h3 : ¬ ((g_109 hi x1) = 0) → ¬ ((g_158 x2 (0 : Int32) (8 : Int32)) = 0) → (g_158 x3 (0 : Int32) (1 : Int32)) = 0 → Q (some (.long (-1))) (mkH hi hl sw kp))
    (h4 : ¬ ((g_109 hi x1) = 0) → ¬ ((g_158 x2 (0 : Int32) (8 : Int32)) = 0) → ¬ ((g_158 x3 (0 : Int32) (1 : Int32)) = 0) → cS (d + 2) 37 [(.ref 256), (.int (g_84 hi)), (.int x2)] (mkH hi hl sw kp) (am_ret (cW cd_137 (d + 2) Q) 49 [some (.ref 0), some (.int x1), some (.int x2), some (.int x3)] []))
    : cS ((d + 2) + 1) 137 [(.ref 0), (.int x1), (.int x2), (.int x3)] (mkH hi hl sw kp) Q := cS.of rfl (k_137_0 h1 h2 h3 h4)
set_option maxRecDepth 100000 in
theorem k_137_49 {x1 : Int32} {x2 : Int32} {x3 : Int32}
    (h1 : cS (d + 2) 50 [(.ref 256), (.int x1)] (mkH hi hl sw kp) (am_ret (cW cd_137 (d + 2) Q) 57 [some (.ref 0), some (.int x1), some (.int x2), some (.int x3)] []))
    : cW cd_137 (d + 2) Q 49 [some (.ref 0), some (.int x1), some (.int x2), some (.int x3)] [] (mkH hi hl sw kp) :=
  cW.run (am_in [49, 57, 72, 81]) 4 (cC.of (h1))
set_option maxRecDepth 100000 in
theorem k_137_57 {x1 : Int32} {x2 : Int32} {x3 : Int32}
    (h1 : cS (d + 2) 49 [(.ref 256), (.int (hi 28 0)), (.int x2)] (mkH hi hl sw kp) (am_ret (cW cd_137 (d + 2) Q) 72 [some (.ref 0), some (.int x1), some (.int x2), some (.int x3)] []))
    : cW cd_137 (d + 2) Q 57 [some (.ref 0), some (.int x1), some (.int x2), some (.int x3)] [] (mkH hi hl sw kp) :=
  cW.run (am_in [49, 57, 72, 81]) 7 (cC.of (h1))
set_option maxRecDepth 100000 in
theorem k_137_72 {x1 : Int32} {x2 : Int32} {x3 : Int32} {s0 : Int64}
    (h1 : vp_in x2 9)
    (h2 : cS (d + 2) 160 [(.long s0), (.long (am_pow x2.toNatClampNeg)), (.int x3)] (mkH hi hl sw kp) (am_ret (cW cd_137 (d + 2) Q) 81 [some (.ref 0), some (.int x1), some (.int x2), some (.int x3)] []))
    : cW cd_137 (d + 2) Q 72 [some (.ref 0), some (.int x1), some (.int x2), some (.int x3)] [(.long s0)] (mkH hi hl sw kp) :=
  cW.run (am_in [49, 57, 72, 81]) 5 (And.intro (h1) (cC.of (h2)))
set_option maxRecDepth 100000 in
theorem k_137_81 {x1 : Int32} {x2 : Int32} {x3 : Int32} {s0 : Int64}
    (h1 : Q (some (.long s0)) (mkH hi hl sw kp))
    : cW cd_137 (d + 2) Q 81 [some (.ref 0), some (.int x1), some (.int x2), some (.int x3)] [(.long s0)] (mkH hi hl sw kp) :=
  cW.run (am_in [49, 57, 72, 81]) 1 (cQ.of (h1))
-- 138: DogDecrees.likely(I)I
set_option maxRecDepth 100000 in
theorem k_138_0 {x1 : Int32}
    (h1 : (g_158 x1 (0 : Int32) (8 : Int32)) = 0 → Q (some (.int (-1))) (mkH hi hl sw kp))
    (h2 : ¬ ((g_158 x1 (0 : Int32) (8 : Int32)) = 0) → cS (d + 2) 37 [(.ref 256), (.int (g_84 hi)), (.int x1)] (mkH hi hl sw kp) (am_ret (cW cd_138 (d + 2) Q) 27 [some (.ref 0), some (.int x1), none, none, none, none, none, none] []))
    : cW cd_138 (d + 2) Q 0 [some (.ref 0), some (.int x1), none, none, none, none, none, none] [] (mkH hi hl sw kp) :=
  cW.run (am_in [27, 42, 51, 72]) 12 (cC.of (s_158 (And.intro (fun c1 => (cQ.of (h1 c1))) (fun c2 => (cC.of (s_84 (cC.of (h2 c2))))))))
theorem e_138 {x1 : Int32}
    (h1 : (g_158 x1 (0 : Int32) (8 : Int32)) = 0 → Q (some (.int (-1))) (mkH hi hl sw kp))
    (h2 : ¬ ((g_158 x1 (0 : Int32) (8 : Int32)) = 0) → cS (d + 2) 37 [(.ref 256), (.int (g_84 hi)), (.int x1)] (mkH hi hl sw kp) (am_ret (cW cd_138 (d + 2) Q) 27 [some (.ref 0), some (.int x1), none, none, none, none, none, none] []))
    : cS ((d + 2) + 1) 138 [(.ref 0), (.int x1)] (mkH hi hl sw kp) Q := cS.of rfl (k_138_0 h1 h2)
set_option maxRecDepth 100000 in
theorem k_138_27 {x1 : Int32}
    (h1 : cS (d + 2) 46 [(.ref 256), (.int (hi 28 0)), (.int x1)] (mkH hi hl sw kp) (am_ret (cW cd_138 (d + 2) Q) 42 [some (.ref 0), some (.int x1), none, none, none, none, none, none] []))
    : cW cd_138 (d + 2) Q 27 [some (.ref 0), some (.int x1), none, none, none, none, none, none] [] (mkH hi hl sw kp) :=
  cW.run (am_in [27, 42, 51, 72]) 7 (cC.of (h1))
set_option maxRecDepth 100000 in
theorem k_138_42 {x1 : Int32}
    (h1 : cW cd_138 (d + 2) Q 51 [some (.ref 0), some (.int x1), some (.int (-1)), some (.long (-1)), none, some (.int (0)), none, none] [] (mkH hi hl sw kp))
    : cW cd_138 (d + 2) Q 42 [some (.ref 0), some (.int x1), none, none, none, none, none, none] [] (mkH hi hl sw kp) :=
  cW.run (am_in [27, 42, 51, 72]) 6 (And.intro (Nat.le_of_ble_eq_true rfl) (And.intro (Nat.le_of_ble_eq_true rfl) (And.intro (Nat.le_of_ble_eq_true rfl) (h1))))
set_option maxRecDepth 100000 in
theorem k_138_51 {x1 : Int32} {x2 : Int32} {x3 : Int64} {x5 : Int32} {o6 : Option Value}
    (h1 : (hi 19 1) ≤ x5 → Q (some (.int x2)) (mkH hi hl sw kp))
    (h2 : ¬ ((hi 19 1) ≤ x5) → cS (d + 2) 47 [(.ref 256), (.int x5)] (mkH hi hl sw kp) (am_ret (cW cd_138 (d + 2) Q) 72 [some (.ref 0), some (.int x1), some (.int x2), some (.long x3), none, some (.int x5), o6, none] []))
    : cW cd_138 (d + 2) Q 51 [some (.ref 0), some (.int x1), some (.int x2), some (.long x3), none, some (.int x5), o6, none] [] (mkH hi hl sw kp) :=
  cW.run (am_in [27, 42, 51, 72]) 9 (And.intro (fun c1 => (cQ.of (h1 c1))) (fun c2 => (cC.of (h2 c2))))
set_option maxRecDepth 100000 in
theorem k_138_72 {x1 : Int32} {x2 : Int32} {x3 : Int64} {x5 : Int32} {o6 : Option Value} {s0 : Int64}
    (h1 : (lg_cmp s0 x3) ≤ 0 → cW cd_138 (d + 2) Q 51 [some (.ref 0), some (.int x1), some (.int x2), some (.long x3), none, some (.int (x5 + (1))), some (.long s0), none] [] (mkH hi hl sw kp))
    (h2 : ¬ ((lg_cmp s0 x3) ≤ 0) → cW cd_138 (d + 2) Q 51 [some (.ref 0), some (.int x1), some (.int x5), some (.long s0), none, some (.int (x5 + (1))), some (.long s0), none] [] (mkH hi hl sw kp))
    : cW cd_138 (d + 2) Q 72 [some (.ref 0), some (.int x1), some (.int x2), some (.long x3), none, some (.int x5), o6, none] [(.long s0)] (mkH hi hl sw kp) :=
  cW.run (am_in [27, 42, 51, 72]) 11 (And.intro (Nat.le_of_ble_eq_true rfl) (And.intro (fun c1 => (And.intro (Nat.le_of_ble_eq_true rfl) (h1 c1))) (fun c2 => (And.intro (Nat.le_of_ble_eq_true rfl) (And.intro (Nat.le_of_ble_eq_true rfl) (And.intro (Nat.le_of_ble_eq_true rfl) (h2 c2)))))))
-- 139: DogDecrees.soon(I)I
set_option maxRecDepth 100000 in
theorem k_139_0 {x1 : Int32}
    (h1 : (g_109 hi x1) = 0 → Q (some (.int (-1))) (mkH hi hl sw kp))
    (h2 : ¬ ((g_109 hi x1) = 0) → cS (d + 2) 37 [(.ref 256), (.int (g_84 hi)), (.int (8))] (mkH hi hl sw kp) (am_ret (cW cd_139 (d + 2) Q) 29 [some (.ref 0), some (.int x1), none] []))
    : cW cd_139 (d + 2) Q 0 [some (.ref 0), some (.int x1), none] [] (mkH hi hl sw kp) :=
  cW.run (am_in [29, 37, 39, 60]) 12 (cC.of (s_109 (And.intro (fun c1 => (cQ.of (h1 c1))) (fun c2 => (cC.of (s_84 (cC.of (h2 c2))))))))
theorem e_139 {x1 : Int32}
    (h1 : (g_109 hi x1) = 0 → Q (some (.int (-1))) (mkH hi hl sw kp))
    (h2 : ¬ ((g_109 hi x1) = 0) → cS (d + 2) 37 [(.ref 256), (.int (g_84 hi)), (.int (8))] (mkH hi hl sw kp) (am_ret (cW cd_139 (d + 2) Q) 29 [some (.ref 0), some (.int x1), none] []))
    : cS ((d + 2) + 1) 139 [(.ref 0), (.int x1)] (mkH hi hl sw kp) Q := cS.of rfl (k_139_0 h1 h2)
set_option maxRecDepth 100000 in
theorem k_139_29 {x1 : Int32}
    (h1 : cS (d + 2) 50 [(.ref 256), (.int x1)] (mkH hi hl sw kp) (am_ret (cW cd_139 (d + 2) Q) 37 [some (.ref 0), some (.int x1), none] []))
    : cW cd_139 (d + 2) Q 29 [some (.ref 0), some (.int x1), none] [] (mkH hi hl sw kp) :=
  cW.run (am_in [29, 37, 39, 60]) 4 (cC.of (h1))
set_option maxRecDepth 100000 in
theorem k_139_37 {x1 : Int32}
    (h1 : cW cd_139 (d + 2) Q 39 [some (.ref 0), some (.int x1), some (.int (0))] [] (mkH hi hl sw kp))
    : cW cd_139 (d + 2) Q 37 [some (.ref 0), some (.int x1), none] [] (mkH hi hl sw kp) :=
  cW.run (am_in [29, 37, 39, 60]) 2 (And.intro (Nat.le_of_ble_eq_true rfl) (h1))
set_option maxRecDepth 100000 in
theorem k_139_39 {x1 : Int32} {x2 : Int32}
    (h1 : (8) < x2 → Q (some (.int (-1))) (mkH hi hl sw kp))
    (h2 : ¬ ((8) < x2) → cS (d + 2) 49 [(.ref 256), (.int (hi 28 0)), (.int x2)] (mkH hi hl sw kp) (am_ret (cW cd_139 (d + 2) Q) 60 [some (.ref 0), some (.int x1), some (.int x2)] []))
    : cW cd_139 (d + 2) Q 39 [some (.ref 0), some (.int x1), some (.int x2)] [] (mkH hi hl sw kp) :=
  cW.run (am_in [29, 37, 39, 60]) 10 (And.intro (fun c1 => (cQ.of (h1 c1))) (fun c2 => (cC.of (h2 c2))))
set_option maxRecDepth 100000 in
theorem k_139_60 {x1 : Int32} {x2 : Int32} {s0 : Int64}
    (h1 : ¬ ((g_158 x2 (0 : Int32) (8 : Int32)) = 0) → vp_in x2 9)
    (h2 : (g_159 s0 x2) = 0 → cW cd_139 (d + 2) Q 39 [some (.ref 0), some (.int x1), some (.int (x2 + (1)))] [] (mkH hi hl sw kp))
    (h3 : ¬ ((g_159 s0 x2) = 0) → Q (some (.int x2)) (mkH hi hl sw kp))
    : cW cd_139 (d + 2) Q 60 [some (.ref 0), some (.int x1), some (.int x2)] [(.long s0)] (mkH hi hl sw kp) :=
  cW.run (am_in [29, 37, 39, 60]) 5 (cC.of (s_159 (h1) (And.intro (fun c1 => (And.intro (Nat.le_of_ble_eq_true rfl) (h2 c1))) (fun c2 => (cQ.of (h3 c2))))))
-- 142: DogDecrees.byTurns(III)I
set_option maxRecDepth 100000 in
theorem k_142_0 {x1 : Int32} {x2 : Int32} {x3 : Int32}
    (h1 : (g_109 hi x1) = 0 → Q (some (.int (-1))) (mkH hi hl sw kp))
    (h2 : ¬ ((g_109 hi x1) = 0) → (g_158 x2 (1 : Int32) (6 : Int32)) = 0 → Q (some (.int (-1))) (mkH hi hl sw kp))
    (h3 : ¬ ((g_109 hi x1) = 0) → ¬ ((g_158 x2 (1 : Int32) (6 : Int32)) = 0) → (g_158 x3 (0 : Int32) (1 : Int32)) = 0 → Q (some (.int (-1))) (mkH hi hl sw kp))
    (h4 : ¬ ((g_109 hi x1) = 0) → ¬ ((g_158 x2 (1 : Int32) (6 : Int32)) = 0) → ¬ ((g_158 x3 (0 : Int32) (1 : Int32)) = 0) → cS (d + 1) 16 [(.ref 264), (.int x1), (.int x2), (.int (2))] (mkH hi hl sw kp) (am_ret (cW cd_142 (d + 1) Q) 42 [some (.ref 0), some (.int x1), some (.int x2), some (.int x3)] []))
    : cW cd_142 (d + 1) Q 0 [some (.ref 0), some (.int x1), some (.int x2), some (.int x3)] [] (mkH hi hl sw kp) :=
  cW.run (am_in [42, 49]) 21 (cC.of (s_109 (And.intro (fun c1 => (cQ.of (h1 c1))) (fun c2 => (cC.of (s_158 (And.intro (fun c3 => (cQ.of (h2 c2 c3))) (fun c4 => (cC.of (s_158 (And.intro (fun c5 => (cQ.of (h3 c2 c4 c5))) (fun c6 => (cC.of (h4 c2 c4 c6))))))))))))))
theorem e_142 {x1 : Int32} {x2 : Int32} {x3 : Int32}
    (h1 : (g_109 hi x1) = 0 → Q (some (.int (-1))) (mkH hi hl sw kp))
    (h2 : ¬ ((g_109 hi x1) = 0) → (g_158 x2 (1 : Int32) (6 : Int32)) = 0 → Q (some (.int (-1))) (mkH hi hl sw kp))
    (h3 : ¬ ((g_109 hi x1) = 0) → ¬ ((g_158 x2 (1 : Int32) (6 : Int32)) = 0) → (g_158 x3 (0 : Int32) (1 : Int32)) = 0 → Q (some (.int (-1))) (mkH hi hl sw kp))
    (h4 : ¬ ((g_109 hi x1) = 0) → ¬ ((g_158 x2 (1 : Int32) (6 : Int32)) = 0) → ¬ ((g_158 x3 (0 : Int32) (1 : Int32)) = 0) → cS (d + 1) 16 [(.ref 264), (.int x1), (.int x2), (.int (2))] (mkH hi hl sw kp) (am_ret (cW cd_142 (d + 1) Q) 42 [some (.ref 0), some (.int x1), some (.int x2), some (.int x3)] []))
    : cS ((d + 1) + 1) 142 [(.ref 0), (.int x1), (.int x2), (.int x3)] (mkH hi hl sw kp) Q := cS.of rfl (k_142_0 h1 h2 h3 h4)
set_option maxRecDepth 100000 in
theorem k_142_42 {x1 : Int32} {x2 : Int32} {x3 : Int32}
    (h1 : cS (d + 1) 21 [(.ref 264)] (mkH hi hl sw kp) (am_ret (cW cd_142 (d + 1) Q) 49 [some (.ref 0), some (.int x1), some (.int x2), some (.int x3)] []))
    : cW cd_142 (d + 1) Q 42 [some (.ref 0), some (.int x1), some (.int x2), some (.int x3)] [] (mkH hi hl sw kp) :=
  cW.run (am_in [42, 49]) 3 (cC.of (h1))
set_option maxRecDepth 100000 in
theorem k_142_49 {x1 : Int32} {x2 : Int32} {x3 : Int32}
    (h1 : x3 = 0 → Q (some (.int (hi 264 5))) (mkH hi hl sw kp))
    (h2 : ¬ (x3 = 0) → Q (some (.int (hi 264 6))) (mkH hi hl sw kp))
    : cW cd_142 (d + 1) Q 49 [some (.ref 0), some (.int x1), some (.int x2), some (.int x3)] [] (mkH hi hl sw kp) :=
  cW.run (am_in [42, 49]) 7 (And.intro (fun c1 => (cQ.of (h1 c1))) (fun c2 => (cQ.of (h2 c2))))
-- 143: DogDecrees.council(II)I
set_option maxRecDepth 100000 in
theorem k_143_0 {x1 : Int32} {x2 : Int32}
    (h1 : (g_109 hi x1) = 0 → Q (some (.int (-1))) (mkH hi hl sw kp))
    (h2 : ¬ ((g_109 hi x1) = 0) → (g_158 x2 (0 : Int32) (8 : Int32)) = 0 → Q (some (.int (-1))) (mkH hi hl sw kp))
    (h3 : ¬ ((g_109 hi x1) = 0) → ¬ ((g_158 x2 (0 : Int32) (8 : Int32)) = 0) → cS (d + 2) 37 [(.ref 256), (.int (255)), (.int x2)] (mkH hi hl sw kp) (am_ret (cW cd_143 (d + 2) Q) 34 [some (.ref 0), some (.int x1), some (.int x2), none, none] []))
    : cW cd_143 (d + 2) Q 0 [some (.ref 0), some (.int x1), some (.int x2), none, none] [] (mkH hi hl sw kp) :=
  cW.run (am_in [34, 42, 47, 69]) 15 (cC.of (s_109 (And.intro (fun c1 => (cQ.of (h1 c1))) (fun c2 => (cC.of (s_158 (And.intro (fun c3 => (cQ.of (h2 c2 c3))) (fun c4 => (cC.of (h3 c2 c4))))))))))
theorem e_143 {x1 : Int32} {x2 : Int32}
    (h1 : (g_109 hi x1) = 0 → Q (some (.int (-1))) (mkH hi hl sw kp))
    (h2 : ¬ ((g_109 hi x1) = 0) → (g_158 x2 (0 : Int32) (8 : Int32)) = 0 → Q (some (.int (-1))) (mkH hi hl sw kp))
    (h3 : ¬ ((g_109 hi x1) = 0) → ¬ ((g_158 x2 (0 : Int32) (8 : Int32)) = 0) → cS (d + 2) 37 [(.ref 256), (.int (255)), (.int x2)] (mkH hi hl sw kp) (am_ret (cW cd_143 (d + 2) Q) 34 [some (.ref 0), some (.int x1), some (.int x2), none, none] []))
    : cS ((d + 2) + 1) 143 [(.ref 0), (.int x1), (.int x2)] (mkH hi hl sw kp) Q := cS.of rfl (k_143_0 h1 h2 h3)
set_option maxRecDepth 100000 in
theorem k_143_34 {x1 : Int32} {x2 : Int32}
    (h1 : cS (d + 2) 50 [(.ref 256), (.int x1)] (mkH hi hl sw kp) (am_ret (cW cd_143 (d + 2) Q) 42 [some (.ref 0), some (.int x1), some (.int x2), none, none] []))
    : cW cd_143 (d + 2) Q 34 [some (.ref 0), some (.int x1), some (.int x2), none, none] [] (mkH hi hl sw kp) :=
  cW.run (am_in [34, 42, 47, 69]) 4 (cC.of (h1))
set_option maxRecDepth 100000 in
theorem k_143_42 {x1 : Int32} {x2 : Int32}
    (h1 : cW cd_143 (d + 2) Q 47 [some (.ref 0), some (.int x1), some (.int x2), some (.int (0)), some (.int (0))] [] (mkH hi hl sw kp))
    : cW cd_143 (d + 2) Q 42 [some (.ref 0), some (.int x1), some (.int x2), none, none] [] (mkH hi hl sw kp) :=
  cW.run (am_in [34, 42, 47, 69]) 4 (And.intro (Nat.le_of_ble_eq_true rfl) (And.intro (Nat.le_of_ble_eq_true rfl) (h1)))
set_option maxRecDepth 100000 in
theorem k_143_47 {x1 : Int32} {x2 : Int32} {x3 : Int32} {x4 : Int32}
    (h1 : (hi 19 1) ≤ x4 → Q (some (.int x3)) (mkH hi hl sw kp))
    (h2 : ¬ ((hi 19 1) ≤ x4) → cS (d + 2) 49 [(.ref 256), (.int x4), (.int x2)] (mkH hi hl sw kp) (am_ret (cW cd_143 (d + 2) Q) 69 [some (.ref 0), some (.int x1), some (.int x2), some (.int x3), some (.int x4)] []))
    : cW cd_143 (d + 2) Q 47 [some (.ref 0), some (.int x1), some (.int x2), some (.int x3), some (.int x4)] [] (mkH hi hl sw kp) :=
  cW.run (am_in [34, 42, 47, 69]) 10 (And.intro (fun c1 => (cQ.of (h1 c1))) (fun c2 => (cC.of (h2 c2))))
set_option maxRecDepth 100000 in
theorem k_143_69 {x1 : Int32} {x2 : Int32} {x3 : Int32} {x4 : Int32} {s0 : Int64}
    (h1 : ¬ ((g_158 x2 (0 : Int32) (8 : Int32)) = 0) → vp_in x2 9)
    (h2 : (g_159 s0 x2) = 0 → cW cd_143 (d + 2) Q 47 [some (.ref 0), some (.int x1), some (.int x2), some (.int x3), some (.int (x4 + (1)))] [] (mkH hi hl sw kp))
    (h3 : ¬ ((g_159 s0 x2) = 0) → cW cd_143 (d + 2) Q 47 [some (.ref 0), some (.int x1), some (.int x2), some (.int (x3 ||| ((1) <<< (x4 &&& 31)))), some (.int (x4 + (1)))] [] (mkH hi hl sw kp))
    : cW cd_143 (d + 2) Q 69 [some (.ref 0), some (.int x1), some (.int x2), some (.int x3), some (.int x4)] [(.long s0)] (mkH hi hl sw kp) :=
  cW.run (am_in [34, 42, 47, 69]) 11 (cC.of (s_159 (h1) (And.intro (fun c1 => (And.intro (Nat.le_of_ble_eq_true rfl) (h2 c1))) (fun c2 => (And.intro (Nat.le_of_ble_eq_true rfl) (And.intro (Nat.le_of_ble_eq_true rfl) (h3 c2)))))))
-- 144: DogDecrees.haunt()I
set_option maxRecDepth 100000 in
theorem k_144_0
    (h1 : cS (d + 2) 37 [(.ref 256), (.int (g_84 hi)), (.int (8))] (mkH hi hl sw kp) (am_ret (cW cd_144 (d + 2) Q) 16 [some (.ref 0)] []))
    : cW cd_144 (d + 2) Q 0 [some (.ref 0)] [] (mkH hi hl sw kp) :=
  cW.run (am_in [16, 23]) 7 (cC.of (s_84 (cC.of (h1))))
theorem e_144
    (h1 : cS (d + 2) 37 [(.ref 256), (.int (g_84 hi)), (.int (8))] (mkH hi hl sw kp) (am_ret (cW cd_144 (d + 2) Q) 16 [some (.ref 0)] []))
    : cS ((d + 2) + 1) 144 [(.ref 0)] (mkH hi hl sw kp) Q := cS.of rfl (k_144_0 h1)
set_option maxRecDepth 100000 in
theorem k_144_16
    (h1 : cS (d + 2) 48 [(.ref 256)] (mkH hi hl sw kp) (am_ret (cW cd_144 (d + 2) Q) 23 [some (.ref 0)] []))
    : cW cd_144 (d + 2) Q 16 [some (.ref 0)] [] (mkH hi hl sw kp) :=
  cW.run (am_in [16, 23]) 3 (cC.of (h1))
set_option maxRecDepth 100000 in
theorem k_144_23 {s0 : Int32}
    (h1 : Q (some (.int s0)) (mkH hi hl sw kp))
    : cW cd_144 (d + 2) Q 23 [some (.ref 0)] [(.int s0)] (mkH hi hl sw kp) :=
  cW.run (am_in [16, 23]) 1 (cQ.of (h1))
-- 204: DogDecreesModel.readAll()V
set_option maxRecDepth 100000 in
theorem k_204_0
    (h1 : cW cd_204 d Q 38 [some (.ref 279)] [] (mkH (u2 (u2 (u2 (u2 (u2 (u2 (u2 hi 279 5 (hi 279 1)) 279 1 (0)) 279 4 (0)) 279 2 (0)) 279 3 (-1)) 279 35 (0)) 279 36 (0)) hl sw kp))
    : cW cd_204 d Q 0 [some (.ref 279)] [] (mkH hi hl sw kp) :=
  cW.run (am_in [38, 74, 109, 123, 141]) 22 (h1)
theorem e_204
    (h1 : cW cd_204 d Q 38 [some (.ref 279)] [] (mkH (u2 (u2 (u2 (u2 (u2 (u2 (u2 hi 279 5 (hi 279 1)) 279 1 (0)) 279 4 (0)) 279 2 (0)) 279 3 (-1)) 279 35 (0)) 279 36 (0)) hl sw kp))
    : cS (d + 1) 204 [(.ref 279)] (mkH hi hl sw kp) Q := cS.of rfl (k_204_0 h1)
set_option maxRecDepth 100000 in
theorem k_204_38
    (h1 : cW cd_204 d Q 74 [some (.ref 279)] [] (mkH (u2 (u2 (u2 (u2 (u2 (u2 (u2 hi 279 37 (0)) 279 38 (0)) 279 39 (0)) 279 40 (8)) 279 41 (1)) 279 42 (0)) 279 43 (0)) hl sw kp))
    : cW cd_204 d Q 38 [some (.ref 279)] [] (mkH hi hl sw kp) :=
  cW.run (am_in [38, 74, 109, 123, 141]) 21 (h1)
set_option maxRecDepth 100000 in
theorem k_204_74
    (h1 : cW cd_204 d Q 109 [some (.ref 279)] [] (mkH (u2 (u2 (u2 (u2 (u2 (u2 (u2 hi 279 44 (0)) 279 52 (0)) 279 53 (0)) 279 54 (0)) 279 55 (0)) 279 56 (0)) 279 57 (0)) hl sw kp))
    : cW cd_204 d Q 74 [some (.ref 279)] [] (mkH hi hl sw kp) :=
  cW.run (am_in [38, 74, 109, 123, 141]) 21 (And.intro (Or.inl rfl) (And.intro (Or.inl rfl) (And.intro (Or.inl rfl) (And.intro (Or.inl rfl) (And.intro (Or.inl rfl) (And.intro (Or.inl rfl) (h1)))))))
set_option maxRecDepth 100000 in
theorem k_204_109
    (h1 : cS d 170 [(.ref 279)] (mkH (u2 (u2 hi 279 20 (0)) 279 17 (0)) hl sw kp) (am_ret (cW cd_204 d Q) 123 [some (.ref 279)] []))
    : cW cd_204 d Q 109 [some (.ref 279)] [] (mkH hi hl sw kp) :=
  cW.run (am_in [38, 74, 109, 123, 141]) 8 (cC.of (h1))
set_option maxRecDepth 100000 in
theorem k_204_123
    (h1 : (hi 279 2) = 0 → (hi 279 6) = 0 → Q none (mkH hi hl sw kp))
    (h2 : (hi 279 2) = 0 → ¬ ((hi 279 6) = 0) → cS d 203 [(.ref 279)] (mkH hi hl sw kp) (am_ret (cW cd_204 d Q) 141 [some (.ref 279)] []))
    (h3 : ¬ ((hi 279 2) = 0) → Q none (mkH hi hl sw kp))
    : cW cd_204 d Q 123 [some (.ref 279)] [] (mkH hi hl sw kp) :=
  cW.run (am_in [38, 74, 109, 123, 141]) 8 (And.intro (fun c1 => (And.intro (fun c2 => (cQ.of (h1 c1 c2))) (fun c3 => (cC.of (h2 c1 c3))))) (fun c4 => (cQ.of (h3 c4))))
set_option maxRecDepth 100000 in
theorem k_204_141
    (h1 : cW cd_204 d Q 123 [some (.ref 279)] [] (mkH hi hl sw kp))
    : cW cd_204 d Q 141 [some (.ref 279)] [] (mkH hi hl sw kp) :=
  cW.run (am_in [38, 74, 109, 123, 141]) 1 (h1)
-- 222: DogDecreesModel.draws(I)I
set_option maxRecDepth 100000 in
theorem k_222_0 {x1 : Int32}
    (h1 : (g_208 hi x1) = 0 → Q (some (.int (-1))) (mkH hi hl sw kp))
    (h2 : ¬ ((g_208 hi x1) = 0) → cS (d + 2) 211 [(.ref 279)] (mkH hi hl sw kp) (am_ret (cW cd_222 (d + 2) Q) 14 [some (.ref 279), some (.int x1)] []))
    : cW cd_222 (d + 2) Q 0 [some (.ref 279), some (.int x1)] [] (mkH hi hl sw kp) :=
  cW.run (am_in [14, 18]) 6 (cC.of (s_208 (And.intro (fun c1 => (cQ.of (h1 c1))) (fun c2 => (cC.of (h2 c2))))))
theorem e_222 {x1 : Int32}
    (h1 : (g_208 hi x1) = 0 → Q (some (.int (-1))) (mkH hi hl sw kp))
    (h2 : ¬ ((g_208 hi x1) = 0) → cS (d + 2) 211 [(.ref 279)] (mkH hi hl sw kp) (am_ret (cW cd_222 (d + 2) Q) 14 [some (.ref 279), some (.int x1)] []))
    : cS ((d + 2) + 1) 222 [(.ref 279), (.int x1)] (mkH hi hl sw kp) Q := cS.of rfl (k_222_0 h1 h2)
set_option maxRecDepth 100000 in
theorem k_222_14 {x1 : Int32}
    (h1 : cS (d + 2) 217 [(.ref 279)] (mkH hi hl sw kp) (am_ret (cW cd_222 (d + 2) Q) 18 [some (.ref 279), some (.int x1)] []))
    : cW cd_222 (d + 2) Q 14 [some (.ref 279), some (.int x1)] [] (mkH hi hl sw kp) :=
  cW.run (am_in [14, 18]) 2 (cC.of (h1))
set_option maxRecDepth 100000 in
theorem k_222_18 {x1 : Int32}
    (h1 : vp_in (((8) * (hi 299 16)) + x1) 64)
    (h2 : Q (some (.int (hi 302 (((8) * (hi 299 16)) + x1).toNatClampNeg))) (mkH hi hl sw kp))
    : cW cd_222 (d + 2) Q 18 [some (.ref 279), some (.int x1)] [] (mkH hi hl sw kp) :=
  cW.run (am_in [14, 18]) 12 (And.intro (show vp_in 16 82 from vin_l (by decide +kernel)) (And.intro (h1) (cQ.of (h2))))
-- 232: DogDecreesModel.goOdds()V
set_option maxRecDepth 100000 in
theorem k_232_0
    (h1 : cS d 217 [(.ref 279)] (mkH hi hl sw kp) (am_ret (cW cd_232 d Q) 4 [some (.ref 279), none, none] []))
    : cW cd_232 d Q 0 [some (.ref 279), none, none] [] (mkH hi hl sw kp) :=
  cW.run (am_in [4, 6, 21, 71, 99]) 2 (cC.of (h1))
theorem e_232
    (h1 : cS d 217 [(.ref 279)] (mkH hi hl sw kp) (am_ret (cW cd_232 d Q) 4 [some (.ref 279), none, none] []))
    : cS (d + 1) 232 [(.ref 279)] (mkH hi hl sw kp) Q := cS.of rfl (k_232_0 h1)
set_option maxRecDepth 100000 in
theorem k_232_4
    (h1 : cW cd_232 d Q 6 [some (.ref 279), some (.int (0)), none] [] (mkH hi hl sw kp))
    : cW cd_232 d Q 4 [some (.ref 279), none, none] [] (mkH hi hl sw kp) :=
  cW.run (am_in [4, 6, 21, 71, 99]) 2 (And.intro (Nat.le_of_ble_eq_true rfl) (h1))
set_option maxRecDepth 100000 in
theorem k_232_6 {x1 : Int32} {o2 : Option Value}
    (h1 : (8) ≤ x1 → cW cd_232 d Q 71 [some (.ref 279), some (.int (0)), o2] [] (mkH hi hl sw kp))
    (h2 : ¬ ((8) ≤ x1) → vp_in x1 8)
    (h3 : ¬ ((8) ≤ x1) → cW cd_232 d Q 21 [some (.ref 279), some (.int x1), some (.int (0))] [] (mkH hi (u2 hl 305 x1.toNatClampNeg 0) sw kp))
    : cW cd_232 d Q 6 [some (.ref 279), some (.int x1), o2] [] (mkH hi hl sw kp) :=
  cW.run (am_in [4, 6, 21, 71, 99]) 10 (And.intro (fun c1 => (And.intro (Nat.le_of_ble_eq_true rfl) (h1 c1))) (fun c2 => (And.intro (h2 c2) (And.intro (Nat.le_of_ble_eq_true rfl) (h3 c2)))))
set_option maxRecDepth 100000 in
theorem k_232_21 {x1 : Int32} {x2 : Int32}
    (h1 : (hi 279 46) ≤ x2 → cW cd_232 d Q 6 [some (.ref 279), some (.int (x1 + (1))), some (.int x2)] [] (mkH hi hl sw kp))
    (h2 : ¬ ((hi 279 46) ≤ x2) → vp_in x1 8)
    (h3 : ¬ ((hi 279 46) ≤ x2) → vp_in x2 8)
    (h4 : ¬ ((hi 279 46) ≤ x2) → vp_in (((8) * x2) + x1) 64)
    (h5 : ¬ ((hi 279 46) ≤ x2) → cW cd_232 d Q 21 [some (.ref 279), some (.int x1), some (.int (x2 + (1)))] [] (mkH hi (u2 hl 305 x1.toNatClampNeg ((hl 305 x1.toNatClampNeg) + ((hl 304 x2.toNatClampNeg) * ((hi 302 (((8) * x2) + x1).toNatClampNeg).toInt64)))) sw kp))
    : cW cd_232 d Q 21 [some (.ref 279), some (.int x1), some (.int x2)] [] (mkH hi hl sw kp) :=
  cW.run (am_in [4, 6, 21, 71, 99]) 27 (And.intro (fun c1 => (And.intro (Nat.le_of_ble_eq_true rfl) (h1 c1))) (fun c2 => (And.intro rfl (And.intro rfl (And.intro (h2 c2) (And.intro (h3 c2) (And.intro (h4 c2) (And.intro (h2 c2) (And.intro (Nat.le_of_ble_eq_true rfl) (h5 c2))))))))))
set_option maxRecDepth 100000 in
theorem k_232_71 {x1 : Int32} {o2 : Option Value}
    (h1 : (8) ≤ x1 → cS d 212 [(.ref 279)] (mkH hi hl sw kp) (am_ret (cW cd_232 d Q) 99 [some (.ref 279), some (.int x1), o2] []))
    (h2 : ¬ ((8) ≤ x1) → vp_in x1 8)
    (h3 : ¬ ((8) ≤ x1) → cW cd_232 d Q 71 [some (.ref 279), some (.int (x1 + (1))), o2] [] (mkH hi (u2 hl 304 x1.toNatClampNeg (hl 305 x1.toNatClampNeg)) sw kp))
    : cW cd_232 d Q 71 [some (.ref 279), some (.int x1), o2] [] (mkH hi hl sw kp) :=
  cW.run (am_in [4, 6, 21, 71, 99]) 13 (And.intro (fun c1 => (cC.of (h1 c1))) (fun c2 => (And.intro (h2 c2) (And.intro (h2 c2) (And.intro (Nat.le_of_ble_eq_true rfl) (h3 c2))))))
set_option maxRecDepth 100000 in
theorem k_232_99 {x1 : Int32} {o2 : Option Value}
    (h1 : Q none (mkH hi hl sw kp))
    : cW cd_232 d Q 99 [some (.ref 279), some (.int x1), o2] [] (mkH hi hl sw kp) :=
  cW.run (am_in [4, 6, 21, 71, 99]) 1 (cQ.of (h1))
-- 240: DogDecreesModel.goScores(I)V
set_option maxRecDepth 100000 in
theorem k_240_0 {x1 : Int32}
    (h1 : cS (d + 1) 217 [(.ref 279)] (mkH hi hl sw kp) (am_ret (cW cd_240 (d + 1) Q) 4 [some (.ref 279), some (.int x1), none, none, none, none, none, none, none] []))
    : cW cd_240 (d + 1) Q 0 [some (.ref 279), some (.int x1), none, none, none, none, none, none, none] [] (mkH hi hl sw kp) :=
  cW.run (am_in [4, 24, 46, 86, 187, 216]) 2 (cC.of (h1))
theorem e_240 {x1 : Int32}
    (h1 : cS (d + 1) 217 [(.ref 279)] (mkH hi hl sw kp) (am_ret (cW cd_240 (d + 1) Q) 4 [some (.ref 279), some (.int x1), none, none, none, none, none, none, none] []))
    : cS ((d + 1) + 1) 240 [(.ref 279), (.int x1)] (mkH hi hl sw kp) Q := cS.of rfl (k_240_0 h1)
set_option maxRecDepth 100000 in
theorem k_240_4 {x1 : Int32}
    (h1 : ¬ ((hi 279 48) = 0) → ¬ (hi 279 51) = 0)
    (h2 : ¬ ((hi 279 48) = 0) → ¬ (hi 279 48) = 0)
    (h3 : (g_218 hi (hi 279 61)) = x1 → cW cd_240 (d + 1) Q 24 [some (.ref 279), some (.int x1), some (.int (1)), some (.int (0)), none, none, none, none, none] [] (mkH hi hl sw kp))
    (h4 : ¬ ((g_218 hi (hi 279 61)) = x1) → cW cd_240 (d + 1) Q 24 [some (.ref 279), some (.int x1), some (.int (0)), some (.int (0)), none, none, none, none, none] [] (mkH hi hl sw kp))
    : cW cd_240 (d + 1) Q 4 [some (.ref 279), some (.int x1), none, none, none, none, none, none, none] [] (mkH hi hl sw kp) :=
  cW.run (am_in [4, 24, 46, 86, 187, 216]) 11 (cC.of (s_218 (h1) (h2) (And.intro (fun c1 => (And.intro (Nat.le_of_ble_eq_true rfl) (And.intro (Nat.le_of_ble_eq_true rfl) (h3 c1)))) (fun c2 => (And.intro (Nat.le_of_ble_eq_true rfl) (And.intro (Nat.le_of_ble_eq_true rfl) (h4 c2)))))))
set_option maxRecDepth 100000 in
theorem k_240_24 {x1 : Int32} {x2 : Int32} {x3 : Int32}
    (h1 : (256) ≤ x3 → cW cd_240 (d + 1) Q 46 [some (.ref 279), some (.int x1), some (.int x2), some (.int (0)), none, none, none, none, none] [] (mkH hi hl sw kp))
    (h2 : ¬ ((256) ≤ x3) → vp_in x3 256)
    (h3 : ¬ ((256) ≤ x3) → cW cd_240 (d + 1) Q 24 [some (.ref 279), some (.int x1), some (.int x2), some (.int (x3 + (1))), none, none, none, none, none] [] (mkH hi (u2 hl 307 x3.toNatClampNeg 0) sw kp))
    : cW cd_240 (d + 1) Q 24 [some (.ref 279), some (.int x1), some (.int x2), some (.int x3), none, none, none, none, none] [] (mkH hi hl sw kp) :=
  cW.run (am_in [4, 24, 46, 86, 187, 216]) 10 (And.intro (fun c1 => (And.intro (Nat.le_of_ble_eq_true rfl) (h1 c1))) (fun c2 => (And.intro (h2 c2) (And.intro (Nat.le_of_ble_eq_true rfl) (h3 c2)))))
set_option maxRecDepth 100000 in
theorem k_240_46 {x1 : Int32} {x2 : Int32} {x3 : Int32} {o4 : Option Value} {o5 : Option Value} {o6 : Option Value} {o7 : Option Value} {o8 : Option Value}
    (h1 : ((32) * (hi 279 46)) ≤ x3 → cW cd_240 (d + 1) Q 187 [some (.ref 279), some (.int x1), some (.int x2), some (.int (0)), o4, o5, o6, o7, o8] [] (mkH hi hl sw kp))
    (h2 : ¬ (((32) * (hi 279 46)) ≤ x3) → vp_in x3 256)
    (h3 : ¬ (((32) * (hi 279 46)) ≤ x3) → (lg_cmp (hl 306 x3.toNatClampNeg) 0) = 0 → cW cd_240 (d + 1) Q 46 [some (.ref 279), some (.int x1), some (.int x2), some (.int (x3 + (1))), o4, o5, o6, o7, o8] [] (mkH hi hl sw kp))
    (h4 : ¬ (((32) * (hi 279 46)) ≤ x3) → ¬ ((lg_cmp (hl 306 x3.toNatClampNeg) 0) = 0) → cW cd_240 (d + 1) Q 86 [some (.ref 279), some (.int x1), some (.int x2), some (.int x3), some (.int (x3 / (32))), some (.int (x3 - x3 / (32) * (32))), some (.int (0)), o7, o8] [] (mkH hi hl sw kp))
    : cW cd_240 (d + 1) Q 46 [some (.ref 279), some (.int x1), some (.int x2), some (.int x3), o4, o5, o6, o7, o8] [] (mkH hi hl sw kp) :=
  cW.run (am_in [4, 24, 46, 86, 187, 216]) 23 (And.intro (fun c1 => (And.intro (Nat.le_of_ble_eq_true rfl) (h1 c1))) (fun c2 => (And.intro (h2 c2) (And.intro (fun c3 => (And.intro (Nat.le_of_ble_eq_true rfl) (h3 c2 c3))) (fun c4 => (And.intro (show ¬ ((32) : Int32) = 0 by decide +kernel) (And.intro (Nat.le_of_ble_eq_true rfl) (And.intro (show ¬ ((32) : Int32) = 0 by decide +kernel) (And.intro (Nat.le_of_ble_eq_true rfl) (And.intro (Nat.le_of_ble_eq_true rfl) (h4 c2 c4)))))))))))
set_option maxRecDepth 100000 in
theorem k_240_86 {x1 : Int32} {x2 : Int32} {x3 : Int32} {x4 : Int32} {x5 : Int32} {x6 : Int32} {o7 : Option Value} {o8 : Option Value}
    (h1 : (hi 279 46) ≤ x6 → cW cd_240 (d + 1) Q 46 [some (.ref 279), some (.int x1), some (.int x2), some (.int (x3 + (1))), some (.int x4), some (.int x5), some (.int x6), o7, o8] [] (mkH hi hl sw kp))
    (h2 : ¬ ((hi 279 46) ≤ x6) → vp_in (((8) * x4) + x6) 64)
    (h3 : ¬ ((hi 279 46) ≤ x6) → x5 = (31) → (hi 302 (((8) * x4) + x6).toNatClampNeg) ≤ 0 → cW cd_240 (d + 1) Q 86 [some (.ref 279), some (.int x1), some (.int x2), some (.int x3), some (.int x4), some (.int x5), some (.int (x6 + (1))), some (.int (hi 302 (((8) * x4) + x6).toNatClampNeg)), some (.int x5)] [] (mkH hi hl sw kp))
    (h4 : ¬ ((hi 279 46) ≤ x6) → x5 = (31) → ¬ ((hi 302 (((8) * x4) + x6).toNatClampNeg) ≤ 0) → x5 < 0 → cW cd_240 (d + 1) Q 86 [some (.ref 279), some (.int x1), some (.int x2), some (.int x3), some (.int x4), some (.int x5), some (.int (x6 + (1))), some (.int (hi 302 (((8) * x4) + x6).toNatClampNeg)), some (.int x5)] [] (mkH hi hl sw kp))
    (h5 : ¬ ((hi 279 46) ≤ x6) → x5 = (31) → ¬ ((hi 302 (((8) * x4) + x6).toNatClampNeg) ≤ 0) → ¬ (x5 < 0) → vp_in (((32) * x6) + x5) 256)
    (h6 : ¬ ((hi 279 46) ≤ x6) → x5 = (31) → ¬ ((hi 302 (((8) * x4) + x6).toNatClampNeg) ≤ 0) → ¬ (x5 < 0) → vp_in x3 256)
    (h7 : ¬ ((hi 279 46) ≤ x6) → x5 = (31) → ¬ ((hi 302 (((8) * x4) + x6).toNatClampNeg) ≤ 0) → ¬ (x5 < 0) → cW cd_240 (d + 1) Q 86 [some (.ref 279), some (.int x1), some (.int x2), some (.int x3), some (.int x4), some (.int x5), some (.int (x6 + (1))), some (.int (hi 302 (((8) * x4) + x6).toNatClampNeg)), some (.int x5)] [] (mkH hi (u2 hl 307 (((32) * x6) + x5).toNatClampNeg ((hl 307 (((32) * x6) + x5).toNatClampNeg) + ((hl 306 x3.toNatClampNeg) * ((hi 302 (((8) * x4) + x6).toNatClampNeg).toInt64)))) sw kp))
    (h8 : ¬ ((hi 279 46) ≤ x6) → ¬ (x5 = (31)) → x2 = 0 → (hi 302 (((8) * x4) + x6).toNatClampNeg) ≤ 0 → cW cd_240 (d + 1) Q 86 [some (.ref 279), some (.int x1), some (.int x2), some (.int x3), some (.int x4), some (.int x5), some (.int (x6 + (1))), some (.int (hi 302 (((8) * x4) + x6).toNatClampNeg)), some (.int x5)] [] (mkH hi hl sw kp))
    (h9 : ¬ ((hi 279 46) ≤ x6) → ¬ (x5 = (31)) → x2 = 0 → ¬ ((hi 302 (((8) * x4) + x6).toNatClampNeg) ≤ 0) → x5 < 0 → cW cd_240 (d + 1) Q 86 [some (.ref 279), some (.int x1), some (.int x2), some (.int x3), some (.int x4), some (.int x5), some (.int (x6 + (1))), some (.int (hi 302 (((8) * x4) + x6).toNatClampNeg)), some (.int x5)] [] (mkH hi hl sw kp))
    (h10 : ¬ ((hi 279 46) ≤ x6) → ¬ (x5 = (31)) → x2 = 0 → ¬ ((hi 302 (((8) * x4) + x6).toNatClampNeg) ≤ 0) → ¬ (x5 < 0) → vp_in (((32) * x6) + x5) 256)
    (h11 : ¬ ((hi 279 46) ≤ x6) → ¬ (x5 = (31)) → x2 = 0 → ¬ ((hi 302 (((8) * x4) + x6).toNatClampNeg) ≤ 0) → ¬ (x5 < 0) → vp_in x3 256)
    (h12 : ¬ ((hi 279 46) ≤ x6) → ¬ (x5 = (31)) → x2 = 0 → ¬ ((hi 302 (((8) * x4) + x6).toNatClampNeg) ≤ 0) → ¬ (x5 < 0) → cW cd_240 (d + 1) Q 86 [some (.ref 279), some (.int x1), some (.int x2), some (.int x3), some (.int x4), some (.int x5), some (.int (x6 + (1))), some (.int (hi 302 (((8) * x4) + x6).toNatClampNeg)), some (.int x5)] [] (mkH hi (u2 hl 307 (((32) * x6) + x5).toNatClampNeg ((hl 307 (((32) * x6) + x5).toNatClampNeg) + ((hl 306 x3.toNatClampNeg) * ((hi 302 (((8) * x4) + x6).toNatClampNeg).toInt64)))) sw kp))
    (h13 : ¬ ((hi 279 46) ≤ x6) → ¬ (x5 = (31)) → ¬ (x2 = 0) → vp_in x6 8)
    (h14 : ¬ ((hi 279 46) ≤ x6) → ¬ (x5 = (31)) → ¬ (x2 = 0) → vp_in (((4) * (hi 295 x6.toNatClampNeg)) + x1) 16)
    (h15 : ¬ ((hi 279 46) ≤ x6) → ¬ (x5 = (31)) → ¬ (x2 = 0) → vp_in x1 4)
    (h16 : ¬ ((hi 279 46) ≤ x6) → ¬ (x5 = (31)) → ¬ (x2 = 0) → (hi 302 (((8) * x4) + x6).toNatClampNeg) ≤ 0 → cW cd_240 (d + 1) Q 86 [some (.ref 279), some (.int x1), some (.int x2), some (.int x3), some (.int x4), some (.int x5), some (.int (x6 + (1))), some (.int (hi 302 (((8) * x4) + x6).toNatClampNeg)), some (.int (g_239 hi x1 x5 x6))] [] (mkH hi hl sw kp))
    (h17 : ¬ ((hi 279 46) ≤ x6) → ¬ (x5 = (31)) → ¬ (x2 = 0) → ¬ ((hi 302 (((8) * x4) + x6).toNatClampNeg) ≤ 0) → (g_239 hi x1 x5 x6) < 0 → cW cd_240 (d + 1) Q 86 [some (.ref 279), some (.int x1), some (.int x2), some (.int x3), some (.int x4), some (.int x5), some (.int (x6 + (1))), some (.int (hi 302 (((8) * x4) + x6).toNatClampNeg)), some (.int (g_239 hi x1 x5 x6))] [] (mkH hi hl sw kp))
    (h18 : ¬ ((hi 279 46) ≤ x6) → ¬ (x5 = (31)) → ¬ (x2 = 0) → ¬ ((hi 302 (((8) * x4) + x6).toNatClampNeg) ≤ 0) → ¬ ((g_239 hi x1 x5 x6) < 0) → vp_in (((32) * x6) + (g_239 hi x1 x5 x6)) 256)
    (h19 : ¬ ((hi 279 46) ≤ x6) → ¬ (x5 = (31)) → ¬ (x2 = 0) → ¬ ((hi 302 (((8) * x4) + x6).toNatClampNeg) ≤ 0) → ¬ ((g_239 hi x1 x5 x6) < 0) → vp_in x3 256)
    (h20 : ¬ ((hi 279 46) ≤ x6) → ¬ (x5 = (31)) → ¬ (x2 = 0) → ¬ ((hi 302 (((8) * x4) + x6).toNatClampNeg) ≤ 0) → ¬ ((g_239 hi x1 x5 x6) < 0) → cW cd_240 (d + 1) Q 86 [some (.ref 279), some (.int x1), some (.int x2), some (.int x3), some (.int x4), some (.int x5), some (.int (x6 + (1))), some (.int (hi 302 (((8) * x4) + x6).toNatClampNeg)), some (.int (g_239 hi x1 x5 x6))] [] (mkH hi (u2 hl 307 (((32) * x6) + (g_239 hi x1 x5 x6)).toNatClampNeg ((hl 307 (((32) * x6) + (g_239 hi x1 x5 x6)).toNatClampNeg) + ((hl 306 x3.toNatClampNeg) * ((hi 302 (((8) * x4) + x6).toNatClampNeg).toInt64)))) sw kp))
    : cW cd_240 (d + 1) Q 86 [some (.ref 279), some (.int x1), some (.int x2), some (.int x3), some (.int x4), some (.int x5), some (.int x6), o7, o8] [] (mkH hi hl sw kp) :=
  cW.run (am_in [4, 24, 46, 86, 187, 216]) 48 (And.intro (fun c1 => (And.intro (Nat.le_of_ble_eq_true rfl) (h1 c1))) (fun c2 => (And.intro (h2 c2) (And.intro (Nat.le_of_ble_eq_true rfl) (And.intro (fun c3 => (And.intro (Nat.le_of_ble_eq_true rfl) (And.intro (fun c4 => (And.intro (Nat.le_of_ble_eq_true rfl) (h3 c2 c3 c4))) (fun c5 => (And.intro (fun c6 => (And.intro (Nat.le_of_ble_eq_true rfl) (h4 c2 c3 c5 c6))) (fun c7 => (And.intro rfl (And.intro rfl (And.intro (h5 c2 c3 c5 c7) (And.intro (h6 c2 c3 c5 c7) (And.intro (h5 c2 c3 c5 c7) (And.intro (Nat.le_of_ble_eq_true rfl) (h7 c2 c3 c5 c7))))))))))))) (fun c8 => (And.intro (fun c9 => (And.intro (Nat.le_of_ble_eq_true rfl) (And.intro (fun c10 => (And.intro (Nat.le_of_ble_eq_true rfl) (h8 c2 c8 c9 c10))) (fun c11 => (And.intro (fun c12 => (And.intro (Nat.le_of_ble_eq_true rfl) (h9 c2 c8 c9 c11 c12))) (fun c13 => (And.intro rfl (And.intro rfl (And.intro (h10 c2 c8 c9 c11 c13) (And.intro (h11 c2 c8 c9 c11 c13) (And.intro (h10 c2 c8 c9 c11 c13) (And.intro (Nat.le_of_ble_eq_true rfl) (h12 c2 c8 c9 c11 c13))))))))))))) (fun c14 => (cC.of (s_239 (h13 c2 c8 c14) (h14 c2 c8 c14) (h15 c2 c8 c14) (And.intro (Nat.le_of_ble_eq_true rfl) (And.intro (fun c15 => (And.intro (Nat.le_of_ble_eq_true rfl) (h16 c2 c8 c14 c15))) (fun c16 => (And.intro (fun c17 => (And.intro (Nat.le_of_ble_eq_true rfl) (h17 c2 c8 c14 c16 c17))) (fun c18 => (And.intro rfl (And.intro rfl (And.intro (h18 c2 c8 c14 c16 c18) (And.intro (h19 c2 c8 c14 c16 c18) (And.intro (h18 c2 c8 c14 c16 c18) (And.intro (Nat.le_of_ble_eq_true rfl) (h20 c2 c8 c14 c16 c18))))))))))))))))))))))
set_option maxRecDepth 100000 in
theorem k_240_187 {x1 : Int32} {x2 : Int32} {x3 : Int32} {o4 : Option Value} {o5 : Option Value} {o6 : Option Value} {o7 : Option Value} {o8 : Option Value}
    (h1 : (256) ≤ x3 → cS (d + 1) 212 [(.ref 279)] (mkH hi hl sw kp) (am_ret (cW cd_240 (d + 1) Q) 216 [some (.ref 279), some (.int x1), some (.int x2), some (.int x3), o4, o5, o6, o7, o8] []))
    (h2 : ¬ ((256) ≤ x3) → vp_in x3 256)
    (h3 : ¬ ((256) ≤ x3) → cW cd_240 (d + 1) Q 187 [some (.ref 279), some (.int x1), some (.int x2), some (.int (x3 + (1))), o4, o5, o6, o7, o8] [] (mkH hi (u2 hl 306 x3.toNatClampNeg (hl 307 x3.toNatClampNeg)) sw kp))
    : cW cd_240 (d + 1) Q 187 [some (.ref 279), some (.int x1), some (.int x2), some (.int x3), o4, o5, o6, o7, o8] [] (mkH hi hl sw kp) :=
  cW.run (am_in [4, 24, 46, 86, 187, 216]) 13 (And.intro (fun c1 => (cC.of (h1 c1))) (fun c2 => (And.intro (h2 c2) (And.intro (h2 c2) (And.intro (Nat.le_of_ble_eq_true rfl) (h3 c2))))))
set_option maxRecDepth 100000 in
theorem k_240_216 {x1 : Int32} {x2 : Int32} {x3 : Int32} {o4 : Option Value} {o5 : Option Value} {o6 : Option Value} {o7 : Option Value} {o8 : Option Value}
    (h1 : Q none (mkH hi hl sw kp))
    : cW cd_240 (d + 1) Q 216 [some (.ref 279), some (.int x1), some (.int x2), some (.int x3), o4, o5, o6, o7, o8] [] (mkH hi hl sw kp) :=
  cW.run (am_in [4, 24, 46, 86, 187, 216]) 1 (cQ.of (h1))
-- 262: DogDecreesModel.walkBy(II)J
set_option maxRecDepth 100000 in
theorem k_262_0 {x1 : Int32} {x2 : Int32}
    (h1 : cS (d + 1) 211 [(.ref 279)] (mkH hi hl sw kp) (am_ret (cW cd_262 (d + 1) Q) 4 [some (.ref 279), some (.int x1), some (.int x2), none, none, none] []))
    : cW cd_262 (d + 1) Q 0 [some (.ref 279), some (.int x1), some (.int x2), none, none, none] [] (mkH hi hl sw kp) :=
  cW.run (am_in [4, 18, 23]) 2 (cC.of (h1))
theorem e_262 {x1 : Int32} {x2 : Int32}
    (h1 : cS (d + 1) 211 [(.ref 279)] (mkH hi hl sw kp) (am_ret (cW cd_262 (d + 1) Q) 4 [some (.ref 279), some (.int x1), some (.int x2), none, none, none] []))
    : cS ((d + 1) + 1) 262 [(.ref 279), (.int x1), (.int x2)] (mkH hi hl sw kp) Q := cS.of rfl (k_262_0 h1)
set_option maxRecDepth 100000 in
theorem k_262_4 {x1 : Int32} {x2 : Int32}
    (h1 : vp_in x1 8)
    (h2 : cS (d + 1) 217 [(.ref 279)] (mkH (u2 hi 300 x1.toNatClampNeg ((hi 300 x1.toNatClampNeg) + (1))) hl sw kp) (am_ret (cW cd_262 (d + 1) Q) 18 [some (.ref 279), some (.int x1), some (.int x2), none, none, none] []))
    : cW cd_262 (d + 1) Q 4 [some (.ref 279), some (.int x1), some (.int x2), none, none, none] [] (mkH hi hl sw kp) :=
  cW.run (am_in [4, 18, 23]) 10 (And.intro rfl (And.intro rfl (And.intro (h1) (And.intro (h1) (cC.of (h2))))))
set_option maxRecDepth 100000 in
theorem k_262_18 {x1 : Int32} {x2 : Int32}
    (h1 : cW cd_262 (d + 1) Q 23 [some (.ref 279), some (.int x1), some (.int x2), some (.long 1), none, some (.int (0))] [] (mkH hi hl sw kp))
    : cW cd_262 (d + 1) Q 18 [some (.ref 279), some (.int x1), some (.int x2), none, none, none] [] (mkH hi hl sw kp) :=
  cW.run (am_in [4, 18, 23]) 4 (And.intro (Nat.le_of_ble_eq_true rfl) (And.intro (Nat.le_of_ble_eq_true rfl) (h1)))
set_option maxRecDepth 100000 in
theorem k_262_23 {x1 : Int32} {x2 : Int32} {x3 : Int64} {x5 : Int32}
    (h1 : x2 ≤ x5 → Q (some (.long x3)) (mkH hi hl sw kp))
    (h2 : ¬ (x2 ≤ x5) → ¬ ((hi 299 20) ≤ (x5 + (1))) → vp_in ((((21) + (hi 299 20)) - (1)) - (x5 + (1))) 82)
    (h3 : ¬ (x2 ≤ x5) → ¬ ((hi 299 20) ≤ x5) → vp_in ((((21) + (hi 299 20)) - (1)) - x5) 82)
    (h4 : ¬ (x2 ≤ x5) → vp_in (((8) * (g_260 hi (x5 + (1)))) + (g_260 hi x5)) 64)
    (h5 : ¬ (x2 ≤ x5) → cW cd_262 (d + 1) Q 23 [some (.ref 279), some (.int x1), some (.int x2), some (.long (x3 * ((hi 302 (((8) * (g_260 hi (x5 + (1)))) + (g_260 hi x5)).toNatClampNeg).toInt64))), none, some (.int (x5 + (1)))] [] (mkH hi hl sw kp))
    : cW cd_262 (d + 1) Q 23 [some (.ref 279), some (.int x1), some (.int x2), some (.long x3), none, some (.int x5)] [] (mkH hi hl sw kp) :=
  cW.run (am_in [4, 18, 23]) 23 (And.intro (fun c1 => (cQ.of (h1 c1))) (fun c2 => (cC.of (s_260 (h2 c2) (cC.of (s_260 (h3 c2) (And.intro (h4 c2) (And.intro (Nat.le_of_ble_eq_true rfl) (And.intro (Nat.le_of_ble_eq_true rfl) (h5 c2))))))))))
-- 57: DogDecrees$PullTelling.tellAnd(I)Z
set_option maxRecDepth 100000 in
theorem k_57_0 {x1 : Int32}
    (h1 : cS d 58 [(.ref 18), (.int x1)] (mkH hi hl sw kp) (am_ret (cW cd_57 d Q) 5 [some (.ref 18), some (.int x1), none] []))
    : cW cd_57 d Q 0 [some (.ref 18), some (.int x1), none] [] (mkH hi hl sw kp) :=
  cW.run (am_in [5, 12, 39, 44, 59]) 3 (cC.of (h1))
theorem e_57 {x1 : Int32}
    (h1 : cS d 58 [(.ref 18), (.int x1)] (mkH hi hl sw kp) (am_ret (cW cd_57 d Q) 5 [some (.ref 18), some (.int x1), none] []))
    : cS (d + 1) 57 [(.ref 18), (.int x1)] (mkH hi hl sw kp) Q := cS.of rfl (k_57_0 h1)
set_option maxRecDepth 100000 in
theorem k_57_5 {x1 : Int32} {s0 : Int32}
    (h1 : s0 = 0 → Q (some (.int (0))) (mkH hi hl sw kp))
    (h2 : ¬ (s0 = 0) → cW cd_57 d Q 12 [some (.ref 18), some (.int x1), some (.int (0))] [] (mkH hi hl sw kp))
    : cW cd_57 d Q 5 [some (.ref 18), some (.int x1), none] [(.int s0)] (mkH hi hl sw kp) :=
  cW.run (am_in [5, 12, 39, 44, 59]) 3 (And.intro (fun c1 => (And.intro (Or.inl rfl) (cQ.of (h1 c1)))) (fun c2 => (And.intro (Nat.le_of_ble_eq_true rfl) (h2 c2))))
set_option maxRecDepth 100000 in
theorem k_57_12 {x1 : Int32} {x2 : Int32}
    (h1 : (1600) ≤ x2 → Q (some (.int (1))) (mkH hi hl sw kp))
    (h2 : ¬ ((1600) ≤ x2) → (hi 3 2) = (216) → cS d 67 [(.ref 3)] (mkH hi hl sw kp) (am_ret (cW cd_57 d Q) 39 [some (.ref 18), some (.int x1), some (.int x2)] []))
    (h3 : ¬ ((1600) ≤ x2) → ¬ ((hi 3 2) = (216)) → Q (some (.int (1))) (mkH hi hl sw kp))
    : cW cd_57 d Q 12 [some (.ref 18), some (.int x1), some (.int x2)] [] (mkH hi hl sw kp) :=
  cW.run (am_in [5, 12, 39, 44, 59]) 11 (And.intro (fun c1 => (And.intro (Or.inr rfl) (cQ.of (h1 c1)))) (fun c2 => (And.intro (fun c3 => (cC.of (h2 c2 c3))) (fun c4 => (And.intro (Or.inr rfl) (cQ.of (h3 c2 c4)))))))
set_option maxRecDepth 100000 in
theorem k_57_39 {x1 : Int32} {x2 : Int32}
    (h1 : cS d 58 [(.ref 18), (.int x1)] (mkH hi hl sw kp) (am_ret (cW cd_57 d Q) 44 [some (.ref 18), some (.int x1), some (.int x2)] []))
    : cW cd_57 d Q 39 [some (.ref 18), some (.int x1), some (.int x2)] [] (mkH hi hl sw kp) :=
  cW.run (am_in [5, 12, 39, 44, 59]) 3 (cC.of (h1))
set_option maxRecDepth 100000 in
theorem k_57_44 {x1 : Int32} {x2 : Int32} {s0 : Int32}
    (h1 : s0 = 0 → Q (some (.int (0))) (mkH hi hl sw kp))
    (h2 : ¬ (s0 = 0) → cS d 8 [(.ref 11), (.int (-216))] (mkH hi hl sw kp) (am_ret (cW cd_57 d Q) 59 [some (.ref 18), some (.int x1), some (.int x2)] []))
    : cW cd_57 d Q 44 [some (.ref 18), some (.int x1), some (.int x2)] [(.int s0)] (mkH hi hl sw kp) :=
  cW.run (am_in [5, 12, 39, 44, 59]) 5 (And.intro (fun c1 => (And.intro (Or.inl rfl) (cQ.of (h1 c1)))) (fun c2 => (cC.of (h2 c2))))
set_option maxRecDepth 100000 in
theorem k_57_59 {x1 : Int32} {x2 : Int32}
    (h1 : cW cd_57 d Q 12 [some (.ref 18), some (.int x1), some (.int (x2 + (1)))] [] (mkH hi hl sw kp))
    : cW cd_57 d Q 59 [some (.ref 18), some (.int x1), some (.int x2)] [] (mkH hi hl sw kp) :=
  cW.run (am_in [5, 12, 39, 44, 59]) 2 (And.intro (Nat.le_of_ble_eq_true rfl) (h1))
-- 140: DogDecrees.best(IIII)J
set_option maxRecDepth 100000 in
theorem k_140_0 {x1 : Int32} {x2 : Int32} {x3 : Int32} {x4 : Int32}
    (h1 : (g_109 ((u2 hi 0 13 (0))) x1) = 0 → Q (some (.long (-1))) (mkH (u2 hi 0 13 (0)) hl sw kp))
    (h2 : ¬ ((g_109 ((u2 hi 0 13 (0))) x1) = 0) → (g_158 x2 (1 : Int32) (6 : Int32)) = 0 → Q (some (.long (-1))) (mkH (u2 hi 0 13 (0)) hl sw kp))
    (h3 : ¬ ((g_109 ((u2 hi 0 13 (0))) x1) = 0) → ¬ ((g_158 x2 (1 : Int32) (6 : Int32)) = 0) → (g_158 x3 (0 : Int32) (4 : Int32)) = 0 → Q (some (.long (-1))) (mkH (u2 hi 0 13 (0)) hl sw kp))
    (h4 : ¬ ((g_109 ((u2 hi 0 13 (0))) x1) = 0) → ¬ ((g_158 x2 (1 : Int32) (6 : Int32)) = 0) → ¬ ((g_158 x3 (0 : Int32) (4 : Int32)) = 0) → (g_158 x4 (0 : Int32) (1 : Int32)) = 0 → Q (some (.long (-1))) (mkH (u2 hi 0 13 (0)) hl sw kp))
    (h5 : ¬ ((g_109 ((u2 hi 0 13 (0))) x1) = 0) → ¬ ((g_158 x2 (1 : Int32) (6 : Int32)) = 0) → ¬ ((g_158 x3 (0 : Int32) (4 : Int32)) = 0) → ¬ ((g_158 x4 (0 : Int32) (1 : Int32)) = 0) → cS (d + 1) 16 [(.ref 264), (.int x1), (.int x2), (.int x3)] (mkH (u2 hi 0 13 (0)) hl sw kp) (am_ret (cW cd_140 (d + 1) Q) 59 [some (.ref 0), some (.int x1), some (.int x2), some (.int x3), some (.int x4)] []))
    : cW cd_140 (d + 1) Q 0 [some (.ref 0), some (.int x1), some (.int x2), some (.int x3), some (.int x4)] [] (mkH hi hl sw kp) :=
  cW.run (am_in [59, 67, 78, 95]) 29 (cC.of (s_109 (And.intro (fun c1 => (cQ.of (h1 c1))) (fun c2 => (cC.of (s_158 (And.intro (fun c3 => (cQ.of (h2 c2 c3))) (fun c4 => (cC.of (s_158 (And.intro (fun c5 => (cQ.of (h3 c2 c4 c5))) (fun c6 => (cC.of (s_158 (And.intro (fun c7 => (cQ.of (h4 c2 c4 c6 c7))) (fun c8 => (cC.of (h5 c2 c4 c6 c8))))))))))))))))))
theorem e_140 {x1 : Int32} {x2 : Int32} {x3 : Int32} {x4 : Int32}
    (h1 : (g_109 ((u2 hi 0 13 (0))) x1) = 0 → Q (some (.long (-1))) (mkH (u2 hi 0 13 (0)) hl sw kp))
    (h2 : ¬ ((g_109 ((u2 hi 0 13 (0))) x1) = 0) → (g_158 x2 (1 : Int32) (6 : Int32)) = 0 → Q (some (.long (-1))) (mkH (u2 hi 0 13 (0)) hl sw kp))
    (h3 : ¬ ((g_109 ((u2 hi 0 13 (0))) x1) = 0) → ¬ ((g_158 x2 (1 : Int32) (6 : Int32)) = 0) → (g_158 x3 (0 : Int32) (4 : Int32)) = 0 → Q (some (.long (-1))) (mkH (u2 hi 0 13 (0)) hl sw kp))
    (h4 : ¬ ((g_109 ((u2 hi 0 13 (0))) x1) = 0) → ¬ ((g_158 x2 (1 : Int32) (6 : Int32)) = 0) → ¬ ((g_158 x3 (0 : Int32) (4 : Int32)) = 0) → (g_158 x4 (0 : Int32) (1 : Int32)) = 0 → Q (some (.long (-1))) (mkH (u2 hi 0 13 (0)) hl sw kp))
    (h5 : ¬ ((g_109 ((u2 hi 0 13 (0))) x1) = 0) → ¬ ((g_158 x2 (1 : Int32) (6 : Int32)) = 0) → ¬ ((g_158 x3 (0 : Int32) (4 : Int32)) = 0) → ¬ ((g_158 x4 (0 : Int32) (1 : Int32)) = 0) → cS (d + 1) 16 [(.ref 264), (.int x1), (.int x2), (.int x3)] (mkH (u2 hi 0 13 (0)) hl sw kp) (am_ret (cW cd_140 (d + 1) Q) 59 [some (.ref 0), some (.int x1), some (.int x2), some (.int x3), some (.int x4)] []))
    : cS ((d + 1) + 1) 140 [(.ref 0), (.int x1), (.int x2), (.int x3), (.int x4)] (mkH hi hl sw kp) Q := cS.of rfl (k_140_0 h1 h2 h3 h4 h5)
set_option maxRecDepth 100000 in
theorem k_140_59 {x1 : Int32} {x2 : Int32} {x3 : Int32} {x4 : Int32}
    (h1 : cS (d + 1) 18 [(.ref 264), (.int x3)] (mkH hi hl sw kp) (am_ret (cW cd_140 (d + 1) Q) 67 [some (.ref 0), some (.int x1), some (.int x2), some (.int x3), some (.int x4)] []))
    : cW cd_140 (d + 1) Q 59 [some (.ref 0), some (.int x1), some (.int x2), some (.int x3), some (.int x4)] [] (mkH hi hl sw kp) :=
  cW.run (am_in [59, 67, 78, 95]) 4 (cC.of (h1))
set_option maxRecDepth 100000 in
theorem k_140_67 {x1 : Int32} {x2 : Int32} {x3 : Int32} {x4 : Int32} {s0 : Int32}
    (h1 : s0 = 0 → Q (some (.long (-1))) (mkH hi hl sw kp))
    (h2 : ¬ (s0 = 0) → cS (d + 1) 157 [(.ref 0)] (mkH hi hl sw kp) (am_ret (cW cd_140 (d + 1) Q) 78 [some (.ref 0), some (.int x1), some (.int x2), some (.int x3), some (.int x4)] []))
    : cW cd_140 (d + 1) Q 67 [some (.ref 0), some (.int x1), some (.int x2), some (.int x3), some (.int x4)] [(.int s0)] (mkH hi hl sw kp) :=
  cW.run (am_in [59, 67, 78, 95]) 3 (And.intro (fun c1 => (cQ.of (h1 c1))) (fun c2 => (cC.of (h2 c2))))
set_option maxRecDepth 100000 in
theorem k_140_78 {x1 : Int32} {x2 : Int32} {x3 : Int32} {x4 : Int32}
    (h1 : vp_in x2 9)
    (h2 : cS (d + 1) 160 [(.long (hl 264 4)), (.long (am_pow x2.toNatClampNeg)), (.int x4)] (mkH hi hl sw kp) (am_ret (cW cd_140 (d + 1) Q) 95 [some (.ref 0), some (.int x1), some (.int x2), some (.int x3), some (.int x4)] []))
    : cW cd_140 (d + 1) Q 78 [some (.ref 0), some (.int x1), some (.int x2), some (.int x3), some (.int x4)] [] (mkH hi hl sw kp) :=
  cW.run (am_in [59, 67, 78, 95]) 8 (And.intro (h1) (cC.of (h2)))
set_option maxRecDepth 100000 in
theorem k_140_95 {x1 : Int32} {x2 : Int32} {x3 : Int32} {x4 : Int32} {s0 : Int64}
    (h1 : Q (some (.long s0)) (mkH hi hl sw kp))
    : cW cd_140 (d + 1) Q 95 [some (.ref 0), some (.int x1), some (.int x2), some (.int x3), some (.int x4)] [(.long s0)] (mkH hi hl sw kp) :=
  cW.run (am_in [59, 67, 78, 95]) 1 (cQ.of (h1))
-- 141: DogDecrees.least(II)I
set_option maxRecDepth 100000 in
theorem k_141_0 {x1 : Int32} {x2 : Int32}
    (h1 : (g_109 ((u2 hi 0 13 (0))) x1) = 0 → Q (some (.int (-1))) (mkH (u2 hi 0 13 (0)) hl sw kp))
    (h2 : ¬ ((g_109 ((u2 hi 0 13 (0))) x1) = 0) → (g_158 x2 (1 : Int32) (6 : Int32)) = 0 → Q (some (.int (-1))) (mkH (u2 hi 0 13 (0)) hl sw kp))
    (h3 : ¬ ((g_109 ((u2 hi 0 13 (0))) x1) = 0) → ¬ ((g_158 x2 (1 : Int32) (6 : Int32)) = 0) → cS (d + 2) 16 [(.ref 264), (.int x1), (.int x2), (.int (4))] (mkH (u2 hi 0 13 (0)) hl sw kp) (am_ret (cW cd_141 (d + 2) Q) 38 [some (.ref 0), some (.int x1), some (.int x2), none] []))
    : cW cd_141 (d + 2) Q 0 [some (.ref 0), some (.int x1), some (.int x2), none] [] (mkH hi hl sw kp) :=
  cW.run (am_in [38, 40, 53, 74]) 19 (cC.of (s_109 (And.intro (fun c1 => (cQ.of (h1 c1))) (fun c2 => (cC.of (s_158 (And.intro (fun c3 => (cQ.of (h2 c2 c3))) (fun c4 => (cC.of (h3 c2 c4))))))))))
theorem e_141 {x1 : Int32} {x2 : Int32}
    (h1 : (g_109 ((u2 hi 0 13 (0))) x1) = 0 → Q (some (.int (-1))) (mkH (u2 hi 0 13 (0)) hl sw kp))
    (h2 : ¬ ((g_109 ((u2 hi 0 13 (0))) x1) = 0) → (g_158 x2 (1 : Int32) (6 : Int32)) = 0 → Q (some (.int (-1))) (mkH (u2 hi 0 13 (0)) hl sw kp))
    (h3 : ¬ ((g_109 ((u2 hi 0 13 (0))) x1) = 0) → ¬ ((g_158 x2 (1 : Int32) (6 : Int32)) = 0) → cS (d + 2) 16 [(.ref 264), (.int x1), (.int x2), (.int (4))] (mkH (u2 hi 0 13 (0)) hl sw kp) (am_ret (cW cd_141 (d + 2) Q) 38 [some (.ref 0), some (.int x1), some (.int x2), none] []))
    : cS ((d + 2) + 1) 141 [(.ref 0), (.int x1), (.int x2)] (mkH hi hl sw kp) Q := cS.of rfl (k_141_0 h1 h2 h3)
set_option maxRecDepth 100000 in
theorem k_141_38 {x1 : Int32} {x2 : Int32}
    (h1 : cW cd_141 (d + 2) Q 40 [some (.ref 0), some (.int x1), some (.int x2), some (.int (0))] [] (mkH hi hl sw kp))
    : cW cd_141 (d + 2) Q 38 [some (.ref 0), some (.int x1), some (.int x2), none] [] (mkH hi hl sw kp) :=
  cW.run (am_in [38, 40, 53, 74]) 2 (And.intro (Nat.le_of_ble_eq_true rfl) (h1))
set_option maxRecDepth 100000 in
theorem k_141_40 {x1 : Int32} {x2 : Int32} {x3 : Int32}
    (h1 : (4) < x3 → Q (some (.int (-1))) (mkH hi hl sw kp))
    (h2 : ¬ ((4) < x3) → cS (d + 2) 18 [(.ref 264), (.int x3)] (mkH hi hl sw kp) (am_ret (cW cd_141 (d + 2) Q) 53 [some (.ref 0), some (.int x1), some (.int x2), some (.int x3)] []))
    : cW cd_141 (d + 2) Q 40 [some (.ref 0), some (.int x1), some (.int x2), some (.int x3)] [] (mkH hi hl sw kp) :=
  cW.run (am_in [38, 40, 53, 74]) 7 (And.intro (fun c1 => (cQ.of (h1 c1))) (fun c2 => (cC.of (h2 c2))))
set_option maxRecDepth 100000 in
theorem k_141_53 {x1 : Int32} {x2 : Int32} {x3 : Int32} {s0 : Int32}
    (h1 : s0 = 0 → cW cd_141 (d + 2) Q 40 [some (.ref 0), some (.int x1), some (.int x2), some (.int (x3 + (1)))] [] (mkH hi hl sw kp))
    (h2 : ¬ (s0 = 0) → ¬ ((g_158 x2 (0 : Int32) (8 : Int32)) = 0) → vp_in x2 9)
    (h3 : ¬ (s0 = 0) → (g_159 (hl 264 4) x2) = 0 → cW cd_141 (d + 2) Q 40 [some (.ref 0), some (.int x1), some (.int x2), some (.int (x3 + (1)))] [] (mkH hi hl sw kp))
    (h4 : ¬ (s0 = 0) → ¬ ((g_159 (hl 264 4) x2) = 0) → cS (d + 2) 157 [(.ref 0)] (mkH hi hl sw kp) (am_ret (cW cd_141 (d + 2) Q) 74 [some (.ref 0), some (.int x1), some (.int x2), some (.int x3)] []))
    : cW cd_141 (d + 2) Q 53 [some (.ref 0), some (.int x1), some (.int x2), some (.int x3)] [(.int s0)] (mkH hi hl sw kp) :=
  cW.run (am_in [38, 40, 53, 74]) 9 (And.intro (fun c1 => (And.intro (Nat.le_of_ble_eq_true rfl) (h1 c1))) (fun c2 => (cC.of (s_159 (h2 c2) (And.intro (fun c3 => (And.intro (Nat.le_of_ble_eq_true rfl) (h3 c2 c3))) (fun c4 => (cC.of (h4 c2 c4))))))))
set_option maxRecDepth 100000 in
theorem k_141_74 {x1 : Int32} {x2 : Int32} {x3 : Int32}
    (h1 : Q (some (.int x3)) (mkH hi hl sw kp))
    : cW cd_141 (d + 2) Q 74 [some (.ref 0), some (.int x1), some (.int x2), some (.int x3)] [] (mkH hi hl sw kp) :=
  cW.run (am_in [38, 40, 53, 74]) 2 (cQ.of (h1))
-- 205: DogDecreesModel.village()I
set_option maxRecDepth 100000 in
theorem k_205_0
    (h1 : cS d 204 [(.ref 279)] (mkH hi hl sw kp) (am_ret (cW cd_205 d Q) 4 [some (.ref 279), none] []))
    : cW cd_205 d Q 0 [some (.ref 279), none] [] (mkH hi hl sw kp) :=
  cW.run (am_in [4, 69, 106, 146, 196, 221, 283, 366, 368]) 2 (cC.of (h1))
theorem e_205
    (h1 : cS d 204 [(.ref 279)] (mkH hi hl sw kp) (am_ret (cW cd_205 d Q) 4 [some (.ref 279), none] []))
    : cS (d + 1) 205 [(.ref 279)] (mkH hi hl sw kp) Q := cS.of rfl (k_205_0 h1)
set_option maxRecDepth 100000 in
theorem k_205_4
    (h1 : (hi 279 2) ≤ 0 → cW cd_205 d Q 69 [some (.ref 279), none] [] (mkH (u2 (u2 (u2 (u2 (u2 (u2 (u2 hi 279 45 (hi 279 35)) 279 46 (hi 279 36)) 279 47 (hi 279 37)) 279 48 (hi 279 38)) 279 50 (hi 279 40)) 279 51 (hi 279 41)) 279 49 (hi 279 42)) hl sw kp))
    (h2 : ¬ ((hi 279 2) ≤ 0) → Q (some (.int (-1))) (mkH hi hl sw kp))
    : cW cd_205 d Q 4 [some (.ref 279), none] [] (mkH hi hl sw kp) :=
  cW.run (am_in [4, 69, 106, 146, 196, 221, 283, 366, 368]) 31 (And.intro (fun c1 => (h1 c1)) (fun c2 => (cQ.of (h2 c2))))
set_option maxRecDepth 100000 in
theorem k_205_69
    (h1 : (hi 279 52) = 0 ∨ (hi 279 52) = 1)
    (h2 : (hi 279 52) = 0 → cW cd_205 d Q 106 [some (.ref 279), some (.int (0))] [] (mkH (u2 (u2 (u2 hi 279 21 (hi 279 20)) 279 58 (hi 279 52)) 279 18 (0)) hl sw kp))
    (h3 : ¬ ((hi 279 52) = 0) → cW cd_205 d Q 106 [some (.ref 279), some (.int (0))] [] (mkH (u2 (u2 (u2 hi 279 21 (hi 279 20)) 279 58 (hi 279 52)) 279 18 (hi 279 17)) hl sw kp))
    : cW cd_205 d Q 69 [some (.ref 279), none] [] (mkH hi hl sw kp) :=
  cW.run (am_in [4, 69, 106, 146, 196, 221, 283, 366, 368]) 18 (And.intro (h1) (And.intro (fun c1 => (And.intro (Nat.le_of_ble_eq_true rfl) (h2 c1))) (fun c2 => (And.intro (Nat.le_of_ble_eq_true rfl) (h3 c2)))))
set_option maxRecDepth 100000 in
theorem k_205_106 {x1 : Int32}
    (h1 : (hi 279 18) ≤ x1 → cW cd_205 d Q 146 [some (.ref 279), some (.int (0))] [] (mkH hi hl sw kp))
    (h2 : ¬ ((hi 279 18) ≤ x1) → vp_in x1 320)
    (h3 : ¬ ((hi 279 18) ≤ x1) → cW cd_205 d Q 106 [some (.ref 279), some (.int (x1 + (1)))] [] (mkH (u2 (u2 hi 284 x1.toNatClampNeg (hi 282 x1.toNatClampNeg)) 285 x1.toNatClampNeg (hi 283 x1.toNatClampNeg)) hl sw kp))
    : cW cd_205 d Q 106 [some (.ref 279), some (.int x1)] [] (mkH hi hl sw kp) :=
  cW.run (am_in [4, 69, 106, 146, 196, 221, 283, 366, 368]) 22 (And.intro (fun c1 => (And.intro (Nat.le_of_ble_eq_true rfl) (h1 c1))) (fun c2 => (And.intro (h2 c2) (And.intro (h2 c2) (And.intro (h2 c2) (And.intro (h2 c2) (And.intro (Nat.le_of_ble_eq_true rfl) (h3 c2))))))))
set_option maxRecDepth 100000 in
theorem k_205_146 {x1 : Int32}
    (h1 : (8) ≤ x1 → cW cd_205 d Q 196 [some (.ref 279), some (.int (0))] [] (mkH hi hl sw kp))
    (h2 : ¬ ((8) ≤ x1) → vp_in x1 8)
    (h3 : ¬ ((8) ≤ x1) → cW cd_205 d Q 146 [some (.ref 279), some (.int (x1 + (1)))] [] (mkH (u2 (u2 (u2 hi 294 x1.toNatClampNeg (hi 289 x1.toNatClampNeg)) 295 x1.toNatClampNeg (hi 290 x1.toNatClampNeg)) 296 x1.toNatClampNeg (hi 291 x1.toNatClampNeg)) hl sw kp))
    : cW cd_205 d Q 146 [some (.ref 279), some (.int x1)] [] (mkH hi hl sw kp) :=
  cW.run (am_in [4, 69, 106, 146, 196, 221, 283, 366, 368]) 29 (And.intro (fun c1 => (And.intro (Nat.le_of_ble_eq_true rfl) (h1 c1))) (fun c2 => (And.intro (h2 c2) (And.intro (h2 c2) (And.intro (h2 c2) (And.intro (h2 c2) (And.intro (h2 c2) (And.intro (h2 c2) (And.intro (Nat.le_of_ble_eq_true rfl) (h3 c2))))))))))
set_option maxRecDepth 100000 in
theorem k_205_196 {x1 : Int32}
    (h1 : (4) ≤ x1 → cW cd_205 d Q 221 [some (.ref 279), some (.int (0))] [] (mkH hi hl sw kp))
    (h2 : ¬ ((4) ≤ x1) → vp_in x1 4)
    (h3 : ¬ ((4) ≤ x1) → cW cd_205 d Q 196 [some (.ref 279), some (.int (x1 + (1)))] [] (mkH (u2 hi 297 x1.toNatClampNeg (hi 292 x1.toNatClampNeg)) hl sw kp))
    : cW cd_205 d Q 196 [some (.ref 279), some (.int x1)] [] (mkH hi hl sw kp) :=
  cW.run (am_in [4, 69, 106, 146, 196, 221, 283, 366, 368]) 13 (And.intro (fun c1 => (And.intro (Nat.le_of_ble_eq_true rfl) (h1 c1))) (fun c2 => (And.intro (h2 c2) (And.intro (h2 c2) (And.intro (Nat.le_of_ble_eq_true rfl) (h3 c2))))))
set_option maxRecDepth 100000 in
theorem k_205_221 {x1 : Int32}
    (h1 : (16) ≤ x1 → cW cd_205 d Q 283 [some (.ref 279), some (.int (0))] [] (mkH hi hl sw kp))
    (h2 : ¬ ((16) ≤ x1) → (hi 279 45) ≤ (x1 / (4)) → vp_in x1 16)
    (h3 : ¬ ((16) ≤ x1) → (hi 279 45) ≤ (x1 / (4)) → cW cd_205 d Q 221 [some (.ref 279), some (.int (x1 + (1)))] [] (mkH (u2 hi 298 x1.toNatClampNeg (0)) hl sw kp))
    (h4 : ¬ ((16) ≤ x1) → ¬ ((hi 279 45) ≤ (x1 / (4))) → (hi 279 48) ≤ (x1 - x1 / (4) * (4)) → vp_in x1 16)
    (h5 : ¬ ((16) ≤ x1) → ¬ ((hi 279 45) ≤ (x1 / (4))) → (hi 279 48) ≤ (x1 - x1 / (4) * (4)) → cW cd_205 d Q 221 [some (.ref 279), some (.int (x1 + (1)))] [] (mkH (u2 hi 298 x1.toNatClampNeg (0)) hl sw kp))
    (h6 : ¬ ((16) ≤ x1) → ¬ ((hi 279 45) ≤ (x1 / (4))) → ¬ ((hi 279 48) ≤ (x1 - x1 / (4) * (4))) → vp_in x1 16)
    (h7 : ¬ ((16) ≤ x1) → ¬ ((hi 279 45) ≤ (x1 / (4))) → ¬ ((hi 279 48) ≤ (x1 - x1 / (4) * (4))) → (hi 293 x1.toNatClampNeg) = (-1000000) → cW cd_205 d Q 221 [some (.ref 279), some (.int (x1 + (1)))] [] (mkH (u2 hi 298 x1.toNatClampNeg (0)) hl sw kp))
    (h8 : ¬ ((16) ≤ x1) → ¬ ((hi 279 45) ≤ (x1 / (4))) → ¬ ((hi 279 48) ≤ (x1 - x1 / (4) * (4))) → ¬ ((hi 293 x1.toNatClampNeg) = (-1000000)) → cW cd_205 d Q 221 [some (.ref 279), some (.int (x1 + (1)))] [] (mkH (u2 hi 298 x1.toNatClampNeg (hi 293 x1.toNatClampNeg)) hl sw kp))
    : cW cd_205 d Q 221 [some (.ref 279), some (.int x1)] [] (mkH hi hl sw kp) :=
  cW.run (am_in [4, 69, 106, 146, 196, 221, 283, 366, 368]) 32 (And.intro (fun c1 => (And.intro (Nat.le_of_ble_eq_true rfl) (h1 c1))) (fun c2 => (And.intro (show ¬ ((4) : Int32) = 0 by decide +kernel) (And.intro (fun c3 => (And.intro (h2 c2 c3) (And.intro (Nat.le_of_ble_eq_true rfl) (h3 c2 c3)))) (fun c4 => (And.intro (show ¬ ((4) : Int32) = 0 by decide +kernel) (And.intro (fun c5 => (And.intro (h4 c2 c4 c5) (And.intro (Nat.le_of_ble_eq_true rfl) (h5 c2 c4 c5)))) (fun c6 => (And.intro (h6 c2 c4 c6) (And.intro (fun c7 => (And.intro (h6 c2 c4 c6) (And.intro (Nat.le_of_ble_eq_true rfl) (h7 c2 c4 c6 c7)))) (fun c8 => (And.intro (h6 c2 c4 c6) (And.intro (h6 c2 c4 c6) (And.intro (Nat.le_of_ble_eq_true rfl) (h8 c2 c4 c6 c8)))))))))))))))
set_option maxRecDepth 100000 in
theorem k_205_283 {x1 : Int32}
    (h1 : (81) ≤ x1 → (hi 279 46) ≤ 0 → cW cd_205 d Q 366 [some (.ref 279), some (.int x1)] [] (mkH (u2 (u2 (u2 (u2 (u2 (u2 (u2 hi 299 16 (-1)) 299 18 (hi 279 43)) 299 19 (hi 279 44)) 279 66 (0)) 279 67 (0)) 279 86 (0)) 279 75 (0)) hl sw kp))
    (h2 : (81) ≤ x1 → ¬ ((hi 279 46) ≤ 0) → cW cd_205 d Q 366 [some (.ref 279), some (.int x1)] [] (mkH (u2 (u2 (u2 (u2 (u2 (u2 (u2 hi 299 16 (hi 279 42)) 299 18 (hi 279 43)) 299 19 (hi 279 44)) 279 66 (0)) 279 67 (0)) 279 86 (0)) 279 75 (0)) hl sw kp))
    (h3 : ¬ ((81) ≤ x1) → vp_in x1 82)
    (h4 : ¬ ((81) ≤ x1) → cW cd_205 d Q 283 [some (.ref 279), some (.int (x1 + (1)))] [] (mkH (u2 hi 299 x1.toNatClampNeg (0)) hl sw kp))
    : cW cd_205 d Q 283 [some (.ref 279), some (.int x1)] [] (mkH hi hl sw kp) :=
  cW.run (am_in [4, 69, 106, 146, 196, 221, 283, 366, 368]) 37 (And.intro (fun c1 => (And.intro (fun c2 => (And.intro (show vp_in 16 82 from vin_l (by decide +kernel)) (And.intro (show vp_in 18 82 from vin_l (by decide +kernel)) (And.intro (show vp_in 19 82 from vin_l (by decide +kernel)) (h1 c1 c2))))) (fun c3 => (And.intro (show vp_in 16 82 from vin_l (by decide +kernel)) (And.intro (show vp_in 18 82 from vin_l (by decide +kernel)) (And.intro (show vp_in 19 82 from vin_l (by decide +kernel)) (h2 c1 c3))))))) (fun c4 => (And.intro (h3 c4) (And.intro (Nat.le_of_ble_eq_true rfl) (h4 c4)))))
set_option maxRecDepth 100000 in
theorem k_205_366 {x1 : Int32}
    (h1 : cW cd_205 d Q 368 [some (.ref 279), some (.int (0))] [] (mkH hi hl sw kp))
    : cW cd_205 d Q 366 [some (.ref 279), some (.int x1)] [] (mkH hi hl sw kp) :=
  cW.run (am_in [4, 69, 106, 146, 196, 221, 283, 366, 368]) 2 (And.intro (Nat.le_of_ble_eq_true rfl) (h1))
set_option maxRecDepth 100000 in
theorem k_205_368 {x1 : Int32}
    (h1 : (3) ≤ x1 → Q (some (.int (hi 279 46))) (mkH hi hl sw kp))
    (h2 : ¬ ((3) ≤ x1) → vp_in x1 3)
    (h3 : ¬ ((3) ≤ x1) → cW cd_205 d Q 368 [some (.ref 279), some (.int (x1 + (1)))] [] (mkH (u2 hi 322 x1.toNatClampNeg (vp_nar .boolean (0))) hl sw kp))
    : cW cd_205 d Q 368 [some (.ref 279), some (.int x1)] [] (mkH hi hl sw kp) :=
  cW.run (am_in [4, 69, 106, 146, 196, 221, 283, 366, 368]) 10 (And.intro (fun c1 => (cQ.of (h1 c1))) (fun c2 => (And.intro (h2 c2) (And.intro (Nat.le_of_ble_eq_true rfl) (h3 c2)))))
-- 233: DogDecreesModel.layOdds(I)V
set_option maxRecDepth 100000 in
theorem k_233_0 {x1 : Int32}
    (h1 : cS d 211 [(.ref 279)] (mkH hi hl sw kp) (am_ret (cW cd_233 d Q) 4 [some (.ref 279), some (.int x1), none] []))
    : cW cd_233 d Q 0 [some (.ref 279), some (.int x1), none] [] (mkH hi hl sw kp) :=
  cW.run (am_in [4, 6, 42, 51]) 2 (cC.of (h1))
theorem e_233 {x1 : Int32}
    (h1 : cS d 211 [(.ref 279)] (mkH hi hl sw kp) (am_ret (cW cd_233 d Q) 4 [some (.ref 279), some (.int x1), none] []))
    : cS (d + 1) 233 [(.ref 279), (.int x1)] (mkH hi hl sw kp) Q := cS.of rfl (k_233_0 h1)
set_option maxRecDepth 100000 in
theorem k_233_4 {x1 : Int32}
    (h1 : cW cd_233 d Q 6 [some (.ref 279), some (.int x1), some (.int (0))] [] (mkH hi hl sw kp))
    : cW cd_233 d Q 4 [some (.ref 279), some (.int x1), none] [] (mkH hi hl sw kp) :=
  cW.run (am_in [4, 6, 42, 51]) 2 (And.intro (Nat.le_of_ble_eq_true rfl) (h1))
set_option maxRecDepth 100000 in
theorem k_233_6 {x1 : Int32} {x2 : Int32}
    (h1 : (8) ≤ x2 → cW cd_233 d Q 42 [some (.ref 279), some (.int x1), some (.int (0))] [] (mkH hi hl sw kp))
    (h2 : ¬ ((8) ≤ x2) → x2 = (hi 299 16) → vp_in x2 8)
    (h3 : ¬ ((8) ≤ x2) → x2 = (hi 299 16) → cW cd_233 d Q 6 [some (.ref 279), some (.int x1), some (.int (x2 + (1)))] [] (mkH hi (u2 hl 304 x2.toNatClampNeg 1) sw kp))
    (h4 : ¬ ((8) ≤ x2) → ¬ (x2 = (hi 299 16)) → vp_in x2 8)
    (h5 : ¬ ((8) ≤ x2) → ¬ (x2 = (hi 299 16)) → cW cd_233 d Q 6 [some (.ref 279), some (.int x1), some (.int (x2 + (1)))] [] (mkH hi (u2 hl 304 x2.toNatClampNeg 0) sw kp))
    : cW cd_233 d Q 6 [some (.ref 279), some (.int x1), some (.int x2)] [] (mkH hi hl sw kp) :=
  cW.run (am_in [4, 6, 42, 51]) 17 (And.intro (fun c1 => (And.intro (Nat.le_of_ble_eq_true rfl) (h1 c1))) (fun c2 => (And.intro (show vp_in 16 82 from vin_l (by decide +kernel)) (And.intro (fun c3 => (And.intro (h2 c2 c3) (And.intro (Nat.le_of_ble_eq_true rfl) (h3 c2 c3)))) (fun c4 => (And.intro (h4 c2 c4) (And.intro (Nat.le_of_ble_eq_true rfl) (h5 c2 c4))))))))
set_option maxRecDepth 100000 in
theorem k_233_42 {x1 : Int32} {x2 : Int32}
    (h1 : x1 ≤ x2 → Q none (mkH hi hl sw kp))
    (h2 : ¬ (x1 ≤ x2) → cS d 232 [(.ref 279)] (mkH hi hl sw kp) (am_ret (cW cd_233 d Q) 51 [some (.ref 279), some (.int x1), some (.int x2)] []))
    : cW cd_233 d Q 42 [some (.ref 279), some (.int x1), some (.int x2)] [] (mkH hi hl sw kp) :=
  cW.run (am_in [4, 6, 42, 51]) 5 (And.intro (fun c1 => (cQ.of (h1 c1))) (fun c2 => (cC.of (h2 c2))))
set_option maxRecDepth 100000 in
theorem k_233_51 {x1 : Int32} {x2 : Int32}
    (h1 : cW cd_233 d Q 42 [some (.ref 279), some (.int x1), some (.int (x2 + (1)))] [] (mkH hi hl sw kp))
    : cW cd_233 d Q 51 [some (.ref 279), some (.int x1), some (.int x2)] [] (mkH hi hl sw kp) :=
  cW.run (am_in [4, 6, 42, 51]) 2 (And.intro (Nat.le_of_ble_eq_true rfl) (h1))
-- 243: DogDecreesModel.passIn(III)J
set_option maxRecDepth 100000 in
theorem k_243_0 {x1 : Int32} {x2 : Int32} {x3 : Int32}
    (h1 : cS d 241 [(.ref 279), (.int x1), (.int x3)] (mkH hi hl sw kp) (am_ret (cW cd_243 d Q) 6 [some (.ref 279), some (.int x1), some (.int x2), some (.int x3), none] []))
    : cW cd_243 d Q 0 [some (.ref 279), some (.int x1), some (.int x2), some (.int x3), none] [] (mkH hi hl sw kp) :=
  cW.run (am_in [6, 9, 20, 30]) 4 (cC.of (h1))
theorem e_243 {x1 : Int32} {x2 : Int32} {x3 : Int32}
    (h1 : cS d 241 [(.ref 279), (.int x1), (.int x3)] (mkH hi hl sw kp) (am_ret (cW cd_243 d Q) 6 [some (.ref 279), some (.int x1), some (.int x2), some (.int x3), none] []))
    : cS (d + 1) 243 [(.ref 279), (.int x1), (.int x2), (.int x3)] (mkH hi hl sw kp) Q := cS.of rfl (k_243_0 h1)
set_option maxRecDepth 100000 in
theorem k_243_6 {x1 : Int32} {x2 : Int32} {x3 : Int32}
    (h1 : cW cd_243 d Q 9 [some (.ref 279), some (.int x1), some (.int x2), some (.int x3), some (.int (0))] [] (mkH hi hl sw kp))
    : cW cd_243 d Q 6 [some (.ref 279), some (.int x1), some (.int x2), some (.int x3), none] [] (mkH hi hl sw kp) :=
  cW.run (am_in [6, 9, 20, 30]) 2 (And.intro (Nat.le_of_ble_eq_true rfl) (h1))
set_option maxRecDepth 100000 in
theorem k_243_9 {x1 : Int32} {x2 : Int32} {x3 : Int32} {x4 : Int32}
    (h1 : x2 ≤ x4 → cS d 242 [(.ref 279)] (mkH hi hl sw kp) (am_ret (cW cd_243 d Q) 30 [some (.ref 279), some (.int x1), some (.int x2), some (.int x3), some (.int x4)] []))
    (h2 : ¬ (x2 ≤ x4) → cS d 240 [(.ref 279), (.int x1)] (mkH hi hl sw kp) (am_ret (cW cd_243 d Q) 20 [some (.ref 279), some (.int x1), some (.int x2), some (.int x3), some (.int x4)] []))
    : cW cd_243 d Q 9 [some (.ref 279), some (.int x1), some (.int x2), some (.int x3), some (.int x4)] [] (mkH hi hl sw kp) :=
  cW.run (am_in [6, 9, 20, 30]) 6 (And.intro (fun c1 => (cC.of (h1 c1))) (fun c2 => (cC.of (h2 c2))))
set_option maxRecDepth 100000 in
theorem k_243_20 {x1 : Int32} {x2 : Int32} {x3 : Int32} {x4 : Int32}
    (h1 : cW cd_243 d Q 9 [some (.ref 279), some (.int x1), some (.int x2), some (.int x3), some (.int (x4 + (1)))] [] (mkH hi hl sw kp))
    : cW cd_243 d Q 20 [some (.ref 279), some (.int x1), some (.int x2), some (.int x3), some (.int x4)] [] (mkH hi hl sw kp) :=
  cW.run (am_in [6, 9, 20, 30]) 2 (And.intro (Nat.le_of_ble_eq_true rfl) (h1))
set_option maxRecDepth 100000 in
theorem k_243_30 {x1 : Int32} {x2 : Int32} {x3 : Int32} {x4 : Int32} {s0 : Int64}
    (h1 : Q (some (.long s0)) (mkH hi hl sw kp))
    : cW cd_243 d Q 30 [some (.ref 279), some (.int x1), some (.int x2), some (.int x3), some (.int x4)] [(.long s0)] (mkH hi hl sw kp) :=
  cW.run (am_in [6, 9, 20, 30]) 1 (cQ.of (h1))
-- 263: DogDecreesModel.fed(I)I
set_option maxRecDepth 100000 in
theorem k_263_0 {x1 : Int32}
    (h1 : (g_207 x1 (1 : Int32) (8 : Int32)) = 0 → Q (some (.int (-1))) (mkH hi hl sw kp))
    (h2 : ¬ ((g_207 x1 (1 : Int32) (8 : Int32)) = 0) → x1 ≤ (hi 299 20) → cW cd_263 (d + 1) Q 32 [some (.ref 279), some (.int x1), some (.int (-1)), some (.long (-1)), none, some (.int (0)), none, none] [] (mkH hi hl sw kp))
    (h3 : ¬ ((g_207 x1 (1 : Int32) (8 : Int32)) = 0) → ¬ (x1 ≤ (hi 299 20)) → Q (some (.int (-1))) (mkH hi hl sw kp))
    : cW cd_263 (d + 1) Q 0 [some (.ref 279), some (.int x1), none, none, none, none, none, none] [] (mkH hi hl sw kp) :=
  cW.run (am_in [32, 48]) 17 (cC.of (s_207 (And.intro (fun c1 => (cQ.of (h1 c1))) (fun c2 => (And.intro (show vp_in 20 82 from vin_l (by decide +kernel)) (And.intro (fun c3 => (And.intro (Nat.le_of_ble_eq_true rfl) (And.intro (Nat.le_of_ble_eq_true rfl) (And.intro (Nat.le_of_ble_eq_true rfl) (h2 c2 c3))))) (fun c4 => (cQ.of (h3 c2 c4)))))))))
theorem e_263 {x1 : Int32}
    (h1 : (g_207 x1 (1 : Int32) (8 : Int32)) = 0 → Q (some (.int (-1))) (mkH hi hl sw kp))
    (h2 : ¬ ((g_207 x1 (1 : Int32) (8 : Int32)) = 0) → x1 ≤ (hi 299 20) → cW cd_263 (d + 1) Q 32 [some (.ref 279), some (.int x1), some (.int (-1)), some (.long (-1)), none, some (.int (0)), none, none] [] (mkH hi hl sw kp))
    (h3 : ¬ ((g_207 x1 (1 : Int32) (8 : Int32)) = 0) → ¬ (x1 ≤ (hi 299 20)) → Q (some (.int (-1))) (mkH hi hl sw kp))
    : cS ((d + 1) + 1) 263 [(.ref 279), (.int x1)] (mkH hi hl sw kp) Q := cS.of rfl (k_263_0 h1 h2 h3)
set_option maxRecDepth 100000 in
theorem k_263_32 {x1 : Int32} {x2 : Int32} {x3 : Int64} {x5 : Int32} {o6 : Option Value}
    (h1 : (hi 279 46) ≤ x5 → Q (some (.int x2)) (mkH hi hl sw kp))
    (h2 : ¬ ((hi 279 46) ≤ x5) → cS (d + 1) 262 [(.ref 279), (.int x5), (.int x1)] (mkH hi hl sw kp) (am_ret (cW cd_263 (d + 1) Q) 48 [some (.ref 279), some (.int x1), some (.int x2), some (.long x3), none, some (.int x5), o6, none] []))
    : cW cd_263 (d + 1) Q 32 [some (.ref 279), some (.int x1), some (.int x2), some (.long x3), none, some (.int x5), o6, none] [] (mkH hi hl sw kp) :=
  cW.run (am_in [32, 48]) 8 (And.intro (fun c1 => (cQ.of (h1 c1))) (fun c2 => (cC.of (h2 c2))))
set_option maxRecDepth 100000 in
theorem k_263_48 {x1 : Int32} {x2 : Int32} {x3 : Int64} {x5 : Int32} {o6 : Option Value} {s0 : Int64}
    (h1 : 0 < (lg_cmp s0 x3) → cW cd_263 (d + 1) Q 32 [some (.ref 279), some (.int x1), some (.int x5), some (.long s0), none, some (.int (x5 + (1))), some (.long s0), none] [] (mkH hi hl sw kp))
    (h2 : ¬ (0 < (lg_cmp s0 x3)) → cW cd_263 (d + 1) Q 32 [some (.ref 279), some (.int x1), some (.int x2), some (.long x3), none, some (.int (x5 + (1))), some (.long s0), none] [] (mkH hi hl sw kp))
    : cW cd_263 (d + 1) Q 48 [some (.ref 279), some (.int x1), some (.int x2), some (.long x3), none, some (.int x5), o6, none] [(.long s0)] (mkH hi hl sw kp) :=
  cW.run (am_in [32, 48]) 11 (And.intro (Nat.le_of_ble_eq_true rfl) (And.intro (fun c1 => (And.intro (Nat.le_of_ble_eq_true rfl) (And.intro (Nat.le_of_ble_eq_true rfl) (And.intro (Nat.le_of_ble_eq_true rfl) (h1 c1))))) (fun c2 => (And.intro (Nat.le_of_ble_eq_true rfl) (h2 c2)))))
end BLK
