/-! ===== blocks of methods, by program ===== -/
section BLK
variable {d : Nat} {Q : am_Q} {hi : Nat → Nat → Int32} {hl : Nat → Nat → Int64} {sw : Bool} {kp : Nat → Nat}
-- 40: DogDecrees$Odds.countWays(III)V
set_option maxRecDepth 100000 in
theorem k_40_0 {x1 : Int32} {x2 : Int32} {x3 : Int32}
    (h1 : cW cd_40 d Q 6 [some (.ref 256), some (.int x1), some (.int x2), some (.int x3), some (.int x1), some (.int (0)), none, none] [] (mkH hi hl sw kp))
    : cW cd_40 d Q 0 [some (.ref 256), some (.int x1), some (.int x2), some (.int x3), none, none, none, none] [] (mkH hi hl sw kp) :=
  cW.run (am_in [6, 26, 77]) 4 (And.intro (Nat.le_of_ble_eq_true rfl) (And.intro (Nat.le_of_ble_eq_true rfl) (h1)))
theorem e_40 {x1 : Int32} {x2 : Int32} {x3 : Int32}
    (h1 : cW cd_40 d Q 6 [some (.ref 256), some (.int x1), some (.int x2), some (.int x3), some (.int x1), some (.int (0)), none, none] [] (mkH hi hl sw kp))
    : cS (d + 1) 40 [(.ref 256), (.int x1), (.int x2), (.int x3)] (mkH hi hl sw kp) Q := cS.of rfl (k_40_0 h1)
set_option maxRecDepth 100000 in
theorem k_40_6 {x1 : Int32} {x2 : Int32} {x3 : Int32} {x4 : Int32} {x5 : Int32} {o6 : Option Value} {o7 : Option Value}
    (h1 : x3 ≤ x5 → Q none (mkH hi hl sw kp))
    (h2 : ¬ (x3 ≤ x5) → (8) ≤ x5 → Q none (mkH hi hl sw kp))
    (h3 : ¬ (x3 ≤ x5) → ¬ ((8) ≤ x5) → cW cd_40 d Q 26 [some (.ref 256), some (.int x1), some (.int x2), some (.int x3), some (.int x4), some (.int x5), some (.int x4), some (.int (0))] [] (mkH hi hl sw kp))
    : cW cd_40 d Q 6 [some (.ref 256), some (.int x1), some (.int x2), some (.int x3), some (.int x4), some (.int x5), o6, o7] [] (mkH hi hl sw kp) :=
  cW.run (am_in [6, 26, 77]) 10 (And.intro (fun c1 => (cQ.of (h1 c1))) (fun c2 => (And.intro (fun c3 => (cQ.of (h2 c2 c3))) (fun c4 => (And.intro (Nat.le_of_ble_eq_true rfl) (And.intro (Nat.le_of_ble_eq_true rfl) (h3 c2 c4)))))))
set_option maxRecDepth 100000 in
theorem k_40_26 {x1 : Int32} {x2 : Int32} {x3 : Int32} {x4 : Int32} {x5 : Int32} {x6 : Int32} {x7 : Int32}
    (h1 : (hi 19 1) ≤ x7 → cW cd_40 d Q 6 [some (.ref 256), some (.int x1), some (.int x2), some (.int x3), some (.int x6), some (.int (x5 + (1))), some (.int x6), some (.int x7)] [] (mkH hi hl sw kp))
    (h2 : ¬ ((hi 19 1) ≤ x7) → ((x4 >>> (x7 &&& 31)) &&& (1)) = 0 → cW cd_40 d Q 77 [some (.ref 256), some (.int x1), some (.int x2), some (.int x3), some (.int x4), some (.int x5), some (.int x6), some (.int x7)] [] (mkH hi hl sw kp))
    (h3 : ¬ ((hi 19 1) ≤ x7) → ¬ (((x4 >>> (x7 &&& 31)) &&& (1)) = 0) → vp_in x7 8)
    (h4 : ¬ ((hi 19 1) ≤ x7) → ¬ (((x4 >>> (x7 &&& 31)) &&& (1)) = 0) → x5 < x2 → cW cd_40 d Q 77 [some (.ref 256), some (.int x1), some (.int x2), some (.int x3), some (.int x4), some (.int x5), some (.int (x6 ||| (hi 22 x7.toNatClampNeg))), some (.int x7)] [] (mkH hi hl sw kp))
    (h5 : ¬ ((hi 19 1) ≤ x7) → ¬ (((x4 >>> (x7 &&& 31)) &&& (1)) = 0) → ¬ (x5 < x2) → cS d 41 [(.ref 256), (.int x5), (.int x7)] (mkH hi hl sw kp) (am_ret (cW cd_40 d Q) 77 [some (.ref 256), some (.int x1), some (.int x2), some (.int x3), some (.int x4), some (.int x5), some (.int (x6 ||| (hi 22 x7.toNatClampNeg))), some (.int x7)] []))
    : cW cd_40 d Q 26 [some (.ref 256), some (.int x1), some (.int x2), some (.int x3), some (.int x4), some (.int x5), some (.int x6), some (.int x7)] [] (mkH hi hl sw kp) :=
  cW.run (am_in [6, 26, 77]) 26 (And.intro (fun c1 => (And.intro (Nat.le_of_ble_eq_true rfl) (And.intro (Nat.le_of_ble_eq_true rfl) (h1 c1)))) (fun c2 => (And.intro (fun c3 => (h2 c2 c3)) (fun c4 => (And.intro (h3 c2 c4) (And.intro (Nat.le_of_ble_eq_true rfl) (And.intro (fun c5 => (h4 c2 c4 c5)) (fun c6 => (cC.of (h5 c2 c4 c6))))))))))
set_option maxRecDepth 100000 in
theorem k_40_77 {x1 : Int32} {x2 : Int32} {x3 : Int32} {x4 : Int32} {x5 : Int32} {x6 : Int32} {x7 : Int32}
    (h1 : cW cd_40 d Q 26 [some (.ref 256), some (.int x1), some (.int x2), some (.int x3), some (.int x4), some (.int x5), some (.int x6), some (.int (x7 + (1)))] [] (mkH hi hl sw kp))
    : cW cd_40 d Q 77 [some (.ref 256), some (.int x1), some (.int x2), some (.int x3), some (.int x4), some (.int x5), some (.int x6), some (.int x7)] [] (mkH hi hl sw kp) :=
  cW.run (am_in [6, 26, 77]) 2 (And.intro (Nat.le_of_ble_eq_true rfl) (h1))
-- 44: DogDecrees$Odds.goal(II)I
set_option maxRecDepth 100000 in
theorem k_44_0 {x1 : Int32} {x2 : Int32}
    (h1 : cW cd_44 (d + 2) Q 5 [some (.ref 256), some (.int x1), some (.int x2), some (.int (0)), some (.int (0))] [] (mkH hi hl sw kp))
    : cW cd_44 (d + 2) Q 0 [some (.ref 256), some (.int x1), some (.int x2), none, none] [] (mkH hi hl sw kp) :=
  cW.run (am_in [5]) 4 (And.intro (Nat.le_of_ble_eq_true rfl) (And.intro (Nat.le_of_ble_eq_true rfl) (h1)))
theorem e_44 {x1 : Int32} {x2 : Int32}
    (h1 : cW cd_44 (d + 2) Q 5 [some (.ref 256), some (.int x1), some (.int x2), some (.int (0)), some (.int (0))] [] (mkH hi hl sw kp))
    : cS ((d + 2) + 1) 44 [(.ref 256), (.int x1), (.int x2)] (mkH hi hl sw kp) Q := cS.of rfl (k_44_0 h1)
set_option maxRecDepth 100000 in
theorem k_44_5 {x1 : Int32} {x2 : Int32} {x3 : Int32} {x4 : Int32}
    (h1 : (hi 19 1) ≤ x4 → Q (some (.int x1)) (mkH hi hl sw kp))
    (h2 : ¬ ((hi 19 1) ≤ x4) → ¬ ((0 : Int32) < 0) → ¬ ((8) ≤ (0 : Int32)) → ¬ ((g_108 hi x1) = 0) → ¬ ((g_108 hi x4) = 0) → vp_in (((((0 : Int32) * (8)) + x1) * (8)) + x4) 512)
    (h3 : ¬ ((hi 19 1) ≤ x4) → (x3 + (g_43 hi (0 : Int32) x1 x4)) ≤ x2 → cW cd_44 (d + 2) Q 5 [some (.ref 256), some (.int x1), some (.int x2), some (.int (x3 + (g_43 hi (0 : Int32) x1 x4))), some (.int (x4 + (1)))] [] (mkH hi hl sw kp))
    (h4 : ¬ ((hi 19 1) ≤ x4) → ¬ ((x3 + (g_43 hi (0 : Int32) x1 x4)) ≤ x2) → Q (some (.int x4)) (mkH hi hl sw kp))
    : cW cd_44 (d + 2) Q 5 [some (.ref 256), some (.int x1), some (.int x2), some (.int x3), some (.int x4)] [] (mkH hi hl sw kp) :=
  cW.run (am_in [5]) 18 (And.intro (fun c1 => (cQ.of (h1 c1))) (fun c2 => (cC.of (s_43 (h2 c2) (And.intro (Nat.le_of_ble_eq_true rfl) (And.intro (fun c3 => (And.intro (Nat.le_of_ble_eq_true rfl) (h3 c2 c3))) (fun c4 => (cQ.of (h4 c2 c4)))))))))
-- 46: DogDecrees$Odds.roam(II)V
set_option maxRecDepth 100000 in
theorem k_46_0 {x1 : Int32} {x2 : Int32}
    (h1 : cS d 45 [(.ref 256), (.int x1), (.int (0))] (mkH hi hl sw kp) (am_ret (cW cd_46 d Q) 6 [some (.ref 256), some (.int x1), some (.int x2), none] []))
    : cW cd_46 d Q 0 [some (.ref 256), some (.int x1), some (.int x2), none] [] (mkH hi hl sw kp) :=
  cW.run (am_in [6, 8, 25]) 4 (cC.of (h1))
theorem e_46 {x1 : Int32} {x2 : Int32}
    (h1 : cS d 45 [(.ref 256), (.int x1), (.int (0))] (mkH hi hl sw kp) (am_ret (cW cd_46 d Q) 6 [some (.ref 256), some (.int x1), some (.int x2), none] []))
    : cS (d + 1) 46 [(.ref 256), (.int x1), (.int x2)] (mkH hi hl sw kp) Q := cS.of rfl (k_46_0 h1)
set_option maxRecDepth 100000 in
theorem k_46_6 {x1 : Int32} {x2 : Int32}
    (h1 : cW cd_46 d Q 8 [some (.ref 256), some (.int x1), some (.int x2), some (.int (0))] [] (mkH hi hl sw kp))
    : cW cd_46 d Q 6 [some (.ref 256), some (.int x1), some (.int x2), none] [] (mkH hi hl sw kp) :=
  cW.run (am_in [6, 8, 25]) 2 (And.intro (Nat.le_of_ble_eq_true rfl) (h1))
set_option maxRecDepth 100000 in
theorem k_46_8 {x1 : Int32} {x2 : Int32} {x3 : Int32}
    (h1 : x2 ≤ x3 → Q none (mkH hi hl sw kp))
    (h2 : ¬ (x2 ≤ x3) → (8) ≤ x3 → Q none (mkH hi hl sw kp))
    (h3 : ¬ (x2 ≤ x3) → ¬ ((8) ≤ x3) → cS d 52 [(.ref 256), (.int x3), (.int (-1))] (mkH hi hl sw kp) (am_ret (cW cd_46 d Q) 25 [some (.ref 256), some (.int x1), some (.int x2), some (.int x3)] []))
    : cW cd_46 d Q 8 [some (.ref 256), some (.int x1), some (.int x2), some (.int x3)] [] (mkH hi hl sw kp) :=
  cW.run (am_in [6, 8, 25]) 10 (And.intro (fun c1 => (cQ.of (h1 c1))) (fun c2 => (And.intro (fun c3 => (cQ.of (h2 c2 c3))) (fun c4 => (cC.of (h3 c2 c4))))))
set_option maxRecDepth 100000 in
theorem k_46_25 {x1 : Int32} {x2 : Int32} {x3 : Int32} {s0 : Int64}
    (h1 : cW cd_46 d Q 8 [some (.ref 256), some (.int x1), some (.int x2), some (.int (x3 + (1)))] [] (mkH hi hl sw kp))
    : cW cd_46 d Q 25 [some (.ref 256), some (.int x1), some (.int x2), some (.int x3)] [(.long s0)] (mkH hi hl sw kp) :=
  cW.run (am_in [6, 8, 25]) 3 (And.intro (Nat.le_of_ble_eq_true rfl) (h1))
-- 48: DogDecrees$Odds.mostHaunted()I
set_option maxRecDepth 100000 in
theorem k_48_0
    (h1 : cS d 286 [(.ref 263), (.long 0)] (mkH hi hl sw kp) (am_ret (cW cd_48 d Q) 8 [some (.ref 256), none, none] []))
    : cW cd_48 d Q 0 [some (.ref 256), none, none] [] (mkH hi hl sw kp) :=
  cW.run (am_in [8, 20, 22, 34, 37, 60, 87]) 4 (cC.of (h1))
theorem e_48
    (h1 : cS d 286 [(.ref 263), (.long 0)] (mkH hi hl sw kp) (am_ret (cW cd_48 d Q) 8 [some (.ref 256), none, none] []))
    : cS (d + 1) 48 [(.ref 256)] (mkH hi hl sw kp) Q := cS.of rfl (k_48_0 h1)
set_option maxRecDepth 100000 in
theorem k_48_8
    (h1 : cS d 45 [(.ref 256), (.int (hi 28 0)), (.int (0))] (mkH hi hl sw kp) (am_ret (cW cd_48 d Q) 20 [some (.ref 256), none, none] []))
    : cW cd_48 d Q 8 [some (.ref 256), none, none] [] (mkH hi hl sw kp) :=
  cW.run (am_in [8, 20, 22, 34, 37, 60, 87]) 6 (cC.of (h1))
set_option maxRecDepth 100000 in
theorem k_48_20
    (h1 : cW cd_48 d Q 22 [some (.ref 256), some (.int (0)), none] [] (mkH hi hl sw kp))
    : cW cd_48 d Q 20 [some (.ref 256), none, none] [] (mkH hi hl sw kp) :=
  cW.run (am_in [8, 20, 22, 34, 37, 60, 87]) 2 (And.intro (Nat.le_of_ble_eq_true rfl) (h1))
set_option maxRecDepth 100000 in
theorem k_48_22 {x1 : Int32} {o2 : Option Value}
    (h1 : (8) ≤ x1 → cW cd_48 d Q 87 [some (.ref 256), some (.int (-1)), some (.int (0))] [] (mkH hi hl sw kp))
    (h2 : ¬ ((8) ≤ x1) → cS d 52 [(.ref 256), (.int x1), (.int (-1))] (mkH hi hl sw kp) (am_ret (cW cd_48 d Q) 34 [some (.ref 256), some (.int x1), o2] []))
    : cW cd_48 d Q 22 [some (.ref 256), some (.int x1), o2] [] (mkH hi hl sw kp) :=
  cW.run (am_in [8, 20, 22, 34, 37, 60, 87]) 7 (And.intro (fun c1 => (And.intro (Nat.le_of_ble_eq_true rfl) (And.intro (Nat.le_of_ble_eq_true rfl) (h1 c1)))) (fun c2 => (cC.of (h2 c2))))
set_option maxRecDepth 100000 in
theorem k_48_34 {x1 : Int32} {o2 : Option Value} {s0 : Int64}
    (h1 : cW cd_48 d Q 37 [some (.ref 256), some (.int x1), some (.int (0))] [] (mkH hi hl sw kp))
    : cW cd_48 d Q 34 [some (.ref 256), some (.int x1), o2] [(.long s0)] (mkH hi hl sw kp) :=
  cW.run (am_in [8, 20, 22, 34, 37, 60, 87]) 3 (And.intro (Nat.le_of_ble_eq_true rfl) (h1))
set_option maxRecDepth 100000 in
theorem k_48_37 {x1 : Int32} {x2 : Int32}
    (h1 : (hi 19 1) ≤ x2 → cW cd_48 d Q 22 [some (.ref 256), some (.int (x1 + (1))), some (.int x2)] [] (mkH hi hl sw kp))
    (h2 : ¬ ((hi 19 1) ≤ x2) → vp_in x2 8)
    (h3 : ¬ ((hi 19 1) ≤ x2) → cS d 47 [(.ref 256), (.int x2)] (mkH hi hl sw kp) (am_ret (cW cd_48 d Q) 60 [some (.ref 256), some (.int x1), some (.int x2)] [(.long (hl 263 x2.toNatClampNeg)), (.int x2), (.ref 263)]))
    : cW cd_48 d Q 37 [some (.ref 256), some (.int x1), some (.int x2)] [] (mkH hi hl sw kp) :=
  cW.run (am_in [8, 20, 22, 34, 37, 60, 87]) 13 (And.intro (fun c1 => (And.intro (Nat.le_of_ble_eq_true rfl) (h1 c1))) (fun c2 => (And.intro rfl (And.intro rfl (And.intro (h2 c2) (cC.of (h3 c2)))))))
set_option maxRecDepth 100000 in
theorem k_48_60 {x1 : Int32} {x2 : Int32} {s1 : Int32} {s2 : Int64} {s3 : Int64}
    (h1 : vp_in ((7) - x1) 9)
    (h2 : vp_in s1 8)
    (h3 : cW cd_48 d Q 37 [some (.ref 256), some (.int x1), some (.int (x2 + (1)))] [] (mkH hi (u2 hl 263 s1.toNatClampNeg (s2 + (s3 * (am_pow ((7) - x1).toNatClampNeg)))) sw kp))
    : cW cd_48 d Q 60 [some (.ref 256), some (.int x1), some (.int x2)] [(.long s3), (.long s2), (.int s1), (.ref 263)] (mkH hi hl sw kp) :=
  cW.run (am_in [8, 20, 22, 34, 37, 60, 87]) 10 (And.intro (h1) (And.intro (h2) (And.intro (Nat.le_of_ble_eq_true rfl) (h3))))
set_option maxRecDepth 100000 in
theorem k_48_87 {x1 : Int32} {x2 : Int32}
    (h1 : (hi 19 1) ≤ x2 → Q (some (.int x1)) (mkH hi hl sw kp))
    (h2 : ¬ ((hi 19 1) ≤ x2) → x1 = (-1) → cW cd_48 d Q 87 [some (.ref 256), some (.int x2), some (.int (x2 + (1)))] [] (mkH hi hl sw kp))
    (h3 : ¬ ((hi 19 1) ≤ x2) → ¬ (x1 = (-1)) → vp_in x2 8)
    (h4 : ¬ ((hi 19 1) ≤ x2) → ¬ (x1 = (-1)) → vp_in x1 8)
    (h5 : ¬ ((hi 19 1) ≤ x2) → ¬ (x1 = (-1)) → (lg_cmp (hl 263 x2.toNatClampNeg) (hl 263 x1.toNatClampNeg)) ≤ 0 → cW cd_48 d Q 87 [some (.ref 256), some (.int x1), some (.int (x2 + (1)))] [] (mkH hi hl sw kp))
    (h6 : ¬ ((hi 19 1) ≤ x2) → ¬ (x1 = (-1)) → ¬ ((lg_cmp (hl 263 x2.toNatClampNeg) (hl 263 x1.toNatClampNeg)) ≤ 0) → cW cd_48 d Q 87 [some (.ref 256), some (.int x2), some (.int (x2 + (1)))] [] (mkH hi hl sw kp))
    : cW cd_48 d Q 87 [some (.ref 256), some (.int x1), some (.int x2)] [] (mkH hi hl sw kp) :=
  cW.run (am_in [8, 20, 22, 34, 37, 60, 87]) 22 (And.intro (fun c1 => (cQ.of (h1 c1))) (fun c2 => (And.intro (fun c3 => (And.intro (Nat.le_of_ble_eq_true rfl) (And.intro (Nat.le_of_ble_eq_true rfl) (h2 c2 c3)))) (fun c4 => (And.intro (h3 c2 c4) (And.intro (h4 c2 c4) (And.intro (fun c5 => (And.intro (Nat.le_of_ble_eq_true rfl) (h5 c2 c4 c5))) (fun c6 => (And.intro (Nat.le_of_ble_eq_true rfl) (And.intro (Nat.le_of_ble_eq_true rfl) (h6 c2 c4 c6)))))))))))
-- 49: DogDecrees$Odds.waysToPass(II)J
set_option maxRecDepth 100000 in
theorem k_49_0 {x1 : Int32} {x2 : Int32}
    (h1 : (g_109 hi (hi 256 6)) = 0 → Q (some (.long 0)) (mkH hi hl sw kp))
    (h2 : ¬ ((g_109 hi (hi 256 6)) = 0) → (g_158 x2 (0 : Int32) (8 : Int32)) = 0 → Q (some (.long 0)) (mkH hi hl sw kp))
    (h3 : ¬ ((g_109 hi (hi 256 6)) = 0) → ¬ ((g_158 x2 (0 : Int32) (8 : Int32)) = 0) → vp_in (hi 256 6) 4)
    (h4 : ¬ ((g_109 hi (hi 256 6)) = 0) → ¬ ((g_158 x2 (0 : Int32) (8 : Int32)) = 0) → (hi 31 (hi 256 6).toNatClampNeg) = (2) → Q (some (.long 0)) (mkH hi hl sw kp))
    (h5 : ¬ ((g_109 hi (hi 256 6)) = 0) → ¬ ((g_158 x2 (0 : Int32) (8 : Int32)) = 0) → ¬ ((hi 31 (hi 256 6).toNatClampNeg) = (2)) → (hi 31 (hi 256 6).toNatClampNeg) = (1) → vp_in x2 9)
    (h6 : ¬ ((g_109 hi (hi 256 6)) = 0) → ¬ ((g_158 x2 (0 : Int32) (8 : Int32)) = 0) → ¬ ((hi 31 (hi 256 6).toNatClampNeg) = (2)) → (hi 31 (hi 256 6).toNatClampNeg) = (1) → Q (some (.long (am_pow x2.toNatClampNeg))) (mkH hi hl sw kp))
    (h7 : ¬ ((g_109 hi (hi 256 6)) = 0) → ¬ ((g_158 x2 (0 : Int32) (8 : Int32)) = 0) → ¬ ((hi 31 (hi 256 6).toNatClampNeg) = (2)) → ¬ ((hi 31 (hi 256 6).toNatClampNeg) = (1)) → cS (d + 1) 45 [(.ref 256), (.int x1), (.int (hi 30 (hi 256 6).toNatClampNeg))] (mkH hi hl sw kp) (am_ret (cW cd_49 (d + 1) Q) 81 [some (.ref 256), some (.int x1), some (.int x2), none, none, none, none, none] []))
    : cW cd_49 (d + 1) Q 0 [some (.ref 256), some (.int x1), some (.int x2), none, none, none, none, none] [] (mkH hi hl sw kp) :=
  cW.run (am_in [81, 86, 93, 208]) 36 (cC.of (s_109 (And.intro (fun c1 => (cQ.of (h1 c1))) (fun c2 => (cC.of (s_158 (And.intro (fun c3 => (cQ.of (h2 c2 c3))) (fun c4 => (And.intro (h3 c2 c4) (And.intro (fun c5 => (cQ.of (h4 c2 c4 c5))) (fun c6 => (And.intro (h3 c2 c4) (And.intro (fun c7 => (And.intro (h5 c2 c4 c6 c7) (cQ.of (h6 c2 c4 c6 c7)))) (fun c8 => (And.intro (h3 c2 c4) (cC.of (h7 c2 c4 c6 c8)))))))))))))))))
theorem e_49 {x1 : Int32} {x2 : Int32}
    (h1 : (g_109 hi (hi 256 6)) = 0 → Q (some (.long 0)) (mkH hi hl sw kp))
    (h2 : ¬ ((g_109 hi (hi 256 6)) = 0) → (g_158 x2 (0 : Int32) (8 : Int32)) = 0 → Q (some (.long 0)) (mkH hi hl sw kp))
    (h3 : ¬ ((g_109 hi (hi 256 6)) = 0) → ¬ ((g_158 x2 (0 : Int32) (8 : Int32)) = 0) → vp_in (hi 256 6) 4)
    (h4 : ¬ ((g_109 hi (hi 256 6)) = 0) → ¬ ((g_158 x2 (0 : Int32) (8 : Int32)) = 0) → (hi 31 (hi 256 6).toNatClampNeg) = (2) → Q (some (.long 0)) (mkH hi hl sw kp))
    (h5 : ¬ ((g_109 hi (hi 256 6)) = 0) → ¬ ((g_158 x2 (0 : Int32) (8 : Int32)) = 0) → ¬ ((hi 31 (hi 256 6).toNatClampNeg) = (2)) → (hi 31 (hi 256 6).toNatClampNeg) = (1) → vp_in x2 9)
    (h6 : ¬ ((g_109 hi (hi 256 6)) = 0) → ¬ ((g_158 x2 (0 : Int32) (8 : Int32)) = 0) → ¬ ((hi 31 (hi 256 6).toNatClampNeg) = (2)) → (hi 31 (hi 256 6).toNatClampNeg) = (1) → Q (some (.long (am_pow x2.toNatClampNeg))) (mkH hi hl sw kp))
    (h7 : ¬ ((g_109 hi (hi 256 6)) = 0) → ¬ ((g_158 x2 (0 : Int32) (8 : Int32)) = 0) → ¬ ((hi 31 (hi 256 6).toNatClampNeg) = (2)) → ¬ ((hi 31 (hi 256 6).toNatClampNeg) = (1)) → cS (d + 1) 45 [(.ref 256), (.int x1), (.int (hi 30 (hi 256 6).toNatClampNeg))] (mkH hi hl sw kp) (am_ret (cW cd_49 (d + 1) Q) 81 [some (.ref 256), some (.int x1), some (.int x2), none, none, none, none, none] []))
    : cS ((d + 1) + 1) 49 [(.ref 256), (.int x1), (.int x2)] (mkH hi hl sw kp) Q := cS.of rfl (k_49_0 h1 h2 h3 h4 h5 h6 h7)
set_option maxRecDepth 100000 in
theorem k_49_81 {x1 : Int32} {x2 : Int32}
    (h1 : cS (d + 1) 51 [(.ref 256), (.int x2)] (mkH hi hl sw kp) (am_ret (cW cd_49 (d + 1) Q) 86 [some (.ref 256), some (.int x1), some (.int x2), none, none, none, none, none] []))
    : cW cd_49 (d + 1) Q 81 [some (.ref 256), some (.int x1), some (.int x2), none, none, none, none, none] [] (mkH hi hl sw kp) :=
  cW.run (am_in [81, 86, 93, 208]) 3 (cC.of (h1))
set_option maxRecDepth 100000 in
theorem k_49_86 {x1 : Int32} {x2 : Int32} {s0 : Int32}
    (h1 : cW cd_49 (d + 1) Q 93 [some (.ref 256), some (.int x1), some (.int x2), some (.int s0), some (.long 0), none, some (.int (0)), none] [] (mkH hi hl sw kp))
    : cW cd_49 (d + 1) Q 86 [some (.ref 256), some (.int x1), some (.int x2), none, none, none, none, none] [(.int s0)] (mkH hi hl sw kp) :=
  cW.run (am_in [81, 86, 93, 208]) 5 (And.intro (Nat.le_of_ble_eq_true rfl) (And.intro (Nat.le_of_ble_eq_true rfl) (And.intro (Nat.le_of_ble_eq_true rfl) (h1))))
set_option maxRecDepth 100000 in
theorem k_49_93 {x1 : Int32} {x2 : Int32} {x3 : Int32} {x4 : Int64} {x6 : Int32} {o7 : Option Value}
    (h1 : x2 ≤ x6 → Q (some (.long x4)) (mkH hi hl sw kp))
    (h2 : ¬ (x2 ≤ x6) → vp_in (hi 256 6) 4)
    (h3 : ¬ (x2 ≤ x6) → (if (hi 256 13) < ((hi 23 (hi 256 6).toNatClampNeg) - (x3 * (hi 256 8))) then ((hi 23 (hi 256 6).toNatClampNeg) - (x3 * (hi 256 8))) else (hi 256 13)) ≤ (hi 256 14) → (g_120 ((u2 hi 256 13 (if (hi 256 13) < ((hi 23 (hi 256 6).toNatClampNeg) - (x3 * (hi 256 8))) then ((hi 23 (hi 256 6).toNatClampNeg) - (x3 * (hi 256 8))) else (hi 256 13)))) ((hi 28 1) + x6)) = (hi 256 6) → cS (d + 1) 52 [(.ref 256), (.int x6), (.int (hi 256 6))] (mkH (u2 hi 256 13 (if (hi 256 13) < ((hi 23 (hi 256 6).toNatClampNeg) - (x3 * (hi 256 8))) then ((hi 23 (hi 256 6).toNatClampNeg) - (x3 * (hi 256 8))) else (hi 256 13))) hl sw kp) (am_ret (cW cd_49 (d + 1) Q) 208 [some (.ref 256), some (.int x1), some (.int x2), some (.int x3), some (.long x4), none, some (.int x6), some (.int (1))] [(.long (x4 * (60)))]))
    (h4 : ¬ (x2 ≤ x6) → (if (hi 256 13) < ((hi 23 (hi 256 6).toNatClampNeg) - (x3 * (hi 256 8))) then ((hi 23 (hi 256 6).toNatClampNeg) - (x3 * (hi 256 8))) else (hi 256 13)) ≤ (hi 256 14) → ¬ ((g_120 ((u2 hi 256 13 (if (hi 256 13) < ((hi 23 (hi 256 6).toNatClampNeg) - (x3 * (hi 256 8))) then ((hi 23 (hi 256 6).toNatClampNeg) - (x3 * (hi 256 8))) else (hi 256 13)))) ((hi 28 1) + x6)) = (hi 256 6)) → cS (d + 1) 52 [(.ref 256), (.int x6), (.int (-1))] (mkH (u2 hi 256 13 (if (hi 256 13) < ((hi 23 (hi 256 6).toNatClampNeg) - (x3 * (hi 256 8))) then ((hi 23 (hi 256 6).toNatClampNeg) - (x3 * (hi 256 8))) else (hi 256 13))) hl sw kp) (am_ret (cW cd_49 (d + 1) Q) 208 [some (.ref 256), some (.int x1), some (.int x2), some (.int x3), some (.long x4), none, some (.int x6), some (.int (0))] [(.long (x4 * (60)))]))
    (h5 : ¬ (x2 ≤ x6) → ¬ ((if (hi 256 13) < ((hi 23 (hi 256 6).toNatClampNeg) - (x3 * (hi 256 8))) then ((hi 23 (hi 256 6).toNatClampNeg) - (x3 * (hi 256 8))) else (hi 256 13)) ≤ (hi 256 14)) → vp_in (x2 - x6) 9)
    (h6 : ¬ (x2 ≤ x6) → ¬ ((if (hi 256 13) < ((hi 23 (hi 256 6).toNatClampNeg) - (x3 * (hi 256 8))) then ((hi 23 (hi 256 6).toNatClampNeg) - (x3 * (hi 256 8))) else (hi 256 13)) ≤ (hi 256 14)) → Q (some (.long (x4 * (am_pow (x2 - x6).toNatClampNeg)))) (mkH (u2 hi 256 13 (if (hi 256 13) < ((hi 23 (hi 256 6).toNatClampNeg) - (x3 * (hi 256 8))) then ((hi 23 (hi 256 6).toNatClampNeg) - (x3 * (hi 256 8))) else (hi 256 13))) hl sw kp))
    : cW cd_49 (d + 1) Q 93 [some (.ref 256), some (.int x1), some (.int x2), some (.int x3), some (.long x4), none, some (.int x6), o7] [] (mkH hi hl sw kp) :=
  cW.run (am_in [81, 86, 93, 208]) 49 (And.intro (fun c1 => (cQ.of (h1 c1))) (fun c2 => (And.intro (h2 c2) (And.intro (fun c3 => (cC.of (s_120 (And.intro (fun c4 => (And.intro (Nat.le_of_ble_eq_true rfl) (And.intro (fun z => absurd (show (1 : Int32) = 0 from z) (by decide)) (fun _ => (cC.of (h3 c2 c3 c4)))))) (fun c5 => (And.intro (Nat.le_of_ble_eq_true rfl) (And.intro (fun _ => (cC.of (h4 c2 c3 c5))) (fun z => absurd (show (0 : Int32) = 0 by decide) z)))))))) (fun c6 => (And.intro (h5 c2 c6) (cQ.of (h6 c2 c6))))))))
set_option maxRecDepth 100000 in
theorem k_49_208 {x1 : Int32} {x2 : Int32} {x3 : Int32} {x4 : Int64} {x6 : Int32} {x7 : Int32} {s0 : Int64} {s1 : Int64}
    (h1 : x7 = 0 → cW cd_49 (d + 1) Q 93 [some (.ref 256), some (.int x1), some (.int x2), some (.int (x3 - (0))), some (.long (s0 + s1)), none, some (.int (x6 + (1))), some (.int x7)] [] (mkH hi hl sw kp))
    (h2 : ¬ (x7 = 0) → cW cd_49 (d + 1) Q 93 [some (.ref 256), some (.int x1), some (.int x2), some (.int (x3 - (1))), some (.long (s0 + s1)), none, some (.int (x6 + (1))), some (.int x7)] [] (mkH hi hl sw kp))
    : cW cd_49 (d + 1) Q 208 [some (.ref 256), some (.int x1), some (.int x2), some (.int x3), some (.long x4), none, some (.int x6), some (.int x7)] [(.long s1), (.long s0)] (mkH hi hl sw kp) :=
  cW.run (am_in [81, 86, 93, 208]) 11 (And.intro (Nat.le_of_ble_eq_true rfl) (And.intro (fun c1 => (And.intro (Nat.le_of_ble_eq_true rfl) (And.intro (Nat.le_of_ble_eq_true rfl) (h1 c1)))) (fun c2 => (And.intro (Nat.le_of_ble_eq_true rfl) (And.intro (Nat.le_of_ble_eq_true rfl) (h2 c2))))))
-- 50: DogDecrees$Odds.aimAt(I)V
set_option maxRecDepth 100000 in
theorem k_50_0 {x1 : Int32}
    (h1 : cW cd_50 (d + 2) Q 17 [some (.ref 256), some (.int x1), some (.int (0))] [] (mkH (u2 (u2 (u2 hi 256 6 x1) 256 7 (0)) 256 8 (0)) hl sw kp))
    : cW cd_50 (d + 2) Q 0 [some (.ref 256), some (.int x1), none] [] (mkH hi hl sw kp) :=
  cW.run (am_in [17]) 11 (And.intro (Nat.le_of_ble_eq_true rfl) (h1))
theorem e_50 {x1 : Int32}
    (h1 : cW cd_50 (d + 2) Q 17 [some (.ref 256), some (.int x1), some (.int (0))] [] (mkH (u2 (u2 (u2 hi 256 6 x1) 256 7 (0)) 256 8 (0)) hl sw kp))
    : cS ((d + 2) + 1) 50 [(.ref 256), (.int x1)] (mkH hi hl sw kp) Q := cS.of rfl (k_50_0 h1)
set_option maxRecDepth 100000 in
theorem k_50_17 {x1 : Int32} {x2 : Int32}
    (h1 : (hi 19 1) ≤ x2 → Q none (mkH hi hl sw kp))
    (h2 : ¬ ((hi 19 1) ≤ x2) → ¬ ((g_108 hi x2) = 0) → ¬ ((g_109 hi x1) = 0) → vp_in x2 8)
    (h3 : ¬ ((hi 19 1) ≤ x2) → ¬ ((g_108 hi x2) = 0) → ¬ ((g_109 hi x1) = 0) → ¬ ((g_110 hi (hi 21 x2.toNatClampNeg)) = 0) → vp_in (((hi 21 x2.toNatClampNeg) * (4)) + x1) 16)
    (h4 : ¬ ((hi 19 1) ≤ x2) → vp_in x2 8)
    (h5 : ¬ ((hi 19 1) ≤ x2) → cW cd_50 (d + 2) Q 17 [some (.ref 256), some (.int x1), some (.int (x2 + (1)))] [] (mkH (u2 (u2 (u2 hi 260 x2.toNatClampNeg (g_116 hi x2 x1)) 256 7 (if ((u2 hi 260 x2.toNatClampNeg (g_116 hi x2 x1)) 260 x2.toNatClampNeg) < (hi 256 7) then ((u2 hi 260 x2.toNatClampNeg (g_116 hi x2 x1)) 260 x2.toNatClampNeg) else (hi 256 7))) 256 8 (if (hi 256 8) < ((u2 hi 260 x2.toNatClampNeg (g_116 hi x2 x1)) 260 x2.toNatClampNeg) then ((u2 hi 260 x2.toNatClampNeg (g_116 hi x2 x1)) 260 x2.toNatClampNeg) else (hi 256 8))) hl sw kp))
    : cW cd_50 (d + 2) Q 17 [some (.ref 256), some (.int x1), some (.int x2)] [] (mkH hi hl sw kp) :=
  cW.run (am_in [17]) 34 (And.intro (fun c1 => (cQ.of (h1 c1))) (fun c2 => (cC.of (s_116 (h2 c2) (h3 c2) (And.intro (h4 c2) (And.intro (h4 c2) (And.intro (h4 c2) (And.intro (Nat.le_of_ble_eq_true rfl) (h5 c2)))))))))
-- 54: DogDecrees$Odds.waysOfWalk(I)J
set_option maxRecDepth 100000 in
theorem k_54_0 {x1 : Int32}
    (h1 : ¬ (x1 < 0) → ¬ ((60) ≤ x1) → x1 < (hi 28 1) → vp_in ((((hi 28 1) - (1)) - x1) - (((hi 28 1) - (1)) - x1) / (60) * (60)) 60)
    (h2 : (g_83 hi x1) = (-1) → cW cd_54 (d + 2) Q 32 [some (.ref 256), some (.int x1), some (.long 1), none, some (.int (hi 19 6)), some (.int (x1 - (1))), none] [] (mkH hi hl sw kp))
    (h3 : ¬ ((g_83 hi x1) = (-1)) → cW cd_54 (d + 2) Q 32 [some (.ref 256), some (.int x1), some (.long 1), none, some (.int (g_83 hi x1)), some (.int (x1 - (1))), none] [] (mkH hi hl sw kp))
    : cW cd_54 (d + 2) Q 0 [some (.ref 256), some (.int x1), none, none, none, none, none] [] (mkH hi hl sw kp) :=
  cW.run (am_in [32]) 18 (And.intro (Nat.le_of_ble_eq_true rfl) (cC.of (s_83 (h1) (And.intro (Nat.le_of_ble_eq_true rfl) (And.intro (fun c1 => (And.intro (Nat.le_of_ble_eq_true rfl) (And.intro (Nat.le_of_ble_eq_true rfl) (h2 c1)))) (fun c2 => (And.intro (Nat.le_of_ble_eq_true rfl) (h3 c2))))))))
theorem e_54 {x1 : Int32}
    (h1 : ¬ (x1 < 0) → ¬ ((60) ≤ x1) → x1 < (hi 28 1) → vp_in ((((hi 28 1) - (1)) - x1) - (((hi 28 1) - (1)) - x1) / (60) * (60)) 60)
    (h2 : (g_83 hi x1) = (-1) → cW cd_54 (d + 2) Q 32 [some (.ref 256), some (.int x1), some (.long 1), none, some (.int (hi 19 6)), some (.int (x1 - (1))), none] [] (mkH hi hl sw kp))
    (h3 : ¬ ((g_83 hi x1) = (-1)) → cW cd_54 (d + 2) Q 32 [some (.ref 256), some (.int x1), some (.long 1), none, some (.int (g_83 hi x1)), some (.int (x1 - (1))), none] [] (mkH hi hl sw kp))
    : cS ((d + 2) + 1) 54 [(.ref 256), (.int x1)] (mkH hi hl sw kp) Q := cS.of rfl (k_54_0 h1 h2 h3)
set_option maxRecDepth 100000 in
theorem k_54_32 {x1 : Int32} {x2 : Int64} {x4 : Int32} {x5 : Int32} {o6 : Option Value}
    (h1 : x5 < 0 → Q (some (.long x2)) (mkH hi hl sw kp))
    (h2 : ¬ (x5 < 0) → ¬ (x5 < 0) → ¬ ((60) ≤ x5) → x5 < (hi 28 1) → vp_in ((((hi 28 1) - (1)) - x5) - (((hi 28 1) - (1)) - x5) / (60) * (60)) 60)
    (h3 : ¬ (x5 < 0) → ¬ ((0 : Int32) < 0) → ¬ ((8) ≤ (0 : Int32)) → ¬ ((g_108 hi x4) = 0) → ¬ ((g_108 hi (g_83 hi x5)) = 0) → vp_in (((((0 : Int32) * (8)) + x4) * (8)) + (g_83 hi x5)) 512)
    (h4 : ¬ (x5 < 0) → cW cd_54 (d + 2) Q 32 [some (.ref 256), some (.int x1), some (.long (x2 * ((g_43 hi (0 : Int32) x4 (g_83 hi x5)).toInt64))), none, some (.int (g_83 hi x5)), some (.int (x5 + (-1))), some (.int (g_83 hi x5))] [] (mkH hi hl sw kp))
    : cW cd_54 (d + 2) Q 32 [some (.ref 256), some (.int x1), some (.long x2), none, some (.int x4), some (.int x5), o6] [] (mkH hi hl sw kp) :=
  cW.run (am_in [32]) 20 (And.intro (fun c1 => (cQ.of (h1 c1))) (fun c2 => (cC.of (s_83 (h2 c2) (And.intro (Nat.le_of_ble_eq_true rfl) (cC.of (s_43 (h3 c2) (And.intro (Nat.le_of_ble_eq_true rfl) (And.intro (Nat.le_of_ble_eq_true rfl) (And.intro (Nat.le_of_ble_eq_true rfl) (h4 c2)))))))))))
-- 67: DogDecrees$Reader.advance()V
set_option maxRecDepth 100000 in
theorem k_67_0
    (h1 : (hi 1 1) ≤ (hi 3 6) → (g_88 ((u2 hi 3 3 (hi 3 6))) (hi 3 6)) = (-1) → Q none (mkH (u2 (u2 hi 3 3 (hi 3 6)) 3 2 (0)) hl sw kp))
    (h2 : (hi 1 1) ≤ (hi 3 6) → ¬ ((g_88 ((u2 hi 3 3 (hi 3 6))) (hi 3 6)) = (-1)) → (g_75 (g_88 ((u2 hi 3 3 (hi 3 6))) (hi 3 6))) = 0 → (g_76 (g_88 ((u2 hi 3 3 (hi 3 6))) (hi 3 6))) = 0 → (g_77 (g_88 ((u2 hi 3 3 (hi 3 6))) (hi 3 6))) = 0 → Q none (mkH (u2 (u2 (u2 hi 3 3 (hi 3 6)) 3 2 (1)) 3 6 ((hi 3 6) + (1))) hl sw kp))
    (h3 : (hi 1 1) ≤ (hi 3 6) → ¬ ((g_88 ((u2 hi 3 3 (hi 3 6))) (hi 3 6)) = (-1)) → (g_75 (g_88 ((u2 hi 3 3 (hi 3 6))) (hi 3 6))) = 0 → (g_76 (g_88 ((u2 hi 3 3 (hi 3 6))) (hi 3 6))) = 0 → ¬ ((g_77 (g_88 ((u2 hi 3 3 (hi 3 6))) (hi 3 6))) = 0) → Q none (mkH (u2 (u2 (u2 hi 3 3 (hi 3 6)) 3 2 (g_88 ((u2 hi 3 3 (hi 3 6))) (hi 3 6))) 3 6 ((hi 3 6) + (1))) hl sw kp))
    (h4 : (hi 1 1) ≤ (hi 3 6) → ¬ ((g_88 ((u2 hi 3 3 (hi 3 6))) (hi 3 6)) = (-1)) → (g_75 (g_88 ((u2 hi 3 3 (hi 3 6))) (hi 3 6))) = 0 → ¬ ((g_76 (g_88 ((u2 hi 3 3 (hi 3 6))) (hi 3 6))) = 0) → cS (d + 1) 69 [(.ref 3)] (mkH (u2 hi 3 3 (hi 3 6)) hl sw kp) (am_ret (cW cd_67 (d + 1) Q) 102 [some (.ref 3), some (.int (g_88 ((u2 hi 3 3 (hi 3 6))) (hi 3 6)))] []))
    (h5 : (hi 1 1) ≤ (hi 3 6) → ¬ ((g_88 ((u2 hi 3 3 (hi 3 6))) (hi 3 6)) = (-1)) → ¬ ((g_75 (g_88 ((u2 hi 3 3 (hi 3 6))) (hi 3 6))) = 0) → cS (d + 1) 68 [(.ref 3)] (mkH (u2 hi 3 3 (hi 3 6)) hl sw kp) (am_ret (cW cd_67 (d + 1) Q) 88 [some (.ref 3), some (.int (g_88 ((u2 hi 3 3 (hi 3 6))) (hi 3 6)))] []))
    (h6 : ¬ ((hi 1 1) ≤ (hi 3 6)) → (g_74 (g_88 hi (hi 3 6))) = 0 → (g_88 ((u2 hi 3 3 (hi 3 6))) (hi 3 6)) = (-1) → Q none (mkH (u2 (u2 hi 3 3 (hi 3 6)) 3 2 (0)) hl sw kp))
    (h7 : ¬ ((hi 1 1) ≤ (hi 3 6)) → (g_74 (g_88 hi (hi 3 6))) = 0 → ¬ ((g_88 ((u2 hi 3 3 (hi 3 6))) (hi 3 6)) = (-1)) → (g_75 (g_88 ((u2 hi 3 3 (hi 3 6))) (hi 3 6))) = 0 → (g_76 (g_88 ((u2 hi 3 3 (hi 3 6))) (hi 3 6))) = 0 → (g_77 (g_88 ((u2 hi 3 3 (hi 3 6))) (hi 3 6))) = 0 → Q none (mkH (u2 (u2 (u2 hi 3 3 (hi 3 6)) 3 2 (1)) 3 6 ((hi 3 6) + (1))) hl sw kp))
    (h8 : ¬ ((hi 1 1) ≤ (hi 3 6)) → (g_74 (g_88 hi (hi 3 6))) = 0 → ¬ ((g_88 ((u2 hi 3 3 (hi 3 6))) (hi 3 6)) = (-1)) → (g_75 (g_88 ((u2 hi 3 3 (hi 3 6))) (hi 3 6))) = 0 → (g_76 (g_88 ((u2 hi 3 3 (hi 3 6))) (hi 3 6))) = 0 → ¬ ((g_77 (g_88 ((u2 hi 3 3 (hi 3 6))) (hi 3 6))) = 0) → Q none (mkH (u2 (u2 (u2 hi 3 3 (hi 3 6)) 3 2 (g_88 ((u2 hi 3 3 (hi 3 6))) (hi 3 6))) 3 6 ((hi 3 6) + (1))) hl sw kp))
    (h9 : ¬ ((hi 1 1) ≤ (hi 3 6)) → (g_74 (g_88 hi (hi 3 6))) = 0 → ¬ ((g_88 ((u2 hi 3 3 (hi 3 6))) (hi 3 6)) = (-1)) → (g_75 (g_88 ((u2 hi 3 3 (hi 3 6))) (hi 3 6))) = 0 → ¬ ((g_76 (g_88 ((u2 hi 3 3 (hi 3 6))) (hi 3 6))) = 0) → cS (d + 1) 69 [(.ref 3)] (mkH (u2 hi 3 3 (hi 3 6)) hl sw kp) (am_ret (cW cd_67 (d + 1) Q) 102 [some (.ref 3), some (.int (g_88 ((u2 hi 3 3 (hi 3 6))) (hi 3 6)))] []))
    (h10 : ¬ ((hi 1 1) ≤ (hi 3 6)) → (g_74 (g_88 hi (hi 3 6))) = 0 → ¬ ((g_88 ((u2 hi 3 3 (hi 3 6))) (hi 3 6)) = (-1)) → ¬ ((g_75 (g_88 ((u2 hi 3 3 (hi 3 6))) (hi 3 6))) = 0) → cS (d + 1) 68 [(.ref 3)] (mkH (u2 hi 3 3 (hi 3 6)) hl sw kp) (am_ret (cW cd_67 (d + 1) Q) 88 [some (.ref 3), some (.int (g_88 ((u2 hi 3 3 (hi 3 6))) (hi 3 6)))] []))
    (h11 : ¬ ((hi 1 1) ≤ (hi 3 6)) → ¬ ((g_74 (g_88 hi (hi 3 6))) = 0) → cW cd_67 (d + 1) Q 0 [some (.ref 3), none] [] (mkH (u2 hi 3 6 ((hi 3 6) + (1))) hl sw kp))
    : cW cd_67 (d + 1) Q 0 [some (.ref 3), none] [] (mkH hi hl sw kp) :=
  cW.run (am_in [0, 88, 102]) 46 (And.intro (fun c1 => (cC.of (s_88 (And.intro (Nat.le_of_ble_eq_true rfl) (And.intro (fun c2 => (cQ.of (h1 c1 c2))) (fun c3 => (cC.of (s_75 (And.intro (fun c4 => (cC.of (s_76 (And.intro (fun c5 => (cC.of (s_77 (And.intro (fun c6 => (And.intro rfl (cQ.of (h2 c1 c3 c4 c5 c6)))) (fun c7 => (And.intro rfl (cQ.of (h3 c1 c3 c4 c5 c7)))))))) (fun c8 => (cC.of (h4 c1 c3 c4 c8))))))) (fun c9 => (cC.of (h5 c1 c3 c9)))))))))))) (fun c10 => (cC.of (s_88 (cC.of (s_74 (And.intro (fun c11 => (cC.of (s_88 (And.intro (Nat.le_of_ble_eq_true rfl) (And.intro (fun c12 => (cQ.of (h6 c10 c11 c12))) (fun c13 => (cC.of (s_75 (And.intro (fun c14 => (cC.of (s_76 (And.intro (fun c15 => (cC.of (s_77 (And.intro (fun c16 => (And.intro rfl (cQ.of (h7 c10 c11 c13 c14 c15 c16)))) (fun c17 => (And.intro rfl (cQ.of (h8 c10 c11 c13 c14 c15 c17)))))))) (fun c18 => (cC.of (h9 c10 c11 c13 c14 c18))))))) (fun c19 => (cC.of (h10 c10 c11 c13 c19)))))))))))) (fun c20 => (And.intro rfl (h11 c10 c20))))))))))
theorem e_67
    (h1 : (hi 1 1) ≤ (hi 3 6) → (g_88 ((u2 hi 3 3 (hi 3 6))) (hi 3 6)) = (-1) → Q none (mkH (u2 (u2 hi 3 3 (hi 3 6)) 3 2 (0)) hl sw kp))
    (h2 : (hi 1 1) ≤ (hi 3 6) → ¬ ((g_88 ((u2 hi 3 3 (hi 3 6))) (hi 3 6)) = (-1)) → (g_75 (g_88 ((u2 hi 3 3 (hi 3 6))) (hi 3 6))) = 0 → (g_76 (g_88 ((u2 hi 3 3 (hi 3 6))) (hi 3 6))) = 0 → (g_77 (g_88 ((u2 hi 3 3 (hi 3 6))) (hi 3 6))) = 0 → Q none (mkH (u2 (u2 (u2 hi 3 3 (hi 3 6)) 3 2 (1)) 3 6 ((hi 3 6) + (1))) hl sw kp))
    (h3 : (hi 1 1) ≤ (hi 3 6) → ¬ ((g_88 ((u2 hi 3 3 (hi 3 6))) (hi 3 6)) = (-1)) → (g_75 (g_88 ((u2 hi 3 3 (hi 3 6))) (hi 3 6))) = 0 → (g_76 (g_88 ((u2 hi 3 3 (hi 3 6))) (hi 3 6))) = 0 → ¬ ((g_77 (g_88 ((u2 hi 3 3 (hi 3 6))) (hi 3 6))) = 0) → Q none (mkH (u2 (u2 (u2 hi 3 3 (hi 3 6)) 3 2 (g_88 ((u2 hi 3 3 (hi 3 6))) (hi 3 6))) 3 6 ((hi 3 6) + (1))) hl sw kp))
    (h4 : (hi 1 1) ≤ (hi 3 6) → ¬ ((g_88 ((u2 hi 3 3 (hi 3 6))) (hi 3 6)) = (-1)) → (g_75 (g_88 ((u2 hi 3 3 (hi 3 6))) (hi 3 6))) = 0 → ¬ ((g_76 (g_88 ((u2 hi 3 3 (hi 3 6))) (hi 3 6))) = 0) → cS (d + 1) 69 [(.ref 3)] (mkH (u2 hi 3 3 (hi 3 6)) hl sw kp) (am_ret (cW cd_67 (d + 1) Q) 102 [some (.ref 3), some (.int (g_88 ((u2 hi 3 3 (hi 3 6))) (hi 3 6)))] []))
    (h5 : (hi 1 1) ≤ (hi 3 6) → ¬ ((g_88 ((u2 hi 3 3 (hi 3 6))) (hi 3 6)) = (-1)) → ¬ ((g_75 (g_88 ((u2 hi 3 3 (hi 3 6))) (hi 3 6))) = 0) → cS (d + 1) 68 [(.ref 3)] (mkH (u2 hi 3 3 (hi 3 6)) hl sw kp) (am_ret (cW cd_67 (d + 1) Q) 88 [some (.ref 3), some (.int (g_88 ((u2 hi 3 3 (hi 3 6))) (hi 3 6)))] []))
    (h6 : ¬ ((hi 1 1) ≤ (hi 3 6)) → (g_74 (g_88 hi (hi 3 6))) = 0 → (g_88 ((u2 hi 3 3 (hi 3 6))) (hi 3 6)) = (-1) → Q none (mkH (u2 (u2 hi 3 3 (hi 3 6)) 3 2 (0)) hl sw kp))
    (h7 : ¬ ((hi 1 1) ≤ (hi 3 6)) → (g_74 (g_88 hi (hi 3 6))) = 0 → ¬ ((g_88 ((u2 hi 3 3 (hi 3 6))) (hi 3 6)) = (-1)) → (g_75 (g_88 ((u2 hi 3 3 (hi 3 6))) (hi 3 6))) = 0 → (g_76 (g_88 ((u2 hi 3 3 (hi 3 6))) (hi 3 6))) = 0 → (g_77 (g_88 ((u2 hi 3 3 (hi 3 6))) (hi 3 6))) = 0 → Q none (mkH (u2 (u2 (u2 hi 3 3 (hi 3 6)) 3 2 (1)) 3 6 ((hi 3 6) + (1))) hl sw kp))
    (h8 : ¬ ((hi 1 1) ≤ (hi 3 6)) → (g_74 (g_88 hi (hi 3 6))) = 0 → ¬ ((g_88 ((u2 hi 3 3 (hi 3 6))) (hi 3 6)) = (-1)) → (g_75 (g_88 ((u2 hi 3 3 (hi 3 6))) (hi 3 6))) = 0 → (g_76 (g_88 ((u2 hi 3 3 (hi 3 6))) (hi 3 6))) = 0 → ¬ ((g_77 (g_88 ((u2 hi 3 3 (hi 3 6))) (hi 3 6))) = 0) → Q none (mkH (u2 (u2 (u2 hi 3 3 (hi 3 6)) 3 2 (g_88 ((u2 hi 3 3 (hi 3 6))) (hi 3 6))) 3 6 ((hi 3 6) + (1))) hl sw kp))
    (h9 : ¬ ((hi 1 1) ≤ (hi 3 6)) → (g_74 (g_88 hi (hi 3 6))) = 0 → ¬ ((g_88 ((u2 hi 3 3 (hi 3 6))) (hi 3 6)) = (-1)) → (g_75 (g_88 ((u2 hi 3 3 (hi 3 6))) (hi 3 6))) = 0 → ¬ ((g_76 (g_88 ((u2 hi 3 3 (hi 3 6))) (hi 3 6))) = 0) → cS (d + 1) 69 [(.ref 3)] (mkH (u2 hi 3 3 (hi 3 6)) hl sw kp) (am_ret (cW cd_67 (d + 1) Q) 102 [some (.ref 3), some (.int (g_88 ((u2 hi 3 3 (hi 3 6))) (hi 3 6)))] []))
    (h10 : ¬ ((hi 1 1) ≤ (hi 3 6)) → (g_74 (g_88 hi (hi 3 6))) = 0 → ¬ ((g_88 ((u2 hi 3 3 (hi 3 6))) (hi 3 6)) = (-1)) → ¬ ((g_75 (g_88 ((u2 hi 3 3 (hi 3 6))) (hi 3 6))) = 0) → cS (d + 1) 68 [(.ref 3)] (mkH (u2 hi 3 3 (hi 3 6)) hl sw kp) (am_ret (cW cd_67 (d + 1) Q) 88 [some (.ref 3), some (.int (g_88 ((u2 hi 3 3 (hi 3 6))) (hi 3 6)))] []))
    (h11 : ¬ ((hi 1 1) ≤ (hi 3 6)) → ¬ ((g_74 (g_88 hi (hi 3 6))) = 0) → cW cd_67 (d + 1) Q 0 [some (.ref 3), none] [] (mkH (u2 hi 3 6 ((hi 3 6) + (1))) hl sw kp))
    : cS ((d + 1) + 1) 67 [(.ref 3)] (mkH hi hl sw kp) Q := cS.of rfl (k_67_0 h1 h2 h3 h4 h5 h6 h7 h8 h9 h10 h11)
set_option maxRecDepth 100000 in
theorem k_67_88 {x1 : Int32}
    (h1 : Q none (mkH hi hl sw kp))
    : cW cd_67 (d + 1) Q 88 [some (.ref 3), some (.int x1)] [] (mkH hi hl sw kp) :=
  cW.run (am_in [0, 88, 102]) 2 (cQ.of (h1))
set_option maxRecDepth 100000 in
theorem k_67_102 {x1 : Int32}
    (h1 : Q none (mkH hi hl sw kp))
    : cW cd_67 (d + 1) Q 102 [some (.ref 3), some (.int x1)] [] (mkH hi hl sw kp) :=
  cW.run (am_in [0, 88, 102]) 2 (cQ.of (h1))
-- 82: DogDecrees$State.countDeed(LDogDecrees$Village;I)V
set_option maxRecDepth 100000 in
theorem k_82_0 {x2 : Int32}
    (h1 : (g_109 hi x2) = 0 → Q none (mkH hi hl sw kp))
    (h2 : ¬ ((g_109 hi x2) = 0) → vp_in x2 4)
    (h3 : ¬ ((g_109 hi x2) = 0) → (hi 31 x2.toNatClampNeg) = 0 → ¬ ((g_108 hi (hi 28 0)) = 0) → ¬ ((g_109 hi x2) = 0) → vp_in (hi 28 0) 8)
    (h4 : ¬ ((g_109 hi x2) = 0) → (hi 31 x2.toNatClampNeg) = 0 → ¬ ((g_108 hi (hi 28 0)) = 0) → ¬ ((g_109 hi x2) = 0) → ¬ ((g_110 hi (hi 21 (hi 28 0).toNatClampNeg)) = 0) → vp_in (((hi 21 (hi 28 0).toNatClampNeg) * (4)) + x2) 16)
    (h5 : ¬ ((g_109 hi x2) = 0) → (hi 31 x2.toNatClampNeg) = 0 → ((u2 hi 30 x2.toNatClampNeg ((hi 30 x2.toNatClampNeg) + (g_116 hi (hi 28 0) x2))) 30 x2.toNatClampNeg) < (hi 23 x2.toNatClampNeg) → (-(hi 23 x2.toNatClampNeg)) < ((u2 hi 30 x2.toNatClampNeg ((hi 30 x2.toNatClampNeg) + (g_116 hi (hi 28 0) x2))) 30 x2.toNatClampNeg) → Q none (mkH (u2 hi 30 x2.toNatClampNeg ((hi 30 x2.toNatClampNeg) + (g_116 hi (hi 28 0) x2))) hl sw kp))
    (h6 : ¬ ((g_109 hi x2) = 0) → (hi 31 x2.toNatClampNeg) = 0 → ((u2 hi 30 x2.toNatClampNeg ((hi 30 x2.toNatClampNeg) + (g_116 hi (hi 28 0) x2))) 30 x2.toNatClampNeg) < (hi 23 x2.toNatClampNeg) → ¬ ((-(hi 23 x2.toNatClampNeg)) < ((u2 hi 30 x2.toNatClampNeg ((hi 30 x2.toNatClampNeg) + (g_116 hi (hi 28 0) x2))) 30 x2.toNatClampNeg)) → Q none (mkH (u2 (u2 hi 30 x2.toNatClampNeg ((hi 30 x2.toNatClampNeg) + (g_116 hi (hi 28 0) x2))) 31 x2.toNatClampNeg (2)) hl sw kp))
    (h7 : ¬ ((g_109 hi x2) = 0) → (hi 31 x2.toNatClampNeg) = 0 → ¬ (((u2 hi 30 x2.toNatClampNeg ((hi 30 x2.toNatClampNeg) + (g_116 hi (hi 28 0) x2))) 30 x2.toNatClampNeg) < (hi 23 x2.toNatClampNeg)) → Q none (mkH (u2 (u2 hi 30 x2.toNatClampNeg ((hi 30 x2.toNatClampNeg) + (g_116 hi (hi 28 0) x2))) 31 x2.toNatClampNeg (1)) hl sw kp))
    (h8 : ¬ ((g_109 hi x2) = 0) → ¬ ((hi 31 x2.toNatClampNeg) = 0) → Q none (mkH hi hl sw kp))
    : cW cd_82 (d + 2) Q 0 [some (.ref 28), some (.ref 19), some (.int x2)] [] (mkH hi hl sw kp) :=
  cW.run (am_in []) 46 (cC.of (s_109 (And.intro (fun c1 => (cQ.of (h1 c1))) (fun c2 => (And.intro (h2 c2) (And.intro (fun c3 => (And.intro rfl (And.intro rfl (And.intro (h2 c2) (cC.of (s_116 (h3 c2 c3) (h4 c2 c3) (And.intro (h2 c2) (And.intro (h2 c2) (And.intro (h2 c2) (And.intro (fun c4 => (And.intro (h2 c2) (And.intro (h2 c2) (And.intro (fun c5 => (cQ.of (h5 c2 c3 c4 c5))) (fun c6 => (And.intro (h2 c2) (cQ.of (h6 c2 c3 c4 c6)))))))) (fun c7 => (And.intro (h2 c2) (cQ.of (h7 c2 c3 c7)))))))))))))) (fun c8 => (cQ.of (h8 c2 c8)))))))))
theorem e_82 {x2 : Int32}
    (h1 : (g_109 hi x2) = 0 → Q none (mkH hi hl sw kp))
    (h2 : ¬ ((g_109 hi x2) = 0) → vp_in x2 4)
    (h3 : ¬ ((g_109 hi x2) = 0) → (hi 31 x2.toNatClampNeg) = 0 → ¬ ((g_108 hi (hi 28 0)) = 0) → ¬ ((g_109 hi x2) = 0) → vp_in (hi 28 0) 8)
    (h4 : ¬ ((g_109 hi x2) = 0) → (hi 31 x2.toNatClampNeg) = 0 → ¬ ((g_108 hi (hi 28 0)) = 0) → ¬ ((g_109 hi x2) = 0) → ¬ ((g_110 hi (hi 21 (hi 28 0).toNatClampNeg)) = 0) → vp_in (((hi 21 (hi 28 0).toNatClampNeg) * (4)) + x2) 16)
    (h5 : ¬ ((g_109 hi x2) = 0) → (hi 31 x2.toNatClampNeg) = 0 → ((u2 hi 30 x2.toNatClampNeg ((hi 30 x2.toNatClampNeg) + (g_116 hi (hi 28 0) x2))) 30 x2.toNatClampNeg) < (hi 23 x2.toNatClampNeg) → (-(hi 23 x2.toNatClampNeg)) < ((u2 hi 30 x2.toNatClampNeg ((hi 30 x2.toNatClampNeg) + (g_116 hi (hi 28 0) x2))) 30 x2.toNatClampNeg) → Q none (mkH (u2 hi 30 x2.toNatClampNeg ((hi 30 x2.toNatClampNeg) + (g_116 hi (hi 28 0) x2))) hl sw kp))
    (h6 : ¬ ((g_109 hi x2) = 0) → (hi 31 x2.toNatClampNeg) = 0 → ((u2 hi 30 x2.toNatClampNeg ((hi 30 x2.toNatClampNeg) + (g_116 hi (hi 28 0) x2))) 30 x2.toNatClampNeg) < (hi 23 x2.toNatClampNeg) → ¬ ((-(hi 23 x2.toNatClampNeg)) < ((u2 hi 30 x2.toNatClampNeg ((hi 30 x2.toNatClampNeg) + (g_116 hi (hi 28 0) x2))) 30 x2.toNatClampNeg)) → Q none (mkH (u2 (u2 hi 30 x2.toNatClampNeg ((hi 30 x2.toNatClampNeg) + (g_116 hi (hi 28 0) x2))) 31 x2.toNatClampNeg (2)) hl sw kp))
    (h7 : ¬ ((g_109 hi x2) = 0) → (hi 31 x2.toNatClampNeg) = 0 → ¬ (((u2 hi 30 x2.toNatClampNeg ((hi 30 x2.toNatClampNeg) + (g_116 hi (hi 28 0) x2))) 30 x2.toNatClampNeg) < (hi 23 x2.toNatClampNeg)) → Q none (mkH (u2 (u2 hi 30 x2.toNatClampNeg ((hi 30 x2.toNatClampNeg) + (g_116 hi (hi 28 0) x2))) 31 x2.toNatClampNeg (1)) hl sw kp))
    (h8 : ¬ ((g_109 hi x2) = 0) → ¬ ((hi 31 x2.toNatClampNeg) = 0) → Q none (mkH hi hl sw kp))
    : cS ((d + 2) + 1) 82 [(.ref 28), (.ref 19), (.int x2)] (mkH hi hl sw kp) Q := cS.of rfl (k_82_0 h1 h2 h3 h4 h5 h6 h7 h8)
-- 103a: DogDecrees$Telling.knownName([JI)I
set_option maxRecDepth 100000 in
theorem k_103a_0 {x2 : Int32}
    (h1 : (hi 3 2) = (2) → cS d 104 [(.ref 14), (.ref 15), (.int x2)] (mkH hi hl sw kp) (am_ret (cW cd_103 d Q) 28 [some (.ref 14), some (.ref 15), some (.int x2), none] []))
    (h2 : ¬ ((hi 3 2) = (2)) → cS d 72 [(.ref 3), (.int (2))] (mkH hi hl sw kp) (am_ret (cW cd_103 d Q) 19 [some (.ref 14), some (.ref 15), some (.int x2), none] []))
    : cW cd_103 d Q 0 [some (.ref 14), some (.ref 15), some (.int x2), none] [] (mkH hi hl sw kp) :=
  cW.run (am_in [19, 28, 42]) 9 (And.intro (fun c1 => (cC.of (h1 c1))) (fun c2 => (cC.of (h2 c2))))
theorem e_103a {x2 : Int32}
    (h1 : (hi 3 2) = (2) → cS d 104 [(.ref 14), (.ref 15), (.int x2)] (mkH hi hl sw kp) (am_ret (cW cd_103 d Q) 28 [some (.ref 14), some (.ref 15), some (.int x2), none] []))
    (h2 : ¬ ((hi 3 2) = (2)) → cS d 72 [(.ref 3), (.int (2))] (mkH hi hl sw kp) (am_ret (cW cd_103 d Q) 19 [some (.ref 14), some (.ref 15), some (.int x2), none] []))
    : cS (d + 1) 103 [(.ref 14), (.ref 15), (.int x2)] (mkH hi hl sw kp) Q := cS.of rfl (k_103a_0 h1 h2)
set_option maxRecDepth 100000 in
theorem k_103a_19 {x2 : Int32} {s0 : Int32}
    (h1 : Q (some (.int (-1))) (mkH hi hl sw kp))
    : cW cd_103 d Q 19 [some (.ref 14), some (.ref 15), some (.int x2), none] [(.int s0)] (mkH hi hl sw kp) :=
  cW.run (am_in [19, 28, 42]) 3 (And.intro rfl (cQ.of (h1)))
set_option maxRecDepth 100000 in
theorem k_103a_28 {x2 : Int32} {s0 : Int32}
    (h1 : s0 = (-1) → cS d 72 [(.ref 3), (.int (5))] (mkH hi hl sw kp) (am_ret (cW cd_103 d Q) 42 [some (.ref 14), some (.ref 15), some (.int x2), some (.int s0)] []))
    (h2 : ¬ (s0 = (-1)) → Q (some (.int s0)) (mkH hi hl sw kp))
    : cW cd_103 d Q 28 [some (.ref 14), some (.ref 15), some (.int x2), none] [(.int s0)] (mkH hi hl sw kp) :=
  cW.run (am_in [19, 28, 42]) 8 (And.intro (Nat.le_of_ble_eq_true rfl) (And.intro (fun c1 => (cC.of (h1 c1))) (fun c2 => (cQ.of (h2 c2)))))
set_option maxRecDepth 100000 in
theorem k_103a_42 {x2 : Int32} {x3 : Int32} {s0 : Int32}
    (h1 : Q (some (.int x3)) (mkH hi hl sw kp))
    : cW cd_103 d Q 42 [some (.ref 14), some (.ref 15), some (.int x2), some (.int x3)] [(.int s0)] (mkH hi hl sw kp) :=
  cW.run (am_in [19, 28, 42]) 3 (And.intro rfl (cQ.of (h1)))
-- 103b: DogDecrees$Telling.knownName([JI)I
set_option maxRecDepth 100000 in
theorem k_103b_0 {x2 : Int32}
    (h1 : (hi 3 2) = (2) → cS d 104 [(.ref 14), (.ref 16), (.int x2)] (mkH hi hl sw kp) (am_ret (cW cd_103 d Q) 28 [some (.ref 14), some (.ref 16), some (.int x2), none] []))
    (h2 : ¬ ((hi 3 2) = (2)) → cS d 72 [(.ref 3), (.int (2))] (mkH hi hl sw kp) (am_ret (cW cd_103 d Q) 19 [some (.ref 14), some (.ref 16), some (.int x2), none] []))
    : cW cd_103 d Q 0 [some (.ref 14), some (.ref 16), some (.int x2), none] [] (mkH hi hl sw kp) :=
  cW.run (am_in [19, 28, 42]) 9 (And.intro (fun c1 => (cC.of (h1 c1))) (fun c2 => (cC.of (h2 c2))))
theorem e_103b {x2 : Int32}
    (h1 : (hi 3 2) = (2) → cS d 104 [(.ref 14), (.ref 16), (.int x2)] (mkH hi hl sw kp) (am_ret (cW cd_103 d Q) 28 [some (.ref 14), some (.ref 16), some (.int x2), none] []))
    (h2 : ¬ ((hi 3 2) = (2)) → cS d 72 [(.ref 3), (.int (2))] (mkH hi hl sw kp) (am_ret (cW cd_103 d Q) 19 [some (.ref 14), some (.ref 16), some (.int x2), none] []))
    : cS (d + 1) 103 [(.ref 14), (.ref 16), (.int x2)] (mkH hi hl sw kp) Q := cS.of rfl (k_103b_0 h1 h2)
set_option maxRecDepth 100000 in
theorem k_103b_19 {x2 : Int32} {s0 : Int32}
    (h1 : Q (some (.int (-1))) (mkH hi hl sw kp))
    : cW cd_103 d Q 19 [some (.ref 14), some (.ref 16), some (.int x2), none] [(.int s0)] (mkH hi hl sw kp) :=
  cW.run (am_in [19, 28, 42]) 3 (And.intro rfl (cQ.of (h1)))
set_option maxRecDepth 100000 in
theorem k_103b_28 {x2 : Int32} {s0 : Int32}
    (h1 : s0 = (-1) → cS d 72 [(.ref 3), (.int (5))] (mkH hi hl sw kp) (am_ret (cW cd_103 d Q) 42 [some (.ref 14), some (.ref 16), some (.int x2), some (.int s0)] []))
    (h2 : ¬ (s0 = (-1)) → Q (some (.int s0)) (mkH hi hl sw kp))
    : cW cd_103 d Q 28 [some (.ref 14), some (.ref 16), some (.int x2), none] [(.int s0)] (mkH hi hl sw kp) :=
  cW.run (am_in [19, 28, 42]) 8 (And.intro (Nat.le_of_ble_eq_true rfl) (And.intro (fun c1 => (cC.of (h1 c1))) (fun c2 => (cQ.of (h2 c2)))))
set_option maxRecDepth 100000 in
theorem k_103b_42 {x2 : Int32} {x3 : Int32} {s0 : Int32}
    (h1 : Q (some (.int x3)) (mkH hi hl sw kp))
    : cW cd_103 d Q 42 [some (.ref 14), some (.ref 16), some (.int x2), some (.int x3)] [(.int s0)] (mkH hi hl sw kp) :=
  cW.run (am_in [19, 28, 42]) 3 (And.intro rfl (cQ.of (h1)))
-- 103c: DogDecrees$Telling.knownName([JI)I
set_option maxRecDepth 100000 in
theorem k_103c_0 {x2 : Int32}
    (h1 : (hi 3 2) = (2) → cS d 104 [(.ref 14), (.ref 17), (.int x2)] (mkH hi hl sw kp) (am_ret (cW cd_103 d Q) 28 [some (.ref 14), some (.ref 17), some (.int x2), none] []))
    (h2 : ¬ ((hi 3 2) = (2)) → cS d 72 [(.ref 3), (.int (2))] (mkH hi hl sw kp) (am_ret (cW cd_103 d Q) 19 [some (.ref 14), some (.ref 17), some (.int x2), none] []))
    : cW cd_103 d Q 0 [some (.ref 14), some (.ref 17), some (.int x2), none] [] (mkH hi hl sw kp) :=
  cW.run (am_in [19, 28, 42]) 9 (And.intro (fun c1 => (cC.of (h1 c1))) (fun c2 => (cC.of (h2 c2))))
theorem e_103c {x2 : Int32}
    (h1 : (hi 3 2) = (2) → cS d 104 [(.ref 14), (.ref 17), (.int x2)] (mkH hi hl sw kp) (am_ret (cW cd_103 d Q) 28 [some (.ref 14), some (.ref 17), some (.int x2), none] []))
    (h2 : ¬ ((hi 3 2) = (2)) → cS d 72 [(.ref 3), (.int (2))] (mkH hi hl sw kp) (am_ret (cW cd_103 d Q) 19 [some (.ref 14), some (.ref 17), some (.int x2), none] []))
    : cS (d + 1) 103 [(.ref 14), (.ref 17), (.int x2)] (mkH hi hl sw kp) Q := cS.of rfl (k_103c_0 h1 h2)
set_option maxRecDepth 100000 in
theorem k_103c_19 {x2 : Int32} {s0 : Int32}
    (h1 : Q (some (.int (-1))) (mkH hi hl sw kp))
    : cW cd_103 d Q 19 [some (.ref 14), some (.ref 17), some (.int x2), none] [(.int s0)] (mkH hi hl sw kp) :=
  cW.run (am_in [19, 28, 42]) 3 (And.intro rfl (cQ.of (h1)))
set_option maxRecDepth 100000 in
theorem k_103c_28 {x2 : Int32} {s0 : Int32}
    (h1 : s0 = (-1) → cS d 72 [(.ref 3), (.int (5))] (mkH hi hl sw kp) (am_ret (cW cd_103 d Q) 42 [some (.ref 14), some (.ref 17), some (.int x2), some (.int s0)] []))
    (h2 : ¬ (s0 = (-1)) → Q (some (.int s0)) (mkH hi hl sw kp))
    : cW cd_103 d Q 28 [some (.ref 14), some (.ref 17), some (.int x2), none] [(.int s0)] (mkH hi hl sw kp) :=
  cW.run (am_in [19, 28, 42]) 8 (And.intro (Nat.le_of_ble_eq_true rfl) (And.intro (fun c1 => (cC.of (h1 c1))) (fun c2 => (cQ.of (h2 c2)))))
set_option maxRecDepth 100000 in
theorem k_103c_42 {x2 : Int32} {x3 : Int32} {s0 : Int32}
    (h1 : Q (some (.int x3)) (mkH hi hl sw kp))
    : cW cd_103 d Q 42 [some (.ref 14), some (.ref 17), some (.int x2), some (.int x3)] [(.int s0)] (mkH hi hl sw kp) :=
  cW.run (am_in [19, 28, 42]) 3 (And.intro rfl (cQ.of (h1)))
-- 132: DogDecrees.lay(I)I
set_option maxRecDepth 100000 in
theorem k_132_0 {x1 : Int32}
    (h1 : (g_108 hi x1) = 0 → Q (some (.int (-1))) (mkH hi hl sw kp))
    (h2 : ¬ ((g_108 hi x1) = 0) → vp_in x1 8)
    (h3 : ¬ ((g_108 hi x1) = 0) → (hi 29 x1.toNatClampNeg) < (9) → cS (d + 1) 2 [(.ref 33), (.ref 28)] (mkH hi hl sw kp) (am_ret (cW cd_132 (d + 1) Q) 38 [some (.ref 0), some (.int x1)] []))
    (h4 : ¬ ((g_108 hi x1) = 0) → ¬ ((hi 29 x1.toNatClampNeg) < (9)) → Q (some (.int (-1))) (mkH hi hl sw kp))
    : cW cd_132 (d + 1) Q 0 [some (.ref 0), some (.int x1)] [] (mkH hi hl sw kp) :=
  cW.run (am_in [38]) 17 (cC.of (s_108 (And.intro (fun c1 => (cQ.of (h1 c1))) (fun c2 => (And.intro (h2 c2) (And.intro (fun c3 => (cC.of (h3 c2 c3))) (fun c4 => (cQ.of (h4 c2 c4)))))))))
theorem e_132 {x1 : Int32}
    (h1 : (g_108 hi x1) = 0 → Q (some (.int (-1))) (mkH hi hl sw kp))
    (h2 : ¬ ((g_108 hi x1) = 0) → vp_in x1 8)
    (h3 : ¬ ((g_108 hi x1) = 0) → (hi 29 x1.toNatClampNeg) < (9) → cS (d + 1) 2 [(.ref 33), (.ref 28)] (mkH hi hl sw kp) (am_ret (cW cd_132 (d + 1) Q) 38 [some (.ref 0), some (.int x1)] []))
    (h4 : ¬ ((g_108 hi x1) = 0) → ¬ ((hi 29 x1.toNatClampNeg) < (9)) → Q (some (.int (-1))) (mkH hi hl sw kp))
    : cS ((d + 1) + 1) 132 [(.ref 0), (.int x1)] (mkH hi hl sw kp) Q := cS.of rfl (k_132_0 h1 h2 h3 h4)
set_option maxRecDepth 100000 in
theorem k_132_38 {x1 : Int32}
    (h1 : vp_in x1 8)
    (h2 : Q (some (.int ((u2 hi 29 x1.toNatClampNeg ((hi 29 x1.toNatClampNeg) + (1))) 29 x1.toNatClampNeg))) (mkH (u2 hi 29 x1.toNatClampNeg ((hi 29 x1.toNatClampNeg) + (1))) hl sw kp))
    : cW cd_132 (d + 1) Q 38 [some (.ref 0), some (.int x1)] [] (mkH hi hl sw kp) :=
  cW.run (am_in [38]) 15 (And.intro rfl (And.intro rfl (And.intro (h1) (And.intro (h1) (And.intro (h1) (cQ.of (h2)))))))
-- 133: DogDecrees.take(I)I
set_option maxRecDepth 100000 in
theorem k_133_0 {x1 : Int32}
    (h1 : (g_108 hi x1) = 0 → Q (some (.int (-1))) (mkH hi hl sw kp))
    (h2 : ¬ ((g_108 hi x1) = 0) → vp_in x1 8)
    (h3 : ¬ ((g_108 hi x1) = 0) → 0 < (hi 29 x1.toNatClampNeg) → cS (d + 1) 2 [(.ref 33), (.ref 28)] (mkH hi hl sw kp) (am_ret (cW cd_133 (d + 1) Q) 36 [some (.ref 0), some (.int x1)] []))
    (h4 : ¬ ((g_108 hi x1) = 0) → ¬ (0 < (hi 29 x1.toNatClampNeg)) → Q (some (.int (-1))) (mkH hi hl sw kp))
    : cW cd_133 (d + 1) Q 0 [some (.ref 0), some (.int x1)] [] (mkH hi hl sw kp) :=
  cW.run (am_in [36]) 16 (cC.of (s_108 (And.intro (fun c1 => (cQ.of (h1 c1))) (fun c2 => (And.intro (h2 c2) (And.intro (fun c3 => (cC.of (h3 c2 c3))) (fun c4 => (cQ.of (h4 c2 c4)))))))))
theorem e_133 {x1 : Int32}
    (h1 : (g_108 hi x1) = 0 → Q (some (.int (-1))) (mkH hi hl sw kp))
    (h2 : ¬ ((g_108 hi x1) = 0) → vp_in x1 8)
    (h3 : ¬ ((g_108 hi x1) = 0) → 0 < (hi 29 x1.toNatClampNeg) → cS (d + 1) 2 [(.ref 33), (.ref 28)] (mkH hi hl sw kp) (am_ret (cW cd_133 (d + 1) Q) 36 [some (.ref 0), some (.int x1)] []))
    (h4 : ¬ ((g_108 hi x1) = 0) → ¬ (0 < (hi 29 x1.toNatClampNeg)) → Q (some (.int (-1))) (mkH hi hl sw kp))
    : cS ((d + 1) + 1) 133 [(.ref 0), (.int x1)] (mkH hi hl sw kp) Q := cS.of rfl (k_133_0 h1 h2 h3 h4)
set_option maxRecDepth 100000 in
theorem k_133_36 {x1 : Int32}
    (h1 : vp_in x1 8)
    (h2 : Q (some (.int ((u2 hi 29 x1.toNatClampNeg ((hi 29 x1.toNatClampNeg) - (1))) 29 x1.toNatClampNeg))) (mkH (u2 hi 29 x1.toNatClampNeg ((hi 29 x1.toNatClampNeg) - (1))) hl sw kp))
    : cW cd_133 (d + 1) Q 36 [some (.ref 0), some (.int x1)] [] (mkH hi hl sw kp) :=
  cW.run (am_in [36]) 15 (And.intro rfl (And.intro rfl (And.intro (h1) (And.intro (h1) (And.intro (h1) (cQ.of (h2)))))))
-- 134: DogDecrees.undo()Z
set_option maxRecDepth 100000 in
theorem k_134_0
    (h1 : cS d 4 [(.ref 33), (.ref 28)] (mkH hi hl sw kp) (am_ret (cW cd_134 d Q) 11 [some (.ref 0)] []))
    : cW cd_134 d Q 0 [some (.ref 0)] [] (mkH hi hl sw kp) :=
  cW.run (am_in [11]) 5 (cC.of (h1))
theorem e_134
    (h1 : cS d 4 [(.ref 33), (.ref 28)] (mkH hi hl sw kp) (am_ret (cW cd_134 d Q) 11 [some (.ref 0)] []))
    : cS (d + 1) 134 [(.ref 0)] (mkH hi hl sw kp) Q := cS.of rfl (k_134_0 h1)
set_option maxRecDepth 100000 in
theorem k_134_11 {s0 : Int32}
    (h1 : s0 = 0 ∨ s0 = 1)
    (h2 : Q (some (.int s0)) (mkH hi hl sw kp))
    : cW cd_134 d Q 11 [some (.ref 0)] [(.int s0)] (mkH hi hl sw kp) :=
  cW.run (am_in [11]) 1 (And.intro (h1) (cQ.of (h2)))
-- 135: DogDecrees.redo()Z
set_option maxRecDepth 100000 in
theorem k_135_0
    (h1 : cS d 5 [(.ref 33), (.ref 28)] (mkH hi hl sw kp) (am_ret (cW cd_135 d Q) 11 [some (.ref 0)] []))
    : cW cd_135 d Q 0 [some (.ref 0)] [] (mkH hi hl sw kp) :=
  cW.run (am_in [11]) 5 (cC.of (h1))
theorem e_135
    (h1 : cS d 5 [(.ref 33), (.ref 28)] (mkH hi hl sw kp) (am_ret (cW cd_135 d Q) 11 [some (.ref 0)] []))
    : cS (d + 1) 135 [(.ref 0)] (mkH hi hl sw kp) Q := cS.of rfl (k_135_0 h1)
set_option maxRecDepth 100000 in
theorem k_135_11 {s0 : Int32}
    (h1 : s0 = 0 ∨ s0 = 1)
    (h2 : Q (some (.int s0)) (mkH hi hl sw kp))
    : cW cd_135 d Q 11 [some (.ref 0)] [(.int s0)] (mkH hi hl sw kp) :=
  cW.run (am_in [11]) 1 (And.intro (h1) (cQ.of (h2)))
-- 151: DogDecrees.meant(II)I
set_option maxRecDepth 100000 in
theorem k_151_0 {x1 : Int32} {x2 : Int32}
    (h1 : (g_109 hi x1) = 0 → Q (some (.int (-1))) (mkH hi hl sw kp))
    (h2 : ¬ ((g_109 hi x1) = 0) → cS (d + 1) 28 [(.ref 266), (.int x1), (.int x2), (.int (hi 19 0))] (mkH hi hl sw kp) (am_ret (cW cd_151 (d + 1) Q) 29 [some (.ref 0), some (.int x1), some (.int x2)] []))
    : cW cd_151 (d + 1) Q 0 [some (.ref 0), some (.int x1), some (.int x2)] [] (mkH hi hl sw kp) :=
  cW.run (am_in [29]) 13 (cC.of (s_109 (And.intro (fun c1 => (cQ.of (h1 c1))) (fun c2 => (cC.of (h2 c2))))))
theorem e_151 {x1 : Int32} {x2 : Int32}
    (h1 : (g_109 hi x1) = 0 → Q (some (.int (-1))) (mkH hi hl sw kp))
    (h2 : ¬ ((g_109 hi x1) = 0) → cS (d + 1) 28 [(.ref 266), (.int x1), (.int x2), (.int (hi 19 0))] (mkH hi hl sw kp) (am_ret (cW cd_151 (d + 1) Q) 29 [some (.ref 0), some (.int x1), some (.int x2)] []))
    : cS ((d + 1) + 1) 151 [(.ref 0), (.int x1), (.int x2)] (mkH hi hl sw kp) Q := cS.of rfl (k_151_0 h1 h2)
set_option maxRecDepth 100000 in
theorem k_151_29 {x1 : Int32} {x2 : Int32} {s0 : Int32}
    (h1 : Q (some (.int s0)) (mkH hi hl sw kp))
    : cW cd_151 (d + 1) Q 29 [some (.ref 0), some (.int x1), some (.int x2)] [(.int s0)] (mkH hi hl sw kp) :=
  cW.run (am_in [29]) 1 (cQ.of (h1))
-- 152: DogDecrees.sure(III)I
set_option maxRecDepth 100000 in
theorem k_152_0 {x1 : Int32} {x2 : Int32} {x3 : Int32}
    (h1 : (g_109 hi x1) = 0 → Q (some (.int (-1000000))) (mkH hi hl sw kp))
    (h2 : ¬ ((g_109 hi x1) = 0) → (g_110 hi x2) = 0 → Q (some (.int (-1000000))) (mkH hi hl sw kp))
    (h3 : ¬ ((g_109 hi x1) = 0) → ¬ ((g_110 hi x2) = 0) → cS (d + 1) 28 [(.ref 266), (.int x1), (.int x3), (.int (hi 19 0))] (mkH hi hl sw kp) (am_ret (cW cd_152 (d + 1) Q) 41 [some (.ref 0), some (.int x1), some (.int x2), some (.int x3), none] []))
    : cW cd_152 (d + 1) Q 0 [some (.ref 0), some (.int x1), some (.int x2), some (.int x3), none] [] (mkH hi hl sw kp) :=
  cW.run (am_in [41, 53]) 18 (cC.of (s_109 (And.intro (fun c1 => (cQ.of (h1 c1))) (fun c2 => (cC.of (s_110 (And.intro (fun c3 => (cQ.of (h2 c2 c3))) (fun c4 => (cC.of (h3 c2 c4))))))))))
theorem e_152 {x1 : Int32} {x2 : Int32} {x3 : Int32}
    (h1 : (g_109 hi x1) = 0 → Q (some (.int (-1000000))) (mkH hi hl sw kp))
    (h2 : ¬ ((g_109 hi x1) = 0) → (g_110 hi x2) = 0 → Q (some (.int (-1000000))) (mkH hi hl sw kp))
    (h3 : ¬ ((g_109 hi x1) = 0) → ¬ ((g_110 hi x2) = 0) → cS (d + 1) 28 [(.ref 266), (.int x1), (.int x3), (.int (hi 19 0))] (mkH hi hl sw kp) (am_ret (cW cd_152 (d + 1) Q) 41 [some (.ref 0), some (.int x1), some (.int x2), some (.int x3), none] []))
    : cS ((d + 1) + 1) 152 [(.ref 0), (.int x1), (.int x2), (.int x3)] (mkH hi hl sw kp) Q := cS.of rfl (k_152_0 h1 h2 h3)
set_option maxRecDepth 100000 in
theorem k_152_41 {x1 : Int32} {x2 : Int32} {x3 : Int32} {s0 : Int32}
    (h1 : cS (d + 1) 33 [(.ref 266), (.int x2), (.int s0)] (mkH hi hl sw kp) (am_ret (cW cd_152 (d + 1) Q) 53 [some (.ref 0), some (.int x1), some (.int x2), some (.int x3), some (.int s0)] []))
    : cW cd_152 (d + 1) Q 41 [some (.ref 0), some (.int x1), some (.int x2), some (.int x3), none] [(.int s0)] (mkH hi hl sw kp) :=
  cW.run (am_in [41, 53]) 6 (And.intro (Nat.le_of_ble_eq_true rfl) (cC.of (h1)))
set_option maxRecDepth 100000 in
theorem k_152_53 {x1 : Int32} {x2 : Int32} {x3 : Int32} {x4 : Int32} {s0 : Int32}
    (h1 : Q (some (.int s0)) (mkH hi hl sw kp))
    : cW cd_152 (d + 1) Q 53 [some (.ref 0), some (.int x1), some (.int x2), some (.int x3), some (.int x4)] [(.int s0)] (mkH hi hl sw kp) :=
  cW.run (am_in [41, 53]) 1 (cQ.of (h1))
-- 153: DogDecrees.ask(III)I
set_option maxRecDepth 100000 in
theorem k_153_0 {x1 : Int32} {x2 : Int32} {x3 : Int32}
    (h1 : (g_109 hi x1) = 0 → Q (some (.int (-1))) (mkH hi hl sw kp))
    (h2 : ¬ ((g_109 hi x1) = 0) → (g_158 x2 (0 : Int32) (1 : Int32)) = 0 → Q (some (.int (-1))) (mkH hi hl sw kp))
    (h3 : ¬ ((g_109 hi x1) = 0) → ¬ ((g_158 x2 (0 : Int32) (1 : Int32)) = 0) → cS (d + 1) 28 [(.ref 266), (.int x1), (.int x3), (.int (hi 19 0))] (mkH hi hl sw kp) (am_ret (cW cd_153 (d + 1) Q) 38 [some (.ref 0), some (.int x1), some (.int x2), some (.int x3), none, none, none, none] []))
    : cW cd_153 (d + 1) Q 0 [some (.ref 0), some (.int x1), some (.int x2), some (.int x3), none, none, none, none] [] (mkH hi hl sw kp) :=
  cW.run (am_in [38, 52, 73]) 18 (cC.of (s_109 (And.intro (fun c1 => (cQ.of (h1 c1))) (fun c2 => (cC.of (s_158 (And.intro (fun c3 => (cQ.of (h2 c2 c3))) (fun c4 => (cC.of (h3 c2 c4))))))))))
theorem e_153 {x1 : Int32} {x2 : Int32} {x3 : Int32}
    (h1 : (g_109 hi x1) = 0 → Q (some (.int (-1))) (mkH hi hl sw kp))
    (h2 : ¬ ((g_109 hi x1) = 0) → (g_158 x2 (0 : Int32) (1 : Int32)) = 0 → Q (some (.int (-1))) (mkH hi hl sw kp))
    (h3 : ¬ ((g_109 hi x1) = 0) → ¬ ((g_158 x2 (0 : Int32) (1 : Int32)) = 0) → cS (d + 1) 28 [(.ref 266), (.int x1), (.int x3), (.int (hi 19 0))] (mkH hi hl sw kp) (am_ret (cW cd_153 (d + 1) Q) 38 [some (.ref 0), some (.int x1), some (.int x2), some (.int x3), none, none, none, none] []))
    : cS ((d + 1) + 1) 153 [(.ref 0), (.int x1), (.int x2), (.int x3)] (mkH hi hl sw kp) Q := cS.of rfl (k_153_0 h1 h2 h3)
set_option maxRecDepth 100000 in
theorem k_153_38 {x1 : Int32} {x2 : Int32} {x3 : Int32} {s0 : Int32}
    (h1 : s0 = 0 → Q (some (.int (-1))) (mkH hi hl sw kp))
    (h2 : ¬ (s0 = 0) → cW cd_153 (d + 1) Q 52 [some (.ref 0), some (.int x1), some (.int x2), some (.int x3), some (.int (-1)), some (.int (-1)), some (.int (0)), none] [] (mkH hi hl sw kp))
    : cW cd_153 (d + 1) Q 38 [some (.ref 0), some (.int x1), some (.int x2), some (.int x3), none, none, none, none] [(.int s0)] (mkH hi hl sw kp) :=
  cW.run (am_in [38, 52, 73]) 7 (And.intro (fun c1 => (cQ.of (h1 c1))) (fun c2 => (And.intro (Nat.le_of_ble_eq_true rfl) (And.intro (Nat.le_of_ble_eq_true rfl) (And.intro (Nat.le_of_ble_eq_true rfl) (h2 c2))))))
set_option maxRecDepth 100000 in
theorem k_153_52 {x1 : Int32} {x2 : Int32} {x3 : Int32} {x4 : Int32} {x5 : Int32} {x6 : Int32} {o7 : Option Value}
    (h1 : (hi 19 0) ≤ x6 → x2 = 0 → Q (some (.int x4)) (mkH hi hl sw kp))
    (h2 : (hi 19 0) ≤ x6 → ¬ (x2 = 0) → Q (some (.int x5)) (mkH hi hl sw kp))
    (h3 : ¬ ((hi 19 0) ≤ x6) → cS (d + 1) 34 [(.ref 266), (.int x6)] (mkH hi hl sw kp) (am_ret (cW cd_153 (d + 1) Q) 73 [some (.ref 0), some (.int x1), some (.int x2), some (.int x3), some (.int x4), some (.int x5), some (.int x6), o7] []))
    : cW cd_153 (d + 1) Q 52 [some (.ref 0), some (.int x1), some (.int x2), some (.int x3), some (.int x4), some (.int x5), some (.int x6), o7] [] (mkH hi hl sw kp) :=
  cW.run (am_in [38, 52, 73]) 10 (And.intro (fun c1 => (And.intro (fun c2 => (cQ.of (h1 c1 c2))) (fun c3 => (cQ.of (h2 c1 c3))))) (fun c4 => (cC.of (h3 c4))))
set_option maxRecDepth 100000 in
theorem k_153_73 {x1 : Int32} {x2 : Int32} {x3 : Int32} {x4 : Int32} {x5 : Int32} {x6 : Int32} {o7 : Option Value} {s0 : Int32}
    (h1 : x4 = (-1) → cW cd_153 (d + 1) Q 52 [some (.ref 0), some (.int x1), some (.int x2), some (.int x3), some (.int x6), some (.int s0), some (.int (x6 + (1))), some (.int s0)] [] (mkH hi hl sw kp))
    (h2 : ¬ (x4 = (-1)) → x5 ≤ s0 → cW cd_153 (d + 1) Q 52 [some (.ref 0), some (.int x1), some (.int x2), some (.int x3), some (.int x4), some (.int x5), some (.int (x6 + (1))), some (.int s0)] [] (mkH hi hl sw kp))
    (h3 : ¬ (x4 = (-1)) → ¬ (x5 ≤ s0) → cW cd_153 (d + 1) Q 52 [some (.ref 0), some (.int x1), some (.int x2), some (.int x3), some (.int x6), some (.int s0), some (.int (x6 + (1))), some (.int s0)] [] (mkH hi hl sw kp))
    : cW cd_153 (d + 1) Q 73 [some (.ref 0), some (.int x1), some (.int x2), some (.int x3), some (.int x4), some (.int x5), some (.int x6), o7] [(.int s0)] (mkH hi hl sw kp) :=
  cW.run (am_in [38, 52, 73]) 13 (And.intro (Nat.le_of_ble_eq_true rfl) (And.intro (fun c1 => (And.intro (Nat.le_of_ble_eq_true rfl) (And.intro (Nat.le_of_ble_eq_true rfl) (And.intro (Nat.le_of_ble_eq_true rfl) (h1 c1))))) (fun c2 => (And.intro (fun c3 => (And.intro (Nat.le_of_ble_eq_true rfl) (h2 c2 c3))) (fun c4 => (And.intro (Nat.le_of_ble_eq_true rfl) (And.intro (Nat.le_of_ble_eq_true rfl) (And.intro (Nat.le_of_ble_eq_true rfl) (h3 c2 c4)))))))))
-- 156: DogDecrees.about(I)I
set_option maxRecDepth 100000 in
theorem k_156_0 {x1 : Int32}
    (h1 : x1 = 0 → Q (some (.int (hi 19 1))) (mkH hi hl sw kp))
    (h2 : ¬ x1 = 0 → x1 = 1 → Q (some (.int (hi 19 0))) (mkH hi hl sw kp))
    (h3 : ¬ x1 = 0 → ¬ x1 = 1 → x1 = 2 → Q (some (.int (hi 19 3))) (mkH hi hl sw kp))
    (h4 : ¬ x1 = 0 → ¬ x1 = 1 → ¬ x1 = 2 → x1 = 3 → Q (some (.int (hi 19 2))) (mkH hi hl sw kp))
    (h5 : ¬ x1 = 0 → ¬ x1 = 1 → ¬ x1 = 2 → ¬ x1 = 3 → x1 = 4 → Q (some (.int (hi 28 0))) (mkH hi hl sw kp))
    (h6 : ¬ x1 = 0 → ¬ x1 = 1 → ¬ x1 = 2 → ¬ x1 = 3 → ¬ x1 = 4 → x1 = 5 → Q (some (.int (g_117 hi (hi 28 1)))) (mkH hi hl sw kp))
    (h7 : ¬ x1 = 0 → ¬ x1 = 1 → ¬ x1 = 2 → ¬ x1 = 3 → ¬ x1 = 4 → ¬ x1 = 5 → x1 = 6 → Q (some (.int (hi 28 1))) (mkH hi hl sw kp))
    (h8 : ¬ x1 = 0 → ¬ x1 = 1 → ¬ x1 = 2 → ¬ x1 = 3 → ¬ x1 = 4 → ¬ x1 = 5 → ¬ x1 = 6 → x1 = 7 → Q (some (.int (g_119 hi (hi 28 1)))) (mkH hi hl sw kp))
    (h9 : ¬ x1 = 0 → ¬ x1 = 1 → ¬ x1 = 2 → ¬ x1 = 3 → ¬ x1 = 4 → ¬ x1 = 5 → ¬ x1 = 6 → ¬ x1 = 7 → x1 = 8 → Q (some (.int (hi 28 2))) (mkH hi hl sw kp))
    (h10 : ¬ x1 = 0 → ¬ x1 = 1 → ¬ x1 = 2 → ¬ x1 = 3 → ¬ x1 = 4 → ¬ x1 = 5 → ¬ x1 = 6 → ¬ x1 = 7 → ¬ x1 = 8 → x1 = 9 → cS (d + 2) 85 [(.ref 28)] (mkH hi hl sw kp) (am_ret (cW cd_156 (d + 2) Q) 181 [some (.ref 0), some (.int x1)] []))
    (h11 : ¬ x1 = 0 → ¬ x1 = 1 → ¬ x1 = 2 → ¬ x1 = 3 → ¬ x1 = 4 → ¬ x1 = 5 → ¬ x1 = 6 → ¬ x1 = 7 → ¬ x1 = 8 → ¬ x1 = 9 → x1 = 10 → Q (some (.int (hi 33 1))) (mkH hi hl sw kp))
    (h12 : ¬ x1 = 0 → ¬ x1 = 1 → ¬ x1 = 2 → ¬ x1 = 3 → ¬ x1 = 4 → ¬ x1 = 5 → ¬ x1 = 6 → ¬ x1 = 7 → ¬ x1 = 8 → ¬ x1 = 9 → ¬ x1 = 10 → x1 = 11 → Q (some (.int (hi 33 2))) (mkH hi hl sw kp))
    (h13 : ¬ x1 = 0 → ¬ x1 = 1 → ¬ x1 = 2 → ¬ x1 = 3 → ¬ x1 = 4 → ¬ x1 = 5 → ¬ x1 = 6 → ¬ x1 = 7 → ¬ x1 = 8 → ¬ x1 = 9 → ¬ x1 = 10 → ¬ x1 = 11 → x1 = 12 → Q (some (.int (hi 266 8))) (mkH hi hl sw kp))
    (h14 : ¬ x1 = 0 → ¬ x1 = 1 → ¬ x1 = 2 → ¬ x1 = 3 → ¬ x1 = 4 → ¬ x1 = 5 → ¬ x1 = 6 → ¬ x1 = 7 → ¬ x1 = 8 → ¬ x1 = 9 → ¬ x1 = 10 → ¬ x1 = 11 → ¬ x1 = 12 → x1 = 13 → Q (some (.int (hi 266 9))) (mkH hi hl sw kp))
    (h15 : ¬ x1 = 0 → ¬ x1 = 1 → ¬ x1 = 2 → ¬ x1 = 3 → ¬ x1 = 4 → ¬ x1 = 5 → ¬ x1 = 6 → ¬ x1 = 7 → ¬ x1 = 8 → ¬ x1 = 9 → ¬ x1 = 10 → ¬ x1 = 11 → ¬ x1 = 12 → ¬ x1 = 13 → x1 = 14 → Q (some (.int (hi 1 1))) (mkH hi hl sw kp))
    (h16 : ¬ x1 = 0 → ¬ x1 = 1 → ¬ x1 = 2 → ¬ x1 = 3 → ¬ x1 = 4 → ¬ x1 = 5 → ¬ x1 = 6 → ¬ x1 = 7 → ¬ x1 = 8 → ¬ x1 = 9 → ¬ x1 = 10 → ¬ x1 = 11 → ¬ x1 = 12 → ¬ x1 = 13 → ¬ x1 = 14 → x1 = 15 → Q (some (.int (hi 25 3))) (mkH hi hl sw kp))
    (h17 : ¬ x1 = 0 → ¬ x1 = 1 → ¬ x1 = 2 → ¬ x1 = 3 → ¬ x1 = 4 → ¬ x1 = 5 → ¬ x1 = 6 → ¬ x1 = 7 → ¬ x1 = 8 → ¬ x1 = 9 → ¬ x1 = 10 → ¬ x1 = 11 → ¬ x1 = 12 → ¬ x1 = 13 → ¬ x1 = 14 → ¬ x1 = 15 → x1 = 16 → Q (some (.int (hi 0 13))) (mkH hi hl sw kp))
    (h18 : ¬ x1 = 0 → ¬ x1 = 1 → ¬ x1 = 2 → ¬ x1 = 3 → ¬ x1 = 4 → ¬ x1 = 5 → ¬ x1 = 6 → ¬ x1 = 7 → ¬ x1 = 8 → ¬ x1 = 9 → ¬ x1 = 10 → ¬ x1 = 11 → ¬ x1 = 12 → ¬ x1 = 13 → ¬ x1 = 14 → ¬ x1 = 15 → ¬ x1 = 16 → x1 = 17 → Q (some (.int (hi 19 4))) (mkH hi hl sw kp))
    (h19 : ¬ x1 = 0 → ¬ x1 = 1 → ¬ x1 = 2 → ¬ x1 = 3 → ¬ x1 = 4 → ¬ x1 = 5 → ¬ x1 = 6 → ¬ x1 = 7 → ¬ x1 = 8 → ¬ x1 = 9 → ¬ x1 = 10 → ¬ x1 = 11 → ¬ x1 = 12 → ¬ x1 = 13 → ¬ x1 = 14 → ¬ x1 = 15 → ¬ x1 = 16 → ¬ x1 = 17 → Q (some (.int (-1))) (mkH hi hl sw kp))
    : cW cd_156 (d + 2) Q 0 [some (.ref 0), some (.int x1)] [] (mkH hi hl sw kp) :=
  cW.run (am_in [181]) 9 (And.intro (fun c1 => (cQ.of (h1 c1))) (fun c2 => (And.intro (fun c3 => (cQ.of (h2 c2 c3))) (fun c4 => (And.intro (fun c5 => (cQ.of (h3 c2 c4 c5))) (fun c6 => (And.intro (fun c7 => (cQ.of (h4 c2 c4 c6 c7))) (fun c8 => (And.intro (fun c9 => (cQ.of (h5 c2 c4 c6 c8 c9))) (fun c10 => (And.intro (fun c11 => (cC.of (s_117 (cQ.of (h6 c2 c4 c6 c8 c10 c11))))) (fun c12 => (And.intro (fun c13 => (cQ.of (h7 c2 c4 c6 c8 c10 c12 c13))) (fun c14 => (And.intro (fun c15 => (cC.of (s_119 (cQ.of (h8 c2 c4 c6 c8 c10 c12 c14 c15))))) (fun c16 => (And.intro (fun c17 => (cQ.of (h9 c2 c4 c6 c8 c10 c12 c14 c16 c17))) (fun c18 => (And.intro (fun c19 => (cC.of (h10 c2 c4 c6 c8 c10 c12 c14 c16 c18 c19))) (fun c20 => (And.intro (fun c21 => (cQ.of (h11 c2 c4 c6 c8 c10 c12 c14 c16 c18 c20 c21))) (fun c22 => (And.intro (fun c23 => (cQ.of (h12 c2 c4 c6 c8 c10 c12 c14 c16 c18 c20 c22 c23))) (fun c24 => (And.intro (fun c25 => (cQ.of (h13 c2 c4 c6 c8 c10 c12 c14 c16 c18 c20 c22 c24 c25))) (fun c26 => (And.intro (fun c27 => (cQ.of (h14 c2 c4 c6 c8 c10 c12 c14 c16 c18 c20 c22 c24 c26 c27))) (fun c28 => (And.intro (fun c29 => (cQ.of (h15 c2 c4 c6 c8 c10 c12 c14 c16 c18 c20 c22 c24 c26 c28 c29))) (fun c30 => (And.intro (fun c31 => (cQ.of (h16 c2 c4 c6 c8 c10 c12 c14 c16 c18 c20 c22 c24 c26 c28 c30 c31))) (fun c32 => (And.intro (fun c33 => (cQ.of (h17 c2 c4 c6 c8 c10 c12 c14 c16 c18 c20 c22 c24 c26 c28 c30 c32 c33))) (fun c34 => (And.intro (fun c35 => (cQ.of (h18 c2 c4 c6 c8 c10 c12 c14 c16 c18 c20 c22 c24 c26 c28 c30 c32 c34 c35))) (fun c36 => (cQ.of (h19 c2 c4 c6 c8 c10 c12 c14 c16 c18 c20 c22 c24 c26 c28 c30 c32 c34 c36))))))))))))))))))))))))))))))))))))))
theorem e_156 {x1 : Int32}
    (h1 : x1 = 0 → Q (some (.int (hi 19 1))) (mkH hi hl sw kp))
    (h2 : ¬ x1 = 0 → x1 = 1 → Q (some (.int (hi 19 0))) (mkH hi hl sw kp))
    (h3 : ¬ x1 = 0 → ¬ x1 = 1 → x1 = 2 → Q (some (.int (hi 19 3))) (mkH hi hl sw kp))
    (h4 : ¬ x1 = 0 → ¬ x1 = 1 → ¬ x1 = 2 → x1 = 3 → Q (some (.int (hi 19 2))) (mkH hi hl sw kp))
    (h5 : ¬ x1 = 0 → ¬ x1 = 1 → ¬ x1 = 2 → ¬ x1 = 3 → x1 = 4 → Q (some (.int (hi 28 0))) (mkH hi hl sw kp))
    (h6 : ¬ x1 = 0 → ¬ x1 = 1 → ¬ x1 = 2 → ¬ x1 = 3 → ¬ x1 = 4 → x1 = 5 → Q (some (.int (g_117 hi (hi 28 1)))) (mkH hi hl sw kp))
    (h7 : ¬ x1 = 0 → ¬ x1 = 1 → ¬ x1 = 2 → ¬ x1 = 3 → ¬ x1 = 4 → ¬ x1 = 5 → x1 = 6 → Q (some (.int (hi 28 1))) (mkH hi hl sw kp))
    (h8 : ¬ x1 = 0 → ¬ x1 = 1 → ¬ x1 = 2 → ¬ x1 = 3 → ¬ x1 = 4 → ¬ x1 = 5 → ¬ x1 = 6 → x1 = 7 → Q (some (.int (g_119 hi (hi 28 1)))) (mkH hi hl sw kp))
    (h9 : ¬ x1 = 0 → ¬ x1 = 1 → ¬ x1 = 2 → ¬ x1 = 3 → ¬ x1 = 4 → ¬ x1 = 5 → ¬ x1 = 6 → ¬ x1 = 7 → x1 = 8 → Q (some (.int (hi 28 2))) (mkH hi hl sw kp))
    (h10 : ¬ x1 = 0 → ¬ x1 = 1 → ¬ x1 = 2 → ¬ x1 = 3 → ¬ x1 = 4 → ¬ x1 = 5 → ¬ x1 = 6 → ¬ x1 = 7 → ¬ x1 = 8 → x1 = 9 → cS (d + 2) 85 [(.ref 28)] (mkH hi hl sw kp) (am_ret (cW cd_156 (d + 2) Q) 181 [some (.ref 0), some (.int x1)] []))
    (h11 : ¬ x1 = 0 → ¬ x1 = 1 → ¬ x1 = 2 → ¬ x1 = 3 → ¬ x1 = 4 → ¬ x1 = 5 → ¬ x1 = 6 → ¬ x1 = 7 → ¬ x1 = 8 → ¬ x1 = 9 → x1 = 10 → Q (some (.int (hi 33 1))) (mkH hi hl sw kp))
    (h12 : ¬ x1 = 0 → ¬ x1 = 1 → ¬ x1 = 2 → ¬ x1 = 3 → ¬ x1 = 4 → ¬ x1 = 5 → ¬ x1 = 6 → ¬ x1 = 7 → ¬ x1 = 8 → ¬ x1 = 9 → ¬ x1 = 10 → x1 = 11 → Q (some (.int (hi 33 2))) (mkH hi hl sw kp))
    (h13 : ¬ x1 = 0 → ¬ x1 = 1 → ¬ x1 = 2 → ¬ x1 = 3 → ¬ x1 = 4 → ¬ x1 = 5 → ¬ x1 = 6 → ¬ x1 = 7 → ¬ x1 = 8 → ¬ x1 = 9 → ¬ x1 = 10 → ¬ x1 = 11 → x1 = 12 → Q (some (.int (hi 266 8))) (mkH hi hl sw kp))
    (h14 : ¬ x1 = 0 → ¬ x1 = 1 → ¬ x1 = 2 → ¬ x1 = 3 → ¬ x1 = 4 → ¬ x1 = 5 → ¬ x1 = 6 → ¬ x1 = 7 → ¬ x1 = 8 → ¬ x1 = 9 → ¬ x1 = 10 → ¬ x1 = 11 → ¬ x1 = 12 → x1 = 13 → Q (some (.int (hi 266 9))) (mkH hi hl sw kp))
    (h15 : ¬ x1 = 0 → ¬ x1 = 1 → ¬ x1 = 2 → ¬ x1 = 3 → ¬ x1 = 4 → ¬ x1 = 5 → ¬ x1 = 6 → ¬ x1 = 7 → ¬ x1 = 8 → ¬ x1 = 9 → ¬ x1 = 10 → ¬ x1 = 11 → ¬ x1 = 12 → ¬ x1 = 13 → x1 = 14 → Q (some (.int (hi 1 1))) (mkH hi hl sw kp))
    (h16 : ¬ x1 = 0 → ¬ x1 = 1 → ¬ x1 = 2 → ¬ x1 = 3 → ¬ x1 = 4 → ¬ x1 = 5 → ¬ x1 = 6 → ¬ x1 = 7 → ¬ x1 = 8 → ¬ x1 = 9 → ¬ x1 = 10 → ¬ x1 = 11 → ¬ x1 = 12 → ¬ x1 = 13 → ¬ x1 = 14 → x1 = 15 → Q (some (.int (hi 25 3))) (mkH hi hl sw kp))
    (h17 : ¬ x1 = 0 → ¬ x1 = 1 → ¬ x1 = 2 → ¬ x1 = 3 → ¬ x1 = 4 → ¬ x1 = 5 → ¬ x1 = 6 → ¬ x1 = 7 → ¬ x1 = 8 → ¬ x1 = 9 → ¬ x1 = 10 → ¬ x1 = 11 → ¬ x1 = 12 → ¬ x1 = 13 → ¬ x1 = 14 → ¬ x1 = 15 → x1 = 16 → Q (some (.int (hi 0 13))) (mkH hi hl sw kp))
    (h18 : ¬ x1 = 0 → ¬ x1 = 1 → ¬ x1 = 2 → ¬ x1 = 3 → ¬ x1 = 4 → ¬ x1 = 5 → ¬ x1 = 6 → ¬ x1 = 7 → ¬ x1 = 8 → ¬ x1 = 9 → ¬ x1 = 10 → ¬ x1 = 11 → ¬ x1 = 12 → ¬ x1 = 13 → ¬ x1 = 14 → ¬ x1 = 15 → ¬ x1 = 16 → x1 = 17 → Q (some (.int (hi 19 4))) (mkH hi hl sw kp))
    (h19 : ¬ x1 = 0 → ¬ x1 = 1 → ¬ x1 = 2 → ¬ x1 = 3 → ¬ x1 = 4 → ¬ x1 = 5 → ¬ x1 = 6 → ¬ x1 = 7 → ¬ x1 = 8 → ¬ x1 = 9 → ¬ x1 = 10 → ¬ x1 = 11 → ¬ x1 = 12 → ¬ x1 = 13 → ¬ x1 = 14 → ¬ x1 = 15 → ¬ x1 = 16 → ¬ x1 = 17 → Q (some (.int (-1))) (mkH hi hl sw kp))
    : cS ((d + 2) + 1) 156 [(.ref 0), (.int x1)] (mkH hi hl sw kp) Q := cS.of rfl (k_156_0 h1 h2 h3 h4 h5 h6 h7 h8 h9 h10 h11 h12 h13 h14 h15 h16 h17 h18 h19)
set_option maxRecDepth 100000 in
theorem k_156_181 {x1 : Int32} {s0 : Int32}
    (h1 : Q (some (.int s0)) (mkH hi hl sw kp))
    : cW cd_156 (d + 2) Q 181 [some (.ref 0), some (.int x1)] [(.int s0)] (mkH hi hl sw kp) :=
  cW.run (am_in [181]) 1 (cQ.of (h1))
-- 175: DogDecreesModel.want(J)V
set_option maxRecDepth 100000 in
theorem k_175_0 {x1 : Int64}
    (h1 : (hi 279 2) ≤ 0 → (g_172 hi hl x1) = 0 → cS (d + 1) 171 [(.ref 279), (.int (2))] (mkH hi hl sw kp) (am_ret (cW cd_175 (d + 1) Q) 21 [some (.ref 279), some (.long x1), none] []))
    (h2 : (hi 279 2) ≤ 0 → ¬ ((g_172 hi hl x1) = 0) → cS (d + 1) 170 [(.ref 279)] (mkH hi hl sw kp) (am_ret (cW cd_175 (d + 1) Q) 28 [some (.ref 279), some (.long x1), none] []))
    (h3 : ¬ ((hi 279 2) ≤ 0) → Q none (mkH hi hl sw kp))
    : cW cd_175 (d + 1) Q 0 [some (.ref 279), some (.long x1), none] [] (mkH hi hl sw kp) :=
  cW.run (am_in [21, 28]) 10 (And.intro (fun c1 => (cC.of (s_172 (And.intro (fun c2 => (cC.of (h1 c1 c2))) (fun c3 => (cC.of (h2 c1 c3))))))) (fun c4 => (cQ.of (h3 c4))))
theorem e_175 {x1 : Int64}
    (h1 : (hi 279 2) ≤ 0 → (g_172 hi hl x1) = 0 → cS (d + 1) 171 [(.ref 279), (.int (2))] (mkH hi hl sw kp) (am_ret (cW cd_175 (d + 1) Q) 21 [some (.ref 279), some (.long x1), none] []))
    (h2 : (hi 279 2) ≤ 0 → ¬ ((g_172 hi hl x1) = 0) → cS (d + 1) 170 [(.ref 279)] (mkH hi hl sw kp) (am_ret (cW cd_175 (d + 1) Q) 28 [some (.ref 279), some (.long x1), none] []))
    (h3 : ¬ ((hi 279 2) ≤ 0) → Q none (mkH hi hl sw kp))
    : cS ((d + 1) + 1) 175 [(.ref 279), (.long x1)] (mkH hi hl sw kp) Q := cS.of rfl (k_175_0 h1 h2 h3)
set_option maxRecDepth 100000 in
theorem k_175_21 {x1 : Int64}
    (h1 : cW cd_175 (d + 1) Q 28 [some (.ref 279), some (.long x1), none] [] (mkH hi hl sw kp))
    : cW cd_175 (d + 1) Q 21 [some (.ref 279), some (.long x1), none] [] (mkH hi hl sw kp) :=
  cW.run (am_in [21, 28]) 1 (h1)
set_option maxRecDepth 100000 in
theorem k_175_28 {x1 : Int64}
    (h1 : Q none (mkH hi hl sw kp))
    : cW cd_175 (d + 1) Q 28 [some (.ref 279), some (.long x1), none] [] (mkH hi hl sw kp) :=
  cW.run (am_in [21, 28]) 1 (cQ.of (h1))
-- 176: DogDecreesModel.toldNumber(II)I
set_option maxRecDepth 100000 in
theorem k_176_0 {x1 : Int32} {x2 : Int32}
    (h1 : (hi 279 2) ≤ 0 → (hi 279 6) = (2) → (hi 279 8) < x1 → cS d 171 [(.ref 279), (.int (4))] (mkH hi hl sw kp) (am_ret (cW cd_176 d Q) 46 [some (.ref 279), some (.int x1), some (.int x2), none] []))
    (h2 : (hi 279 2) ≤ 0 → (hi 279 6) = (2) → ¬ ((hi 279 8) < x1) → (hi 279 8) ≤ x2 → cW cd_176 d Q 46 [some (.ref 279), some (.int x1), some (.int x2), none] [] (mkH hi hl sw kp))
    (h3 : (hi 279 2) ≤ 0 → (hi 279 6) = (2) → ¬ ((hi 279 8) < x1) → ¬ ((hi 279 8) ≤ x2) → cS d 171 [(.ref 279), (.int (4))] (mkH hi hl sw kp) (am_ret (cW cd_176 d Q) 46 [some (.ref 279), some (.int x1), some (.int x2), none] []))
    (h4 : (hi 279 2) ≤ 0 → ¬ ((hi 279 6) = (2)) → cS d 171 [(.ref 279), (.int (2))] (mkH hi hl sw kp) (am_ret (cW cd_176 d Q) 22 [some (.ref 279), some (.int x1), some (.int x2), none] []))
    (h5 : ¬ ((hi 279 2) ≤ 0) → Q (some (.int (0))) (mkH hi hl sw kp))
    : cW cd_176 d Q 0 [some (.ref 279), some (.int x1), some (.int x2), none] [] (mkH hi hl sw kp) :=
  cW.run (am_in [22, 46, 62]) 18 (And.intro (fun c1 => (And.intro (fun c2 => (And.intro (fun c3 => (cC.of (h1 c1 c2 c3))) (fun c4 => (And.intro (fun c5 => (h2 c1 c2 c4 c5)) (fun c6 => (cC.of (h3 c1 c2 c4 c6))))))) (fun c7 => (cC.of (h4 c1 c7))))) (fun c8 => (cQ.of (h5 c8))))
theorem e_176 {x1 : Int32} {x2 : Int32}
    (h1 : (hi 279 2) ≤ 0 → (hi 279 6) = (2) → (hi 279 8) < x1 → cS d 171 [(.ref 279), (.int (4))] (mkH hi hl sw kp) (am_ret (cW cd_176 d Q) 46 [some (.ref 279), some (.int x1), some (.int x2), none] []))
    (h2 : (hi 279 2) ≤ 0 → (hi 279 6) = (2) → ¬ ((hi 279 8) < x1) → (hi 279 8) ≤ x2 → cW cd_176 d Q 46 [some (.ref 279), some (.int x1), some (.int x2), none] [] (mkH hi hl sw kp))
    (h3 : (hi 279 2) ≤ 0 → (hi 279 6) = (2) → ¬ ((hi 279 8) < x1) → ¬ ((hi 279 8) ≤ x2) → cS d 171 [(.ref 279), (.int (4))] (mkH hi hl sw kp) (am_ret (cW cd_176 d Q) 46 [some (.ref 279), some (.int x1), some (.int x2), none] []))
    (h4 : (hi 279 2) ≤ 0 → ¬ ((hi 279 6) = (2)) → cS d 171 [(.ref 279), (.int (2))] (mkH hi hl sw kp) (am_ret (cW cd_176 d Q) 22 [some (.ref 279), some (.int x1), some (.int x2), none] []))
    (h5 : ¬ ((hi 279 2) ≤ 0) → Q (some (.int (0))) (mkH hi hl sw kp))
    : cS (d + 1) 176 [(.ref 279), (.int x1), (.int x2)] (mkH hi hl sw kp) Q := cS.of rfl (k_176_0 h1 h2 h3 h4 h5)
set_option maxRecDepth 100000 in
theorem k_176_22 {x1 : Int32} {x2 : Int32}
    (h1 : cW cd_176 d Q 46 [some (.ref 279), some (.int x1), some (.int x2), none] [] (mkH hi hl sw kp))
    : cW cd_176 d Q 22 [some (.ref 279), some (.int x1), some (.int x2), none] [] (mkH hi hl sw kp) :=
  cW.run (am_in [22, 46, 62]) 1 (h1)
set_option maxRecDepth 100000 in
theorem k_176_46 {x1 : Int32} {x2 : Int32}
    (h1 : (hi 279 2) = 0 → cS d 170 [(.ref 279)] (mkH hi hl sw kp) (am_ret (cW cd_176 d Q) 62 [some (.ref 279), some (.int x1), some (.int x2), some (.int (hi 279 8))] []))
    (h2 : ¬ ((hi 279 2) = 0) → cW cd_176 d Q 62 [some (.ref 279), some (.int x1), some (.int x2), some (.int (hi 279 8))] [] (mkH hi hl sw kp))
    : cW cd_176 d Q 46 [some (.ref 279), some (.int x1), some (.int x2), none] [] (mkH hi hl sw kp) :=
  cW.run (am_in [22, 46, 62]) 8 (And.intro (Nat.le_of_ble_eq_true rfl) (And.intro (fun c1 => (cC.of (h1 c1))) (fun c2 => (h2 c2))))
set_option maxRecDepth 100000 in
theorem k_176_62 {x1 : Int32} {x2 : Int32} {x3 : Int32}
    (h1 : Q (some (.int x3)) (mkH hi hl sw kp))
    : cW cd_176 d Q 62 [some (.ref 279), some (.int x1), some (.int x2), some (.int x3)] [] (mkH hi hl sw kp) :=
  cW.run (am_in [22, 46, 62]) 2 (cQ.of (h1))
-- 179: DogDecreesModel.newName(II)V
set_option maxRecDepth 100000 in
theorem k_179_0 {x1 : Int32} {x2 : Int32}
    (h1 : cS (d + 2) 170 [(.ref 279)] (mkH hi hl sw kp) (am_ret (cW cd_179 (d + 2) Q) 4 [some (.ref 279), some (.int x1), some (.int x2)] []))
    : cW cd_179 (d + 2) Q 0 [some (.ref 279), some (.int x1), some (.int x2)] [] (mkH hi hl sw kp) :=
  cW.run (am_in [4, 16, 25, 33, 57]) 2 (cC.of (h1))
theorem e_179 {x1 : Int32} {x2 : Int32}
    (h1 : cS (d + 2) 170 [(.ref 279)] (mkH hi hl sw kp) (am_ret (cW cd_179 (d + 2) Q) 4 [some (.ref 279), some (.int x1), some (.int x2)] []))
    : cS ((d + 2) + 1) 179 [(.ref 279), (.int x1), (.int x2)] (mkH hi hl sw kp) Q := cS.of rfl (k_179_0 h1)
set_option maxRecDepth 100000 in
theorem k_179_4 {x1 : Int32} {x2 : Int32}
    (h1 : (g_174 hi hl) = 0 → cS (d + 2) 171 [(.ref 279), (.int (2))] (mkH hi hl sw kp) (am_ret (cW cd_179 (d + 2) Q) 16 [some (.ref 279), some (.int x1), some (.int x2)] []))
    (h2 : ¬ ((g_174 hi hl) = 0) → cS (d + 2) 178 [(.ref 279), (.int x1), (.int x2)] (mkH hi hl sw kp) (am_ret (cW cd_179 (d + 2) Q) 25 [some (.ref 279), some (.int x1), some (.int x2)] []))
    : cW cd_179 (d + 2) Q 4 [some (.ref 279), some (.int x1), some (.int x2)] [] (mkH hi hl sw kp) :=
  cW.run (am_in [4, 16, 25, 33, 57]) 7 (cC.of (s_174 (And.intro (fun c1 => (cC.of (h1 c1))) (fun c2 => (cC.of (h2 c2))))))
set_option maxRecDepth 100000 in
theorem k_179_16 {x1 : Int32} {x2 : Int32}
    (h1 : cW cd_179 (d + 2) Q 33 [some (.ref 279), some (.int x1), some (.int x2)] [] (mkH hi hl sw kp))
    : cW cd_179 (d + 2) Q 16 [some (.ref 279), some (.int x1), some (.int x2)] [] (mkH hi hl sw kp) :=
  cW.run (am_in [4, 16, 25, 33, 57]) 1 (h1)
set_option maxRecDepth 100000 in
theorem k_179_25 {x1 : Int32} {x2 : Int32} {s0 : Int32}
    (h1 : s0 < 0 → cW cd_179 (d + 2) Q 33 [some (.ref 279), some (.int x1), some (.int x2)] [] (mkH hi hl sw kp))
    (h2 : ¬ (s0 < 0) → cS (d + 2) 171 [(.ref 279), (.int (3))] (mkH hi hl sw kp) (am_ret (cW cd_179 (d + 2) Q) 33 [some (.ref 279), some (.int x1), some (.int x2)] []))
    : cW cd_179 (d + 2) Q 25 [some (.ref 279), some (.int x1), some (.int x2)] [(.int s0)] (mkH hi hl sw kp) :=
  cW.run (am_in [4, 16, 25, 33, 57]) 4 (And.intro (fun c1 => (h1 c1)) (fun c2 => (cC.of (h2 c2))))
set_option maxRecDepth 100000 in
theorem k_179_33 {x1 : Int32} {x2 : Int32}
    (h1 : (hi 279 2) ≤ 0 → vp_in (x1 + x2) 16)
    (h2 : (hi 279 2) ≤ 0 → cS (d + 2) 170 [(.ref 279)] (mkH hi (u2 hl 281 (x1 + x2).toNatClampNeg (hl 279 9)) sw kp) (am_ret (cW cd_179 (d + 2) Q) 57 [some (.ref 279), some (.int x1), some (.int x2)] []))
    (h3 : ¬ ((hi 279 2) ≤ 0) → Q none (mkH hi hl sw kp))
    : cW cd_179 (d + 2) Q 33 [some (.ref 279), some (.int x1), some (.int x2)] [] (mkH hi hl sw kp) :=
  cW.run (am_in [4, 16, 25, 33, 57]) 13 (And.intro (fun c1 => (And.intro (h1 c1) (cC.of (h2 c1)))) (fun c2 => (cQ.of (h3 c2))))
set_option maxRecDepth 100000 in
theorem k_179_57 {x1 : Int32} {x2 : Int32}
    (h1 : Q none (mkH hi hl sw kp))
    : cW cd_179 (d + 2) Q 57 [some (.ref 279), some (.int x1), some (.int x2)] [] (mkH hi hl sw kp) :=
  cW.run (am_in [4, 16, 25, 33, 57]) 1 (cQ.of (h1))
-- 180: DogDecreesModel.oldName(II)I
set_option maxRecDepth 100000 in
theorem k_180_0 {x1 : Int32} {x2 : Int32}
    (h1 : (hi 279 2) ≤ 0 → (g_174 hi hl) = 0 → cS (d + 2) 171 [(.ref 279), (.int (2))] (mkH hi hl sw kp) (am_ret (cW cd_180 (d + 2) Q) 21 [some (.ref 279), some (.int x1), some (.int x2)] []))
    (h2 : (hi 279 2) ≤ 0 → ¬ ((g_174 hi hl) = 0) → cS (d + 2) 178 [(.ref 279), (.int x1), (.int x2)] (mkH hi hl sw kp) (am_ret (cW cd_180 (d + 2) Q) 30 [some (.ref 279), some (.int x1), some (.int x2)] []))
    (h3 : ¬ ((hi 279 2) ≤ 0) → Q (some (.int (0))) (mkH hi hl sw kp))
    : cW cd_180 (d + 2) Q 0 [some (.ref 279), some (.int x1), some (.int x2)] [] (mkH hi hl sw kp) :=
  cW.run (am_in [21, 30, 38, 55]) 10 (And.intro (fun c1 => (cC.of (s_174 (And.intro (fun c2 => (cC.of (h1 c1 c2))) (fun c3 => (cC.of (h2 c1 c3))))))) (fun c4 => (cQ.of (h3 c4))))
theorem e_180 {x1 : Int32} {x2 : Int32}
    (h1 : (hi 279 2) ≤ 0 → (g_174 hi hl) = 0 → cS (d + 2) 171 [(.ref 279), (.int (2))] (mkH hi hl sw kp) (am_ret (cW cd_180 (d + 2) Q) 21 [some (.ref 279), some (.int x1), some (.int x2)] []))
    (h2 : (hi 279 2) ≤ 0 → ¬ ((g_174 hi hl) = 0) → cS (d + 2) 178 [(.ref 279), (.int x1), (.int x2)] (mkH hi hl sw kp) (am_ret (cW cd_180 (d + 2) Q) 30 [some (.ref 279), some (.int x1), some (.int x2)] []))
    (h3 : ¬ ((hi 279 2) ≤ 0) → Q (some (.int (0))) (mkH hi hl sw kp))
    : cS ((d + 2) + 1) 180 [(.ref 279), (.int x1), (.int x2)] (mkH hi hl sw kp) Q := cS.of rfl (k_180_0 h1 h2 h3)
set_option maxRecDepth 100000 in
theorem k_180_21 {x1 : Int32} {x2 : Int32}
    (h1 : cW cd_180 (d + 2) Q 38 [some (.ref 279), some (.int x1), some (.int x2)] [] (mkH hi hl sw kp))
    : cW cd_180 (d + 2) Q 21 [some (.ref 279), some (.int x1), some (.int x2)] [] (mkH hi hl sw kp) :=
  cW.run (am_in [21, 30, 38, 55]) 1 (h1)
set_option maxRecDepth 100000 in
theorem k_180_30 {x1 : Int32} {x2 : Int32} {s0 : Int32}
    (h1 : 0 ≤ s0 → cW cd_180 (d + 2) Q 38 [some (.ref 279), some (.int x1), some (.int x2)] [] (mkH hi hl sw kp))
    (h2 : ¬ (0 ≤ s0) → cS (d + 2) 171 [(.ref 279), (.int (5))] (mkH hi hl sw kp) (am_ret (cW cd_180 (d + 2) Q) 38 [some (.ref 279), some (.int x1), some (.int x2)] []))
    : cW cd_180 (d + 2) Q 30 [some (.ref 279), some (.int x1), some (.int x2)] [(.int s0)] (mkH hi hl sw kp) :=
  cW.run (am_in [21, 30, 38, 55]) 4 (And.intro (fun c1 => (h1 c1)) (fun c2 => (cC.of (h2 c2))))
set_option maxRecDepth 100000 in
theorem k_180_38 {x1 : Int32} {x2 : Int32}
    (h1 : (hi 279 2) ≤ 0 → cS (d + 2) 178 [(.ref 279), (.int x1), (.int x2)] (mkH hi hl sw kp) (am_ret (cW cd_180 (d + 2) Q) 55 [some (.ref 279), some (.int x1), some (.int x2)] []))
    (h2 : ¬ ((hi 279 2) ≤ 0) → cW cd_180 (d + 2) Q 55 [some (.ref 279), some (.int x1), some (.int x2)] [(.int (0))] (mkH hi hl sw kp))
    : cW cd_180 (d + 2) Q 38 [some (.ref 279), some (.int x1), some (.int x2)] [] (mkH hi hl sw kp) :=
  cW.run (am_in [21, 30, 38, 55]) 7 (And.intro (fun c1 => (cC.of (h1 c1))) (fun c2 => (h2 c2)))
set_option maxRecDepth 100000 in
theorem k_180_55 {x1 : Int32} {x2 : Int32} {s0 : Int32}
    (h1 : Q (some (.int s0)) (mkH hi hl sw kp))
    : cW cd_180 (d + 2) Q 55 [some (.ref 279), some (.int x1), some (.int x2)] [(.int s0)] (mkH hi hl sw kp) :=
  cW.run (am_in [21, 30, 38, 55]) 1 (cQ.of (h1))
-- 189: DogDecreesModel.openUp(I)V
set_option maxRecDepth 100000 in
theorem k_189_0 {x1 : Int32}
    (h1 : vp_in (hi 279 19) 160)
    (h2 : (hi 279 2) = 0 → cS d 170 [(.ref 279)] (mkH (u2 (u2 (u2 hi 286 (hi 279 19).toNatClampNeg x1) 279 19 ((hi 279 19) + (1))) 279 23 ((hi 279 23) + (1))) hl sw kp) (am_ret (cW cd_189 d Q) 41 [some (.ref 279), some (.int x1)] []))
    (h3 : ¬ ((hi 279 2) = 0) → cW cd_189 d Q 41 [some (.ref 279), some (.int x1)] [] (mkH (u2 (u2 (u2 hi 286 (hi 279 19).toNatClampNeg x1) 279 19 ((hi 279 19) + (1))) 279 23 ((hi 279 23) + (1))) hl sw kp))
    : cW cd_189 d Q 0 [some (.ref 279), some (.int x1)] [] (mkH hi hl sw kp) :=
  cW.run (am_in [41]) 23 (And.intro (h1) (And.intro rfl (And.intro rfl (And.intro (fun c1 => (cC.of (h2 c1))) (fun c2 => (h3 c2))))))
theorem e_189 {x1 : Int32}
    (h1 : vp_in (hi 279 19) 160)
    (h2 : (hi 279 2) = 0 → cS d 170 [(.ref 279)] (mkH (u2 (u2 (u2 hi 286 (hi 279 19).toNatClampNeg x1) 279 19 ((hi 279 19) + (1))) 279 23 ((hi 279 23) + (1))) hl sw kp) (am_ret (cW cd_189 d Q) 41 [some (.ref 279), some (.int x1)] []))
    (h3 : ¬ ((hi 279 2) = 0) → cW cd_189 d Q 41 [some (.ref 279), some (.int x1)] [] (mkH (u2 (u2 (u2 hi 286 (hi 279 19).toNatClampNeg x1) 279 19 ((hi 279 19) + (1))) 279 23 ((hi 279 23) + (1))) hl sw kp))
    : cS (d + 1) 189 [(.ref 279), (.int x1)] (mkH hi hl sw kp) Q := cS.of rfl (k_189_0 h1 h2 h3)
set_option maxRecDepth 100000 in
theorem k_189_41 {x1 : Int32}
    (h1 : Q none (mkH hi hl sw kp))
    : cW cd_189 d Q 41 [some (.ref 279), some (.int x1)] [] (mkH hi hl sw kp) :=
  cW.run (am_in [41]) 1 (cQ.of (h1))
-- 196: DogDecreesModel.worked()I
set_option maxRecDepth 100000 in
theorem k_196_0
    (h1 : cW cd_196 (d + 2) Q 4 [some (.ref 279), some (.int (0)), some (.int (0))] [] (mkH hi hl sw kp))
    : cW cd_196 (d + 2) Q 0 [some (.ref 279), none, none] [] (mkH hi hl sw kp) :=
  cW.run (am_in [4]) 4 (And.intro (Nat.le_of_ble_eq_true rfl) (And.intro (Nat.le_of_ble_eq_true rfl) (h1)))
theorem e_196
    (h1 : cW cd_196 (d + 2) Q 4 [some (.ref 279), some (.int (0)), some (.int (0))] [] (mkH hi hl sw kp))
    : cS ((d + 2) + 1) 196 [(.ref 279)] (mkH hi hl sw kp) Q := cS.of rfl (k_196_0 h1)
set_option maxRecDepth 100000 in
theorem k_196_4 {x1 : Int32} {x2 : Int32}
    (h1 : (hi 279 18) ≤ x2 → Q (some (.int (hi 287 0))) (mkH hi hl sw kp))
    (h2 : ¬ ((hi 279 18) ≤ x2) → vp_in x2 320)
    (h3 : ¬ ((hi 279 18) ≤ x2) → (hi 284 x2.toNatClampNeg) = 0 → (hi 284 x2.toNatClampNeg) = 0 → vp_in x1 64)
    (h4 : ¬ ((hi 279 18) ≤ x2) → (hi 284 x2.toNatClampNeg) = 0 → (hi 284 x2.toNatClampNeg) = 0 → cW cd_196 (d + 2) Q 4 [some (.ref 279), some (.int (x1 + (1))), some (.int (x2 + (1)))] [] (mkH (u2 hi 287 x1.toNatClampNeg (hi 285 x2.toNatClampNeg)) hl sw kp))
    (h5 : ¬ ((hi 279 18) ≤ x2) → (hi 284 x2.toNatClampNeg) = 0 → ¬ ((hi 284 x2.toNatClampNeg) = 0) → vp_in (hi 285 x2.toNatClampNeg) 5)
    (h6 : ¬ ((hi 279 18) ≤ x2) → (hi 284 x2.toNatClampNeg) = 0 → ¬ ((hi 284 x2.toNatClampNeg) = 0) → vp_in x1 64)
    (h7 : ¬ ((hi 279 18) ≤ x2) → (hi 284 x2.toNatClampNeg) = 0 → ¬ ((hi 284 x2.toNatClampNeg) = 0) → cW cd_196 (d + 2) Q 4 [some (.ref 279), some (.int (x1 + (1))), some (.int (x2 + (1)))] [] (mkH (u2 hi 287 x1.toNatClampNeg (hi 288 (hi 285 x2.toNatClampNeg).toNatClampNeg)) hl sw kp))
    (h8 : ¬ ((hi 279 18) ≤ x2) → ¬ ((hi 284 x2.toNatClampNeg) = 0) → (hi 284 x2.toNatClampNeg) = (1) → (hi 284 x2.toNatClampNeg) = 0 → vp_in x1 64)
    (h9 : ¬ ((hi 279 18) ≤ x2) → ¬ ((hi 284 x2.toNatClampNeg) = 0) → (hi 284 x2.toNatClampNeg) = (1) → (hi 284 x2.toNatClampNeg) = 0 → cW cd_196 (d + 2) Q 4 [some (.ref 279), some (.int (x1 + (1))), some (.int (x2 + (1)))] [] (mkH (u2 hi 287 x1.toNatClampNeg (hi 285 x2.toNatClampNeg)) hl sw kp))
    (h10 : ¬ ((hi 279 18) ≤ x2) → ¬ ((hi 284 x2.toNatClampNeg) = 0) → (hi 284 x2.toNatClampNeg) = (1) → ¬ ((hi 284 x2.toNatClampNeg) = 0) → vp_in (hi 285 x2.toNatClampNeg) 5)
    (h11 : ¬ ((hi 279 18) ≤ x2) → ¬ ((hi 284 x2.toNatClampNeg) = 0) → (hi 284 x2.toNatClampNeg) = (1) → ¬ ((hi 284 x2.toNatClampNeg) = 0) → vp_in x1 64)
    (h12 : ¬ ((hi 279 18) ≤ x2) → ¬ ((hi 284 x2.toNatClampNeg) = 0) → (hi 284 x2.toNatClampNeg) = (1) → ¬ ((hi 284 x2.toNatClampNeg) = 0) → cW cd_196 (d + 2) Q 4 [some (.ref 279), some (.int (x1 + (1))), some (.int (x2 + (1)))] [] (mkH (u2 hi 287 x1.toNatClampNeg (hi 288 (hi 285 x2.toNatClampNeg).toNatClampNeg)) hl sw kp))
    (h13 : ¬ ((hi 279 18) ≤ x2) → ¬ ((hi 284 x2.toNatClampNeg) = 0) → ¬ ((hi 284 x2.toNatClampNeg) = (1)) → (hi 284 x2.toNatClampNeg) = (2) → vp_in (x1 - (1)) 64)
    (h14 : ¬ ((hi 279 18) ≤ x2) → ¬ ((hi 284 x2.toNatClampNeg) = 0) → ¬ ((hi 284 x2.toNatClampNeg) = (1)) → (hi 284 x2.toNatClampNeg) = (2) → (hi 287 (x1 - (1)).toNatClampNeg) = 0 → cW cd_196 (d + 2) Q 4 [some (.ref 279), some (.int x1), some (.int (x2 + (1)))] [] (mkH (u2 hi 287 (x1 - (1)).toNatClampNeg (g_194 (1 : Int32))) hl sw kp))
    (h15 : ¬ ((hi 279 18) ≤ x2) → ¬ ((hi 284 x2.toNatClampNeg) = 0) → ¬ ((hi 284 x2.toNatClampNeg) = (1)) → (hi 284 x2.toNatClampNeg) = (2) → ¬ ((hi 287 (x1 - (1)).toNatClampNeg) = 0) → cW cd_196 (d + 2) Q 4 [some (.ref 279), some (.int x1), some (.int (x2 + (1)))] [] (mkH (u2 hi 287 (x1 - (1)).toNatClampNeg (g_194 (0 : Int32))) hl sw kp))
    (h16 : ¬ ((hi 279 18) ≤ x2) → ¬ ((hi 284 x2.toNatClampNeg) = 0) → ¬ ((hi 284 x2.toNatClampNeg) = (1)) → ¬ ((hi 284 x2.toNatClampNeg) = (2)) → vp_in ((x1 + (-1)) - (1)) 64)
    (h17 : ¬ ((hi 279 18) ≤ x2) → ¬ ((hi 284 x2.toNatClampNeg) = 0) → ¬ ((hi 284 x2.toNatClampNeg) = (1)) → ¬ ((hi 284 x2.toNatClampNeg) = (2)) → vp_in (x1 + (-1)) 64)
    (h18 : ¬ ((hi 279 18) ≤ x2) → ¬ ((hi 284 x2.toNatClampNeg) = 0) → ¬ ((hi 284 x2.toNatClampNeg) = (1)) → ¬ ((hi 284 x2.toNatClampNeg) = (2)) → (hi 285 x2.toNatClampNeg) = 37 → ¬ ((hi 287 (x1 + (-1)).toNatClampNeg) = 0) → ¬ (hi 287 (x1 + (-1)).toNatClampNeg) = 0)
    (h19 : ¬ ((hi 279 18) ≤ x2) → ¬ ((hi 284 x2.toNatClampNeg) = 0) → ¬ ((hi 284 x2.toNatClampNeg) = (1)) → ¬ ((hi 284 x2.toNatClampNeg) = (2)) → ¬ (hi 285 x2.toNatClampNeg) = 37 → ¬ (hi 285 x2.toNatClampNeg) = 38 → ¬ (hi 285 x2.toNatClampNeg) = 39 → ¬ (hi 285 x2.toNatClampNeg) = 40 → ¬ (hi 285 x2.toNatClampNeg) = 41 → ¬ (hi 285 x2.toNatClampNeg) = 42 → ¬ (hi 285 x2.toNatClampNeg) = 43 → ¬ (hi 285 x2.toNatClampNeg) = 44 → ¬ (hi 285 x2.toNatClampNeg) = 45 → ¬ (hi 285 x2.toNatClampNeg) = 46 → (hi 285 x2.toNatClampNeg) = 47 → ¬ ((hi 287 (x1 + (-1)).toNatClampNeg) = 0) → ¬ (hi 287 (x1 + (-1)).toNatClampNeg) = 0)
    (h20 : ¬ ((hi 279 18) ≤ x2) → ¬ ((hi 284 x2.toNatClampNeg) = 0) → ¬ ((hi 284 x2.toNatClampNeg) = (1)) → ¬ ((hi 284 x2.toNatClampNeg) = (2)) → cW cd_196 (d + 2) Q 4 [some (.ref 279), some (.int (x1 + (-1))), some (.int (x2 + (1)))] [] (mkH (u2 hi 287 ((x1 + (-1)) - (1)).toNatClampNeg (g_195 (hi 285 x2.toNatClampNeg) (hi 287 ((x1 + (-1)) - (1)).toNatClampNeg) (hi 287 (x1 + (-1)).toNatClampNeg))) hl sw kp))
    : cW cd_196 (d + 2) Q 4 [some (.ref 279), some (.int x1), some (.int x2)] [] (mkH hi hl sw kp) :=
  cW.run (am_in [4]) 45 (And.intro (fun c1 => (And.intro (show vp_in 0 64 from vin_l (by decide +kernel)) (cQ.of (h1 c1)))) (fun c2 => (And.intro (h2 c2) (And.intro (fun c3 => (And.intro (h2 c2) (And.intro (fun c4 => (And.intro (h2 c2) (And.intro (h3 c2 c3 c4) (And.intro (Nat.le_of_ble_eq_true rfl) (And.intro (Nat.le_of_ble_eq_true rfl) (h4 c2 c3 c4)))))) (fun c5 => (And.intro (h2 c2) (And.intro (h5 c2 c3 c5) (And.intro (h6 c2 c3 c5) (And.intro (Nat.le_of_ble_eq_true rfl) (And.intro (Nat.le_of_ble_eq_true rfl) (h7 c2 c3 c5)))))))))) (fun c6 => (And.intro (h2 c2) (And.intro (fun c7 => (And.intro (h2 c2) (And.intro (fun c8 => (And.intro (h2 c2) (And.intro (h8 c2 c6 c7 c8) (And.intro (Nat.le_of_ble_eq_true rfl) (And.intro (Nat.le_of_ble_eq_true rfl) (h9 c2 c6 c7 c8)))))) (fun c9 => (And.intro (h2 c2) (And.intro (h10 c2 c6 c7 c9) (And.intro (h11 c2 c6 c7 c9) (And.intro (Nat.le_of_ble_eq_true rfl) (And.intro (Nat.le_of_ble_eq_true rfl) (h12 c2 c6 c7 c9)))))))))) (fun c10 => (And.intro (h2 c2) (And.intro (fun c11 => (And.intro (h13 c2 c6 c10 c11) (And.intro (fun c12 => (cC.of (s_194 (And.intro (h13 c2 c6 c10 c11) (And.intro (Nat.le_of_ble_eq_true rfl) (h14 c2 c6 c10 c11 c12)))))) (fun c13 => (cC.of (s_194 (And.intro (h13 c2 c6 c10 c11) (And.intro (Nat.le_of_ble_eq_true rfl) (h15 c2 c6 c10 c11 c13))))))))) (fun c14 => (And.intro (Nat.le_of_ble_eq_true rfl) (And.intro (h2 c2) (And.intro (h16 c2 c6 c10 c14) (And.intro (h17 c2 c6 c10 c14) (cC.of (s_195 (h18 c2 c6 c10 c14) (h19 c2 c6 c10 c14) (And.intro (h16 c2 c6 c10 c14) (And.intro (Nat.le_of_ble_eq_true rfl) (h20 c2 c6 c10 c14))))))))))))))))))))
-- 220: DogDecreesModel.hearing(II)I
set_option maxRecDepth 100000 in
theorem k_220_0 {x1 : Int32} {x2 : Int32}
    (h1 : (g_209 hi x1) = 0 → Q (some (.int (-1000000))) (mkH hi hl sw kp))
    (h2 : ¬ ((g_209 hi x1) = 0) → x2 = 0 → vp_in ((8) + x1) 82)
    (h3 : ¬ ((g_209 hi x1) = 0) → x2 = 0 → Q (some (.int (hi 299 ((8) + x1).toNatClampNeg))) (mkH hi hl sw kp))
    (h4 : ¬ ((g_209 hi x1) = 0) → ¬ x2 = 0 → x2 = 1 → vp_in x1 4)
    (h5 : ¬ ((g_209 hi x1) = 0) → ¬ x2 = 0 → x2 = 1 → Q (some (.int (hi 297 x1.toNatClampNeg))) (mkH hi hl sw kp))
    (h6 : ¬ ((g_209 hi x1) = 0) → ¬ x2 = 0 → ¬ x2 = 1 → x2 = 2 → vp_in ((12) + x1) 82)
    (h7 : ¬ ((g_209 hi x1) = 0) → ¬ x2 = 0 → ¬ x2 = 1 → x2 = 2 → Q (some (.int (hi 299 ((12) + x1).toNatClampNeg))) (mkH hi hl sw kp))
    (h8 : ¬ ((g_209 hi x1) = 0) → ¬ x2 = 0 → ¬ x2 = 1 → ¬ x2 = 2 → x2 = 3 → ¬ ((hi 279 48) = 0) → ¬ (hi 279 51) = 0)
    (h9 : ¬ ((g_209 hi x1) = 0) → ¬ x2 = 0 → ¬ x2 = 1 → ¬ x2 = 2 → x2 = 3 → ¬ ((hi 279 48) = 0) → ¬ (hi 279 48) = 0)
    (h10 : ¬ ((g_209 hi x1) = 0) → ¬ x2 = 0 → ¬ x2 = 1 → ¬ x2 = 2 → x2 = 3 → (g_218 hi (hi 299 17)) = x1 → Q (some (.int (g_194 (1 : Int32)))) (mkH hi hl sw kp))
    (h11 : ¬ ((g_209 hi x1) = 0) → ¬ x2 = 0 → ¬ x2 = 1 → ¬ x2 = 2 → x2 = 3 → ¬ ((g_218 hi (hi 299 17)) = x1) → Q (some (.int (g_194 (0 : Int32)))) (mkH hi hl sw kp))
    (h12 : ¬ ((g_209 hi x1) = 0) → ¬ x2 = 0 → ¬ x2 = 1 → ¬ x2 = 2 → ¬ x2 = 3 → Q (some (.int (-1000000))) (mkH hi hl sw kp))
    : cW cd_220 (d + 2) Q 0 [some (.ref 279), some (.int x1), some (.int x2)] [] (mkH hi hl sw kp) :=
  cW.run (am_in []) 18 (cC.of (s_209 (And.intro (fun c1 => (cQ.of (h1 c1))) (fun c2 => (And.intro (fun c3 => (And.intro (h2 c2 c3) (cQ.of (h3 c2 c3)))) (fun c4 => (And.intro (fun c5 => (And.intro (h4 c2 c4 c5) (cQ.of (h5 c2 c4 c5)))) (fun c6 => (And.intro (fun c7 => (And.intro (h6 c2 c4 c6 c7) (cQ.of (h7 c2 c4 c6 c7)))) (fun c8 => (And.intro (fun c9 => (And.intro (show vp_in 17 82 from vin_l (by decide +kernel)) (cC.of (s_218 (h8 c2 c4 c6 c8 c9) (h9 c2 c4 c6 c8 c9) (And.intro (fun c10 => (cC.of (s_194 (cQ.of (h10 c2 c4 c6 c8 c9 c10))))) (fun c11 => (cC.of (s_194 (cQ.of (h11 c2 c4 c6 c8 c9 c11)))))))))) (fun c12 => (cQ.of (h12 c2 c4 c6 c8 c12))))))))))))))
theorem e_220 {x1 : Int32} {x2 : Int32}
    (h1 : (g_209 hi x1) = 0 → Q (some (.int (-1000000))) (mkH hi hl sw kp))
    (h2 : ¬ ((g_209 hi x1) = 0) → x2 = 0 → vp_in ((8) + x1) 82)
    (h3 : ¬ ((g_209 hi x1) = 0) → x2 = 0 → Q (some (.int (hi 299 ((8) + x1).toNatClampNeg))) (mkH hi hl sw kp))
    (h4 : ¬ ((g_209 hi x1) = 0) → ¬ x2 = 0 → x2 = 1 → vp_in x1 4)
    (h5 : ¬ ((g_209 hi x1) = 0) → ¬ x2 = 0 → x2 = 1 → Q (some (.int (hi 297 x1.toNatClampNeg))) (mkH hi hl sw kp))
    (h6 : ¬ ((g_209 hi x1) = 0) → ¬ x2 = 0 → ¬ x2 = 1 → x2 = 2 → vp_in ((12) + x1) 82)
    (h7 : ¬ ((g_209 hi x1) = 0) → ¬ x2 = 0 → ¬ x2 = 1 → x2 = 2 → Q (some (.int (hi 299 ((12) + x1).toNatClampNeg))) (mkH hi hl sw kp))
    (h8 : ¬ ((g_209 hi x1) = 0) → ¬ x2 = 0 → ¬ x2 = 1 → ¬ x2 = 2 → x2 = 3 → ¬ ((hi 279 48) = 0) → ¬ (hi 279 51) = 0)
    (h9 : ¬ ((g_209 hi x1) = 0) → ¬ x2 = 0 → ¬ x2 = 1 → ¬ x2 = 2 → x2 = 3 → ¬ ((hi 279 48) = 0) → ¬ (hi 279 48) = 0)
    (h10 : ¬ ((g_209 hi x1) = 0) → ¬ x2 = 0 → ¬ x2 = 1 → ¬ x2 = 2 → x2 = 3 → (g_218 hi (hi 299 17)) = x1 → Q (some (.int (g_194 (1 : Int32)))) (mkH hi hl sw kp))
    (h11 : ¬ ((g_209 hi x1) = 0) → ¬ x2 = 0 → ¬ x2 = 1 → ¬ x2 = 2 → x2 = 3 → ¬ ((g_218 hi (hi 299 17)) = x1) → Q (some (.int (g_194 (0 : Int32)))) (mkH hi hl sw kp))
    (h12 : ¬ ((g_209 hi x1) = 0) → ¬ x2 = 0 → ¬ x2 = 1 → ¬ x2 = 2 → ¬ x2 = 3 → Q (some (.int (-1000000))) (mkH hi hl sw kp))
    : cS ((d + 2) + 1) 220 [(.ref 279), (.int x1), (.int x2)] (mkH hi hl sw kp) Q := cS.of rfl (k_220_0 h1 h2 h3 h4 h5 h6 h7 h8 h9 h10 h11 h12)
def g_220 (hi : Nat → Nat → Int32) (x1 : Int32) (x2 : Int32) : Int32 := if (g_209 hi x1) = 0 then (-1000000) else (if x2 = 0 then (hi 299 ((8) + x1).toNatClampNeg) else (if x2 = 1 then (hi 297 x1.toNatClampNeg) else (if x2 = 2 then (hi 299 ((12) + x1).toNatClampNeg) else (if x2 = 3 then if (g_218 hi (hi 299 17)) = x1 then (g_194 (1 : Int32)) else ((g_194 (0 : Int32))) else ((-1000000))))))
set_option maxRecDepth 100000 in
theorem s_220 {x1 : Int32} {x2 : Int32} (o1 : ¬ ((g_209 hi x1) = 0) → x2 = 0 → vp_in ((8) + x1) 82) (o2 : ¬ ((g_209 hi x1) = 0) → ¬ x2 = 0 → x2 = 1 → vp_in x1 4) (o3 : ¬ ((g_209 hi x1) = 0) → ¬ x2 = 0 → ¬ x2 = 1 → x2 = 2 → vp_in ((12) + x1) 82) (o4 : ¬ ((g_209 hi x1) = 0) → ¬ x2 = 0 → ¬ x2 = 1 → ¬ x2 = 2 → x2 = 3 → ¬ ((hi 279 48) = 0) → ¬ (hi 279 51) = 0) (o5 : ¬ ((g_209 hi x1) = 0) → ¬ x2 = 0 → ¬ x2 = 1 → ¬ x2 = 2 → x2 = 3 → ¬ ((hi 279 48) = 0) → ¬ (hi 279 48) = 0) (w : Q (some (.int (g_220 hi x1 x2))) (mkH hi hl sw kp)) : cS ((d + 2) + 1) 220 [(.ref 279), (.int x1), (.int x2)] (mkH hi hl sw kp) Q :=
  e_220 (fun c1 => by
      have e : g_220 hi x1 x2 = (-1000000) := by
        unfold g_220
        rw [if_pos c1]
      rw [e] at w
      exact w) o1 (fun c2 c3 => by
      have e : g_220 hi x1 x2 = (hi 299 ((8) + x1).toNatClampNeg) := by
        unfold g_220
        rw [if_neg c2, if_pos c3]
      rw [e] at w
      exact w) o2 (fun c2 c4 c5 => by
      have e : g_220 hi x1 x2 = (hi 297 x1.toNatClampNeg) := by
        unfold g_220
        rw [if_neg c2, if_neg c4, if_pos c5]
      rw [e] at w
      exact w) o3 (fun c2 c4 c6 c7 => by
      have e : g_220 hi x1 x2 = (hi 299 ((12) + x1).toNatClampNeg) := by
        unfold g_220
        rw [if_neg c2, if_neg c4, if_neg c6, if_pos c7]
      rw [e] at w
      exact w) o4 o5 (fun c2 c4 c6 c8 c9 c10 => by
      have e : g_220 hi x1 x2 = (g_194 (1 : Int32)) := by
        unfold g_220
        rw [if_neg c2, if_neg c4, if_neg c6, if_neg c8, if_pos c9, if_pos c10]
      rw [e] at w
      exact w) (fun c2 c4 c6 c8 c9 c11 => by
      have e : g_220 hi x1 x2 = (g_194 (0 : Int32)) := by
        unfold g_220
        rw [if_neg c2, if_neg c4, if_neg c6, if_neg c8, if_pos c9, if_neg c11]
      rw [e] at w
      exact w) (fun c2 c4 c6 c8 c12 => by
      have e : g_220 hi x1 x2 = (-1000000) := by
        unfold g_220
        rw [if_neg c2, if_neg c4, if_neg c6, if_neg c8, if_neg c12]
      rw [e] at w
      exact w)
-- 221: DogDecreesModel.table(II)I
set_option maxRecDepth 100000 in
theorem k_221_0 {x1 : Int32} {x2 : Int32}
    (h1 : (g_210 hi x1) = 0 → Q (some (.int (-1000000))) (mkH hi hl sw kp))
    (h2 : ¬ ((g_210 hi x1) = 0) → (g_209 hi x2) = 0 → Q (some (.int (-1000000))) (mkH hi hl sw kp))
    (h3 : ¬ ((g_210 hi x1) = 0) → ¬ ((g_209 hi x2) = 0) → vp_in (((4) * x1) + x2) 16)
    (h4 : ¬ ((g_210 hi x1) = 0) → ¬ ((g_209 hi x2) = 0) → Q (some (.int (hi 298 (((4) * x1) + x2).toNatClampNeg))) (mkH hi hl sw kp))
    : cW cd_221 (d + 2) Q 0 [some (.ref 279), some (.int x1), some (.int x2)] [] (mkH hi hl sw kp) :=
  cW.run (am_in []) 18 (cC.of (s_210 (And.intro (fun c1 => (cQ.of (h1 c1))) (fun c2 => (cC.of (s_209 (And.intro (fun c3 => (cQ.of (h2 c2 c3))) (fun c4 => (And.intro (h3 c2 c4) (cQ.of (h4 c2 c4)))))))))))
theorem e_221 {x1 : Int32} {x2 : Int32}
    (h1 : (g_210 hi x1) = 0 → Q (some (.int (-1000000))) (mkH hi hl sw kp))
    (h2 : ¬ ((g_210 hi x1) = 0) → (g_209 hi x2) = 0 → Q (some (.int (-1000000))) (mkH hi hl sw kp))
    (h3 : ¬ ((g_210 hi x1) = 0) → ¬ ((g_209 hi x2) = 0) → vp_in (((4) * x1) + x2) 16)
    (h4 : ¬ ((g_210 hi x1) = 0) → ¬ ((g_209 hi x2) = 0) → Q (some (.int (hi 298 (((4) * x1) + x2).toNatClampNeg))) (mkH hi hl sw kp))
    : cS ((d + 2) + 1) 221 [(.ref 279), (.int x1), (.int x2)] (mkH hi hl sw kp) Q := cS.of rfl (k_221_0 h1 h2 h3 h4)
def g_221 (hi : Nat → Nat → Int32) (x1 : Int32) (x2 : Int32) : Int32 := if (g_210 hi x1) = 0 then (-1000000) else (if (g_209 hi x2) = 0 then (-1000000) else ((hi 298 (((4) * x1) + x2).toNatClampNeg)))
set_option maxRecDepth 100000 in
theorem s_221 {x1 : Int32} {x2 : Int32} (o1 : ¬ ((g_210 hi x1) = 0) → ¬ ((g_209 hi x2) = 0) → vp_in (((4) * x1) + x2) 16) (w : Q (some (.int (g_221 hi x1 x2))) (mkH hi hl sw kp)) : cS ((d + 2) + 1) 221 [(.ref 279), (.int x1), (.int x2)] (mkH hi hl sw kp) Q :=
  e_221 (fun c1 => by
      have e : g_221 hi x1 x2 = (-1000000) := by
        unfold g_221
        rw [if_pos c1]
      rw [e] at w
      exact w) (fun c2 c3 => by
      have e : g_221 hi x1 x2 = (-1000000) := by
        unfold g_221
        rw [if_neg c2, if_pos c3]
      rw [e] at w
      exact w) o1 (fun c2 c4 => by
      have e : g_221 hi x1 x2 = (hi 298 (((4) * x1) + x2).toNatClampNeg) := by
        unfold g_221
        rw [if_neg c2, if_neg c4]
      rw [e] at w
      exact w)
-- 228: DogDecreesModel.lay(I)I
set_option maxRecDepth 100000 in
theorem k_228_0 {x1 : Int32}
    (h1 : (g_208 hi x1) = 0 → Q (some (.int (-1))) (mkH hi hl sw kp))
    (h2 : ¬ ((g_208 hi x1) = 0) → vp_in ((0) + x1) 82)
    (h3 : ¬ ((g_208 hi x1) = 0) → (hi 299 ((0) + x1).toNatClampNeg) = (9) → Q (some (.int (-1))) (mkH hi hl sw kp))
    (h4 : ¬ ((g_208 hi x1) = 0) → ¬ ((hi 299 ((0) + x1).toNatClampNeg) = (9)) → cS (d + 2) 223 [(.ref 279)] (mkH hi hl sw kp) (am_ret (cW cd_228 (d + 2) Q) 27 [some (.ref 279), some (.int x1)] []))
    : cW cd_228 (d + 2) Q 0 [some (.ref 279), some (.int x1)] [] (mkH hi hl sw kp) :=
  cW.run (am_in [27]) 14 (cC.of (s_208 (And.intro (fun c1 => (cQ.of (h1 c1))) (fun c2 => (And.intro (h2 c2) (And.intro (fun c3 => (cQ.of (h3 c2 c3))) (fun c4 => (cC.of (h4 c2 c4)))))))))
theorem e_228 {x1 : Int32}
    (h1 : (g_208 hi x1) = 0 → Q (some (.int (-1))) (mkH hi hl sw kp))
    (h2 : ¬ ((g_208 hi x1) = 0) → vp_in ((0) + x1) 82)
    (h3 : ¬ ((g_208 hi x1) = 0) → (hi 299 ((0) + x1).toNatClampNeg) = (9) → Q (some (.int (-1))) (mkH hi hl sw kp))
    (h4 : ¬ ((g_208 hi x1) = 0) → ¬ ((hi 299 ((0) + x1).toNatClampNeg) = (9)) → cS (d + 2) 223 [(.ref 279)] (mkH hi hl sw kp) (am_ret (cW cd_228 (d + 2) Q) 27 [some (.ref 279), some (.int x1)] []))
    : cS ((d + 2) + 1) 228 [(.ref 279), (.int x1)] (mkH hi hl sw kp) Q := cS.of rfl (k_228_0 h1 h2 h3 h4)
set_option maxRecDepth 100000 in
theorem k_228_27 {x1 : Int32}
    (h1 : vp_in ((0) + x1) 82)
    (h2 : Q (some (.int ((u2 hi 299 ((0) + x1).toNatClampNeg ((hi 299 ((0) + x1).toNatClampNeg) + (1))) 299 ((0) + x1).toNatClampNeg))) (mkH (u2 hi 299 ((0) + x1).toNatClampNeg ((hi 299 ((0) + x1).toNatClampNeg) + (1))) hl sw kp))
    : cW cd_228 (d + 2) Q 27 [some (.ref 279), some (.int x1)] [] (mkH hi hl sw kp) :=
  cW.run (am_in [27]) 17 (And.intro rfl (And.intro rfl (And.intro (h1) (And.intro (h1) (And.intro (h1) (cQ.of (h2)))))))
-- 229: DogDecreesModel.take(I)I
set_option maxRecDepth 100000 in
theorem k_229_0 {x1 : Int32}
    (h1 : (g_208 hi x1) = 0 → Q (some (.int (-1))) (mkH hi hl sw kp))
    (h2 : ¬ ((g_208 hi x1) = 0) → vp_in ((0) + x1) 82)
    (h3 : ¬ ((g_208 hi x1) = 0) → (hi 299 ((0) + x1).toNatClampNeg) = 0 → Q (some (.int (-1))) (mkH hi hl sw kp))
    (h4 : ¬ ((g_208 hi x1) = 0) → ¬ ((hi 299 ((0) + x1).toNatClampNeg) = 0) → cS (d + 2) 223 [(.ref 279)] (mkH hi hl sw kp) (am_ret (cW cd_229 (d + 2) Q) 25 [some (.ref 279), some (.int x1)] []))
    : cW cd_229 (d + 2) Q 0 [some (.ref 279), some (.int x1)] [] (mkH hi hl sw kp) :=
  cW.run (am_in [25]) 13 (cC.of (s_208 (And.intro (fun c1 => (cQ.of (h1 c1))) (fun c2 => (And.intro (h2 c2) (And.intro (fun c3 => (cQ.of (h3 c2 c3))) (fun c4 => (cC.of (h4 c2 c4)))))))))
theorem e_229 {x1 : Int32}
    (h1 : (g_208 hi x1) = 0 → Q (some (.int (-1))) (mkH hi hl sw kp))
    (h2 : ¬ ((g_208 hi x1) = 0) → vp_in ((0) + x1) 82)
    (h3 : ¬ ((g_208 hi x1) = 0) → (hi 299 ((0) + x1).toNatClampNeg) = 0 → Q (some (.int (-1))) (mkH hi hl sw kp))
    (h4 : ¬ ((g_208 hi x1) = 0) → ¬ ((hi 299 ((0) + x1).toNatClampNeg) = 0) → cS (d + 2) 223 [(.ref 279)] (mkH hi hl sw kp) (am_ret (cW cd_229 (d + 2) Q) 25 [some (.ref 279), some (.int x1)] []))
    : cS ((d + 2) + 1) 229 [(.ref 279), (.int x1)] (mkH hi hl sw kp) Q := cS.of rfl (k_229_0 h1 h2 h3 h4)
set_option maxRecDepth 100000 in
theorem k_229_25 {x1 : Int32}
    (h1 : vp_in ((0) + x1) 82)
    (h2 : Q (some (.int ((u2 hi 299 ((0) + x1).toNatClampNeg ((hi 299 ((0) + x1).toNatClampNeg) - (1))) 299 ((0) + x1).toNatClampNeg))) (mkH (u2 hi 299 ((0) + x1).toNatClampNeg ((hi 299 ((0) + x1).toNatClampNeg) - (1))) hl sw kp))
    : cW cd_229 (d + 2) Q 25 [some (.ref 279), some (.int x1)] [] (mkH hi hl sw kp) :=
  cW.run (am_in [25]) 17 (And.intro rfl (And.intro rfl (And.intro (h1) (And.intro (h1) (And.intro (h1) (cQ.of (h2)))))))
-- 265: DogDecreesModel.count(IIIIII)I
set_option maxRecDepth 100000 in
theorem k_265_0 {x1 : Int32} {x2 : Int32} {x3 : Int32} {x4 : Int32} {x5 : Int32} {x6 : Int32}
    (h1 : (g_209 hi x1) = 0 → Q (some (.int (-1))) (mkH hi hl sw kp))
    (h2 : ¬ ((g_209 hi x1) = 0) → (g_210 hi x2) = 0 → Q (some (.int (-1))) (mkH hi hl sw kp))
    (h3 : ¬ ((g_209 hi x1) = 0) → ¬ ((g_210 hi x2) = 0) → (g_210 hi x4) = 0 → Q (some (.int (-1))) (mkH hi hl sw kp))
    (h4 : ¬ ((g_209 hi x1) = 0) → ¬ ((g_210 hi x2) = 0) → ¬ ((g_210 hi x4) = 0) → (g_207 x3 (0 : Int32) (9 : Int32)) = 0 → Q (some (.int (-1))) (mkH hi hl sw kp))
    (h5 : ¬ ((g_209 hi x1) = 0) → ¬ ((g_210 hi x2) = 0) → ¬ ((g_210 hi x4) = 0) → ¬ ((g_207 x3 (0 : Int32) (9 : Int32)) = 0) → (g_207 x5 (0 : Int32) (9 : Int32)) = 0 → Q (some (.int (-1))) (mkH hi hl sw kp))
    (h6 : ¬ ((g_209 hi x1) = 0) → ¬ ((g_210 hi x2) = 0) → ¬ ((g_210 hi x4) = 0) → ¬ ((g_207 x3 (0 : Int32) (9 : Int32)) = 0) → ¬ ((g_207 x5 (0 : Int32) (9 : Int32)) = 0) → (g_207 x6 (-99 : Int32) (99 : Int32)) = 0 → Q (some (.int (-1))) (mkH hi hl sw kp))
    (h7 : ¬ ((g_209 hi x1) = 0) → ¬ ((g_210 hi x2) = 0) → ¬ ((g_210 hi x4) = 0) → ¬ ((g_207 x3 (0 : Int32) (9 : Int32)) = 0) → ¬ ((g_207 x5 (0 : Int32) (9 : Int32)) = 0) → ¬ ((g_207 x6 (-99 : Int32) (99 : Int32)) = 0) → (hi 279 86) = (30) → Q (some (.int (-1))) (mkH hi hl sw kp))
    (h8 : ¬ ((g_209 hi x1) = 0) → ¬ ((g_210 hi x2) = 0) → ¬ ((g_210 hi x4) = 0) → ¬ ((g_207 x3 (0 : Int32) (9 : Int32)) = 0) → ¬ ((g_207 x5 (0 : Int32) (9 : Int32)) = 0) → ¬ ((g_207 x6 (-99 : Int32) (99 : Int32)) = 0) → ¬ ((hi 279 86) = (30)) → vp_in (hi 279 86) 30)
    (h9 : ¬ ((g_209 hi x1) = 0) → ¬ ((g_210 hi x2) = 0) → ¬ ((g_210 hi x4) = 0) → ¬ ((g_207 x3 (0 : Int32) (9 : Int32)) = 0) → ¬ ((g_207 x5 (0 : Int32) (9 : Int32)) = 0) → ¬ ((g_207 x6 (-99 : Int32) (99 : Int32)) = 0) → ¬ ((hi 279 86) = (30)) → cW cd_265 (d + 2) Q 145 [some (.ref 279), some (.int x1), some (.int x2), some (.int x3), some (.int x4), some (.int x5), some (.int x6)] [] (mkH (u2 (u2 (u2 (u2 (u2 (u2 (u2 hi 312 (hi 279 86).toNatClampNeg x1) 313 (hi 279 86).toNatClampNeg x2) 314 (hi 279 86).toNatClampNeg x3) 315 (hi 279 86).toNatClampNeg x4) 316 (hi 279 86).toNatClampNeg x5) 317 (hi 279 86).toNatClampNeg x6) 318 (hi 279 86).toNatClampNeg (hi 279 87)) hl sw kp))
    : cW cd_265 (d + 2) Q 0 [some (.ref 279), some (.int x1), some (.int x2), some (.int x3), some (.int x4), some (.int x5), some (.int x6)] [] (mkH hi hl sw kp) :=
  cW.run (am_in [145]) 74 (cC.of (s_209 (And.intro (fun c1 => (cQ.of (h1 c1))) (fun c2 => (cC.of (s_210 (And.intro (fun c3 => (cQ.of (h2 c2 c3))) (fun c4 => (cC.of (s_210 (And.intro (fun c5 => (cQ.of (h3 c2 c4 c5))) (fun c6 => (cC.of (s_207 (And.intro (fun c7 => (cQ.of (h4 c2 c4 c6 c7))) (fun c8 => (cC.of (s_207 (And.intro (fun c9 => (cQ.of (h5 c2 c4 c6 c8 c9))) (fun c10 => (cC.of (s_207 (And.intro (fun c11 => (cQ.of (h6 c2 c4 c6 c8 c10 c11))) (fun c12 => (And.intro (fun c13 => (cQ.of (h7 c2 c4 c6 c8 c10 c12 c13))) (fun c14 => (And.intro (h8 c2 c4 c6 c8 c10 c12 c14) (And.intro (h8 c2 c4 c6 c8 c10 c12 c14) (And.intro (h8 c2 c4 c6 c8 c10 c12 c14) (And.intro (h8 c2 c4 c6 c8 c10 c12 c14) (And.intro (h8 c2 c4 c6 c8 c10 c12 c14) (And.intro (h8 c2 c4 c6 c8 c10 c12 c14) (And.intro (h8 c2 c4 c6 c8 c10 c12 c14) (h9 c2 c4 c6 c8 c10 c12 c14))))))))))))))))))))))))))))))))))
theorem e_265 {x1 : Int32} {x2 : Int32} {x3 : Int32} {x4 : Int32} {x5 : Int32} {x6 : Int32}
    (h1 : (g_209 hi x1) = 0 → Q (some (.int (-1))) (mkH hi hl sw kp))
    (h2 : ¬ ((g_209 hi x1) = 0) → (g_210 hi x2) = 0 → Q (some (.int (-1))) (mkH hi hl sw kp))
    (h3 : ¬ ((g_209 hi x1) = 0) → ¬ ((g_210 hi x2) = 0) → (g_210 hi x4) = 0 → Q (some (.int (-1))) (mkH hi hl sw kp))
    (h4 : ¬ ((g_209 hi x1) = 0) → ¬ ((g_210 hi x2) = 0) → ¬ ((g_210 hi x4) = 0) → (g_207 x3 (0 : Int32) (9 : Int32)) = 0 → Q (some (.int (-1))) (mkH hi hl sw kp))
    (h5 : ¬ ((g_209 hi x1) = 0) → ¬ ((g_210 hi x2) = 0) → ¬ ((g_210 hi x4) = 0) → ¬ ((g_207 x3 (0 : Int32) (9 : Int32)) = 0) → (g_207 x5 (0 : Int32) (9 : Int32)) = 0 → Q (some (.int (-1))) (mkH hi hl sw kp))
    (h6 : ¬ ((g_209 hi x1) = 0) → ¬ ((g_210 hi x2) = 0) → ¬ ((g_210 hi x4) = 0) → ¬ ((g_207 x3 (0 : Int32) (9 : Int32)) = 0) → ¬ ((g_207 x5 (0 : Int32) (9 : Int32)) = 0) → (g_207 x6 (-99 : Int32) (99 : Int32)) = 0 → Q (some (.int (-1))) (mkH hi hl sw kp))
    (h7 : ¬ ((g_209 hi x1) = 0) → ¬ ((g_210 hi x2) = 0) → ¬ ((g_210 hi x4) = 0) → ¬ ((g_207 x3 (0 : Int32) (9 : Int32)) = 0) → ¬ ((g_207 x5 (0 : Int32) (9 : Int32)) = 0) → ¬ ((g_207 x6 (-99 : Int32) (99 : Int32)) = 0) → (hi 279 86) = (30) → Q (some (.int (-1))) (mkH hi hl sw kp))
    (h8 : ¬ ((g_209 hi x1) = 0) → ¬ ((g_210 hi x2) = 0) → ¬ ((g_210 hi x4) = 0) → ¬ ((g_207 x3 (0 : Int32) (9 : Int32)) = 0) → ¬ ((g_207 x5 (0 : Int32) (9 : Int32)) = 0) → ¬ ((g_207 x6 (-99 : Int32) (99 : Int32)) = 0) → ¬ ((hi 279 86) = (30)) → vp_in (hi 279 86) 30)
    (h9 : ¬ ((g_209 hi x1) = 0) → ¬ ((g_210 hi x2) = 0) → ¬ ((g_210 hi x4) = 0) → ¬ ((g_207 x3 (0 : Int32) (9 : Int32)) = 0) → ¬ ((g_207 x5 (0 : Int32) (9 : Int32)) = 0) → ¬ ((g_207 x6 (-99 : Int32) (99 : Int32)) = 0) → ¬ ((hi 279 86) = (30)) → cW cd_265 (d + 2) Q 145 [some (.ref 279), some (.int x1), some (.int x2), some (.int x3), some (.int x4), some (.int x5), some (.int x6)] [] (mkH (u2 (u2 (u2 (u2 (u2 (u2 (u2 hi 312 (hi 279 86).toNatClampNeg x1) 313 (hi 279 86).toNatClampNeg x2) 314 (hi 279 86).toNatClampNeg x3) 315 (hi 279 86).toNatClampNeg x4) 316 (hi 279 86).toNatClampNeg x5) 317 (hi 279 86).toNatClampNeg x6) 318 (hi 279 86).toNatClampNeg (hi 279 87)) hl sw kp))
    : cS ((d + 2) + 1) 265 [(.ref 279), (.int x1), (.int x2), (.int x3), (.int x4), (.int x5), (.int x6)] (mkH hi hl sw kp) Q := cS.of rfl (k_265_0 h1 h2 h3 h4 h5 h6 h7 h8 h9)
set_option maxRecDepth 100000 in
theorem k_265_145 {x1 : Int32} {x2 : Int32} {x3 : Int32} {x4 : Int32} {x5 : Int32} {x6 : Int32}
    (h1 : vp_in (hi 279 86) 30)
    (h2 : Q (some (.int (((hi 279 86) + (1)) - (1)))) (mkH (u2 (u2 hi 319 (hi 279 86).toNatClampNeg (-1)) 279 86 ((hi 279 86) + (1))) hl sw kp))
    : cW cd_265 (d + 2) Q 145 [some (.ref 279), some (.int x1), some (.int x2), some (.int x3), some (.int x4), some (.int x5), some (.int x6)] [] (mkH hi hl sw kp) :=
  cW.run (am_in [145]) 17 (And.intro (h1) (And.intro rfl (cQ.of (h2))))
-- 270: DogDecreesModel.meant(II)I
set_option maxRecDepth 100000 in
theorem k_270_0 {x1 : Int32} {x2 : Int32}
    (h1 : (g_209 hi x1) = 0 → Q (some (.int (-1))) (mkH hi hl sw kp))
    (h2 : ¬ ((g_209 hi x1) = 0) → cS (d + 2) 269 [(.ref 279), (.int x1), (.int x2)] (mkH hi hl sw kp) (am_ret (cW cd_270 (d + 2) Q) 14 [some (.ref 279), some (.int x1), some (.int x2)] []))
    : cW cd_270 (d + 2) Q 0 [some (.ref 279), some (.int x1), some (.int x2)] [] (mkH hi hl sw kp) :=
  cW.run (am_in [14]) 8 (cC.of (s_209 (And.intro (fun c1 => (cQ.of (h1 c1))) (fun c2 => (cC.of (h2 c2))))))
theorem e_270 {x1 : Int32} {x2 : Int32}
    (h1 : (g_209 hi x1) = 0 → Q (some (.int (-1))) (mkH hi hl sw kp))
    (h2 : ¬ ((g_209 hi x1) = 0) → cS (d + 2) 269 [(.ref 279), (.int x1), (.int x2)] (mkH hi hl sw kp) (am_ret (cW cd_270 (d + 2) Q) 14 [some (.ref 279), some (.int x1), some (.int x2)] []))
    : cS ((d + 2) + 1) 270 [(.ref 279), (.int x1), (.int x2)] (mkH hi hl sw kp) Q := cS.of rfl (k_270_0 h1 h2)
set_option maxRecDepth 100000 in
theorem k_270_14 {x1 : Int32} {x2 : Int32} {s0 : Int32}
    (h1 : Q (some (.int s0)) (mkH hi hl sw kp))
    : cW cd_270 (d + 2) Q 14 [some (.ref 279), some (.int x1), some (.int x2)] [(.int s0)] (mkH hi hl sw kp) :=
  cW.run (am_in [14]) 2 (cQ.of (h1))
-- 271: DogDecreesModel.sure(III)I
set_option maxRecDepth 100000 in
theorem k_271_0 {x1 : Int32} {x2 : Int32} {x3 : Int32}
    (h1 : (g_209 hi x1) = 0 → Q (some (.int (-1000000))) (mkH hi hl sw kp))
    (h2 : ¬ ((g_209 hi x1) = 0) → (g_210 hi x2) = 0 → Q (some (.int (-1000000))) (mkH hi hl sw kp))
    (h3 : ¬ ((g_209 hi x1) = 0) → ¬ ((g_210 hi x2) = 0) → cS (d + 2) 269 [(.ref 279), (.int x1), (.int x3)] (mkH hi hl sw kp) (am_ret (cW cd_271 (d + 2) Q) 26 [some (.ref 279), some (.int x1), some (.int x2), some (.int x3), none, none] []))
    : cW cd_271 (d + 2) Q 0 [some (.ref 279), some (.int x1), some (.int x2), some (.int x3), none, none] [] (mkH hi hl sw kp) :=
  cW.run (am_in [26, 31]) 12 (cC.of (s_209 (And.intro (fun c1 => (cQ.of (h1 c1))) (fun c2 => (cC.of (s_210 (And.intro (fun c3 => (cQ.of (h2 c2 c3))) (fun c4 => (cC.of (h3 c2 c4))))))))))
theorem e_271 {x1 : Int32} {x2 : Int32} {x3 : Int32}
    (h1 : (g_209 hi x1) = 0 → Q (some (.int (-1000000))) (mkH hi hl sw kp))
    (h2 : ¬ ((g_209 hi x1) = 0) → (g_210 hi x2) = 0 → Q (some (.int (-1000000))) (mkH hi hl sw kp))
    (h3 : ¬ ((g_209 hi x1) = 0) → ¬ ((g_210 hi x2) = 0) → cS (d + 2) 269 [(.ref 279), (.int x1), (.int x3)] (mkH hi hl sw kp) (am_ret (cW cd_271 (d + 2) Q) 26 [some (.ref 279), some (.int x1), some (.int x2), some (.int x3), none, none] []))
    : cS ((d + 2) + 1) 271 [(.ref 279), (.int x1), (.int x2), (.int x3)] (mkH hi hl sw kp) Q := cS.of rfl (k_271_0 h1 h2 h3)
set_option maxRecDepth 100000 in
theorem k_271_26 {x1 : Int32} {x2 : Int32} {x3 : Int32} {s0 : Int32}
    (h1 : cW cd_271 (d + 2) Q 31 [some (.ref 279), some (.int x1), some (.int x2), some (.int x3), some (.int s0), some (.int (0))] [] (mkH hi hl sw kp))
    : cW cd_271 (d + 2) Q 26 [some (.ref 279), some (.int x1), some (.int x2), some (.int x3), none, none] [(.int s0)] (mkH hi hl sw kp) :=
  cW.run (am_in [26, 31]) 3 (And.intro (Nat.le_of_ble_eq_true rfl) (And.intro (Nat.le_of_ble_eq_true rfl) (h1)))
set_option maxRecDepth 100000 in
theorem k_271_31 {x1 : Int32} {x2 : Int32} {x3 : Int32} {x4 : Int32} {x5 : Int32}
    (h1 : (7) ≤ x5 → Q (some (.int (-1000000))) (mkH hi hl sw kp))
    (h2 : ¬ ((7) ≤ x5) → x4 ≤ 0 → cW cd_271 (d + 2) Q 31 [some (.ref 279), some (.int x1), some (.int x2), some (.int x3), some (.int x4), some (.int (x5 + (1)))] [] (mkH hi hl sw kp))
    (h3 : ¬ ((7) ≤ x5) → ¬ (x4 ≤ 0) → vp_in (((7) * x2) + x5) 28)
    (h4 : ¬ ((7) ≤ x5) → ¬ (x4 ≤ 0) → (hi 320 (((7) * x2) + x5).toNatClampNeg) = x4 → Q (some (.int (x5 - (3)))) (mkH hi hl sw kp))
    (h5 : ¬ ((7) ≤ x5) → ¬ (x4 ≤ 0) → ¬ ((hi 320 (((7) * x2) + x5).toNatClampNeg) = x4) → cW cd_271 (d + 2) Q 31 [some (.ref 279), some (.int x1), some (.int x2), some (.int x3), some (.int x4), some (.int (x5 + (1)))] [] (mkH hi hl sw kp))
    : cW cd_271 (d + 2) Q 31 [some (.ref 279), some (.int x1), some (.int x2), some (.int x3), some (.int x4), some (.int x5)] [] (mkH hi hl sw kp) :=
  cW.run (am_in [26, 31]) 19 (And.intro (fun c1 => (cQ.of (h1 c1))) (fun c2 => (And.intro (fun c3 => (And.intro (Nat.le_of_ble_eq_true rfl) (h2 c2 c3))) (fun c4 => (And.intro (h3 c2 c4) (And.intro (fun c5 => (cQ.of (h4 c2 c4 c5))) (fun c6 => (And.intro (Nat.le_of_ble_eq_true rfl) (h5 c2 c4 c6)))))))))
-- 273: DogDecreesModel.ask(III)I
set_option maxRecDepth 100000 in
theorem k_273_0 {x1 : Int32} {x2 : Int32} {x3 : Int32}
    (h1 : (g_209 hi x1) = 0 → Q (some (.int (-1))) (mkH hi hl sw kp))
    (h2 : ¬ ((g_209 hi x1) = 0) → (hi 279 45) = 0 → Q (some (.int (-1))) (mkH hi hl sw kp))
    (h3 : ¬ ((g_209 hi x1) = 0) → ¬ ((hi 279 45) = 0) → (g_207 x2 (0 : Int32) (1 : Int32)) = 0 → Q (some (.int (-1))) (mkH hi hl sw kp))
    (h4 : ¬ ((g_209 hi x1) = 0) → ¬ ((hi 279 45) = 0) → ¬ ((g_207 x2 (0 : Int32) (1 : Int32)) = 0) → cS (d + 2) 269 [(.ref 279), (.int x1), (.int x3)] (mkH hi hl sw kp) (am_ret (cW cd_273 (d + 2) Q) 32 [some (.ref 279), some (.int x1), some (.int x2), some (.int x3), none, none] []))
    : cW cd_273 (d + 2) Q 0 [some (.ref 279), some (.int x1), some (.int x2), some (.int x3), none, none] [] (mkH hi hl sw kp) :=
  cW.run (am_in [32, 43, 58, 64, 97]) 16 (cC.of (s_209 (And.intro (fun c1 => (cQ.of (h1 c1))) (fun c2 => (And.intro (fun c3 => (cQ.of (h2 c2 c3))) (fun c4 => (cC.of (s_207 (And.intro (fun c5 => (cQ.of (h3 c2 c4 c5))) (fun c6 => (cC.of (h4 c2 c4 c6))))))))))))
theorem e_273 {x1 : Int32} {x2 : Int32} {x3 : Int32}
    (h1 : (g_209 hi x1) = 0 → Q (some (.int (-1))) (mkH hi hl sw kp))
    (h2 : ¬ ((g_209 hi x1) = 0) → (hi 279 45) = 0 → Q (some (.int (-1))) (mkH hi hl sw kp))
    (h3 : ¬ ((g_209 hi x1) = 0) → ¬ ((hi 279 45) = 0) → (g_207 x2 (0 : Int32) (1 : Int32)) = 0 → Q (some (.int (-1))) (mkH hi hl sw kp))
    (h4 : ¬ ((g_209 hi x1) = 0) → ¬ ((hi 279 45) = 0) → ¬ ((g_207 x2 (0 : Int32) (1 : Int32)) = 0) → cS (d + 2) 269 [(.ref 279), (.int x1), (.int x3)] (mkH hi hl sw kp) (am_ret (cW cd_273 (d + 2) Q) 32 [some (.ref 279), some (.int x1), some (.int x2), some (.int x3), none, none] []))
    : cS ((d + 2) + 1) 273 [(.ref 279), (.int x1), (.int x2), (.int x3)] (mkH hi hl sw kp) Q := cS.of rfl (k_273_0 h1 h2 h3 h4)
set_option maxRecDepth 100000 in
theorem k_273_32 {x1 : Int32} {x2 : Int32} {x3 : Int32} {s0 : Int32}
    (h1 : s0 = 0 → Q (some (.int (-1))) (mkH hi hl sw kp))
    (h2 : ¬ (s0 = 0) → cW cd_273 (d + 2) Q 43 [some (.ref 279), some (.int x1), some (.int x2), some (.int x3), some (.int (0)), some (.int (1))] [] (mkH hi hl sw kp))
    : cW cd_273 (d + 2) Q 32 [some (.ref 279), some (.int x1), some (.int x2), some (.int x3), none, none] [(.int s0)] (mkH hi hl sw kp) :=
  cW.run (am_in [32, 43, 58, 64, 97]) 5 (And.intro (fun c1 => (cQ.of (h1 c1))) (fun c2 => (And.intro (Nat.le_of_ble_eq_true rfl) (And.intro (Nat.le_of_ble_eq_true rfl) (h2 c2)))))
set_option maxRecDepth 100000 in
theorem k_273_43 {x1 : Int32} {x2 : Int32} {x3 : Int32} {x4 : Int32} {x5 : Int32}
    (h1 : (hi 279 45) ≤ x5 → x2 = 0 → cW cd_273 (d + 2) Q 97 [some (.ref 279), some (.int x1), some (.int x2), some (.int x3), some (.int x4), some (.int x5)] [(.int x4)] (mkH hi hl sw kp))
    (h2 : (hi 279 45) ≤ x5 → ¬ (x2 = 0) → cS (d + 2) 272 [(.ref 279), (.int x4)] (mkH hi hl sw kp) (am_ret (cW cd_273 (d + 2) Q) 97 [some (.ref 279), some (.int x1), some (.int x2), some (.int x3), some (.int x4), some (.int x5)] []))
    (h3 : ¬ ((hi 279 45) ≤ x5) → cS (d + 2) 272 [(.ref 279), (.int x5)] (mkH hi hl sw kp) (am_ret (cW cd_273 (d + 2) Q) 58 [some (.ref 279), some (.int x1), some (.int x2), some (.int x3), some (.int x4), some (.int x5)] []))
    : cW cd_273 (d + 2) Q 43 [some (.ref 279), some (.int x1), some (.int x2), some (.int x3), some (.int x4), some (.int x5)] [] (mkH hi hl sw kp) :=
  cW.run (am_in [32, 43, 58, 64, 97]) 9 (And.intro (fun c1 => (And.intro (fun c2 => (h1 c1 c2)) (fun c3 => (cC.of (h2 c1 c3))))) (fun c4 => (cC.of (h3 c4))))
set_option maxRecDepth 100000 in
theorem k_273_58 {x1 : Int32} {x2 : Int32} {x3 : Int32} {x4 : Int32} {x5 : Int32} {s0 : Int32}
    (h1 : cS (d + 2) 272 [(.ref 279), (.int x4)] (mkH hi hl sw kp) (am_ret (cW cd_273 (d + 2) Q) 64 [some (.ref 279), some (.int x1), some (.int x2), some (.int x3), some (.int x4), some (.int x5)] [(.int s0)]))
    : cW cd_273 (d + 2) Q 58 [some (.ref 279), some (.int x1), some (.int x2), some (.int x3), some (.int x4), some (.int x5)] [(.int s0)] (mkH hi hl sw kp) :=
  cW.run (am_in [32, 43, 58, 64, 97]) 3 (cC.of (h1))
set_option maxRecDepth 100000 in
theorem k_273_64 {x1 : Int32} {x2 : Int32} {x3 : Int32} {x4 : Int32} {x5 : Int32} {s0 : Int32} {s1 : Int32}
    (h1 : s1 ≤ s0 → cW cd_273 (d + 2) Q 43 [some (.ref 279), some (.int x1), some (.int x2), some (.int x3), some (.int x4), some (.int (x5 + (1)))] [] (mkH hi hl sw kp))
    (h2 : ¬ (s1 ≤ s0) → cW cd_273 (d + 2) Q 43 [some (.ref 279), some (.int x1), some (.int x2), some (.int x3), some (.int x5), some (.int (x5 + (1)))] [] (mkH hi hl sw kp))
    : cW cd_273 (d + 2) Q 64 [some (.ref 279), some (.int x1), some (.int x2), some (.int x3), some (.int x4), some (.int x5)] [(.int s1), (.int s0)] (mkH hi hl sw kp) :=
  cW.run (am_in [32, 43, 58, 64, 97]) 6 (And.intro (fun c1 => (And.intro (Nat.le_of_ble_eq_true rfl) (And.intro (Nat.le_of_ble_eq_true rfl) (h1 c1)))) (fun c2 => (And.intro (Nat.le_of_ble_eq_true rfl) (And.intro (Nat.le_of_ble_eq_true rfl) (h2 c2)))))
set_option maxRecDepth 100000 in
theorem k_273_97 {x1 : Int32} {x2 : Int32} {x3 : Int32} {x4 : Int32} {x5 : Int32} {s0 : Int32}
    (h1 : Q (some (.int s0)) (mkH hi hl sw kp))
    : cW cd_273 (d + 2) Q 97 [some (.ref 279), some (.int x1), some (.int x2), some (.int x3), some (.int x4), some (.int x5)] [(.int s0)] (mkH hi hl sw kp) :=
  cW.run (am_in [32, 43, 58, 64, 97]) 1 (cQ.of (h1))
-- 17: DogDecrees$Laying.measure()J
set_option maxRecDepth 100000 in
theorem k_17_0
    (h1 : cS (d + 2) 40 [(.ref 256), (.int (g_84 hi)), (.int (0)), (.int (hi 264 8))] (mkH hi hl sw kp) (am_ret (cW cd_17 (d + 2) Q) 19 [some (.ref 264)] []))
    : cW cd_17 (d + 2) Q 0 [some (.ref 264)] [] (mkH hi hl sw kp) :=
  cW.run (am_in [19, 37]) 9 (cC.of (s_84 (cC.of (h1))))
theorem e_17
    (h1 : cS (d + 2) 40 [(.ref 256), (.int (g_84 hi)), (.int (0)), (.int (hi 264 8))] (mkH hi hl sw kp) (am_ret (cW cd_17 (d + 2) Q) 19 [some (.ref 264)] []))
    : cS ((d + 2) + 1) 17 [(.ref 264)] (mkH hi hl sw kp) Q := cS.of rfl (k_17_0 h1)
set_option maxRecDepth 100000 in
theorem k_17_19
    (h1 : cS (d + 2) 49 [(.ref 256), (.int (hi 28 0)), (.int (hi 264 7))] (mkH hi hl sw kp) (am_ret (cW cd_17 (d + 2) Q) 37 [some (.ref 264)] []))
    : cW cd_17 (d + 2) Q 19 [some (.ref 264)] [] (mkH hi hl sw kp) :=
  cW.run (am_in [19, 37]) 8 (cC.of (h1))
set_option maxRecDepth 100000 in
theorem k_17_37 {s0 : Int64}
    (h1 : Q (some (.long s0)) (mkH hi hl sw kp))
    : cW cd_17 (d + 2) Q 37 [some (.ref 264)] [(.long s0)] (mkH hi hl sw kp) :=
  cW.run (am_in [19, 37]) 1 (cQ.of (h1))
-- 59: DogDecrees$PullTelling.tellNot(I)Z
set_option maxRecDepth 100000 in
theorem k_59_0 {x1 : Int32}
    (h1 : x1 < (7) → cS d 67 [(.ref 3)] (mkH hi hl sw kp) (am_ret (cW cd_59 d Q) 22 [some (.ref 18), some (.int x1)] []))
    (h2 : ¬ (x1 < (7)) → cS d 72 [(.ref 3), (.int (2))] (mkH hi hl sw kp) (am_ret (cW cd_59 d Q) 14 [some (.ref 18), some (.int x1)] []))
    : cW cd_59 d Q 0 [some (.ref 18), some (.int x1)] [] (mkH hi hl sw kp) :=
  cW.run (am_in [14, 22, 29, 44]) 7 (And.intro (fun c1 => (cC.of (h1 c1))) (fun c2 => (cC.of (h2 c2))))
theorem e_59 {x1 : Int32}
    (h1 : x1 < (7) → cS d 67 [(.ref 3)] (mkH hi hl sw kp) (am_ret (cW cd_59 d Q) 22 [some (.ref 18), some (.int x1)] []))
    (h2 : ¬ (x1 < (7)) → cS d 72 [(.ref 3), (.int (2))] (mkH hi hl sw kp) (am_ret (cW cd_59 d Q) 14 [some (.ref 18), some (.int x1)] []))
    : cS (d + 1) 59 [(.ref 18), (.int x1)] (mkH hi hl sw kp) Q := cS.of rfl (k_59_0 h1 h2)
set_option maxRecDepth 100000 in
theorem k_59_14 {x1 : Int32} {s0 : Int32}
    (h1 : s0 = 0 ∨ s0 = 1)
    (h2 : Q (some (.int s0)) (mkH hi hl sw kp))
    : cW cd_59 d Q 14 [some (.ref 18), some (.int x1)] [(.int s0)] (mkH hi hl sw kp) :=
  cW.run (am_in [14, 22, 29, 44]) 1 (And.intro (h1) (cQ.of (h2)))
set_option maxRecDepth 100000 in
theorem k_59_22 {x1 : Int32}
    (h1 : cS d 58 [(.ref 18), (.int (x1 + (1)))] (mkH hi hl sw kp) (am_ret (cW cd_59 d Q) 29 [some (.ref 18), some (.int x1)] []))
    : cW cd_59 d Q 22 [some (.ref 18), some (.int x1)] [] (mkH hi hl sw kp) :=
  cW.run (am_in [14, 22, 29, 44]) 5 (cC.of (h1))
set_option maxRecDepth 100000 in
theorem k_59_29 {x1 : Int32} {s0 : Int32}
    (h1 : s0 = 0 → Q (some (.int (0))) (mkH hi hl sw kp))
    (h2 : ¬ (s0 = 0) → cS d 8 [(.ref 11), (.int (-217))] (mkH hi hl sw kp) (am_ret (cW cd_59 d Q) 44 [some (.ref 18), some (.int x1)] []))
    : cW cd_59 d Q 29 [some (.ref 18), some (.int x1)] [(.int s0)] (mkH hi hl sw kp) :=
  cW.run (am_in [14, 22, 29, 44]) 5 (And.intro (fun c1 => (And.intro (Or.inl rfl) (cQ.of (h1 c1)))) (fun c2 => (cC.of (h2 c2))))
set_option maxRecDepth 100000 in
theorem k_59_44 {x1 : Int32}
    (h1 : Q (some (.int (1))) (mkH hi hl sw kp))
    : cW cd_59 d Q 44 [some (.ref 18), some (.int x1)] [] (mkH hi hl sw kp) :=
  cW.run (am_in [14, 22, 29, 44]) 2 (And.intro (Or.inr rfl) (cQ.of (h1)))
end BLK
