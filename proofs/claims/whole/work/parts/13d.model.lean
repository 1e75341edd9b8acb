/-! ===== blocks of methods, by program ===== -/
section BLK
variable {d : Nat} {Q : am_Q} {hi : Nat → Nat → Int32} {hl : Nat → Nat → Int64} {sw : Bool} {kp : Nat → Nat}
-- 255: DogDecreesModel.least(II)I
set_option maxRecDepth 100000 in
theorem k_255_0 {x1 : Int32} {x2 : Int32}
    (h1 : cS d 209 [(.ref 279), (.int x1)] (mkH (u2 hi 279 75 (0)) hl sw kp) (am_ret (cW cd_255 d Q) 10 [some (.ref 279), some (.int x1), some (.int x2), none, none, none] []))
    : cW cd_255 d Q 0 [some (.ref 279), some (.int x1), some (.int x2), none, none, none] [] (mkH hi hl sw kp) :=
  cW.run (am_in [10, 20, 27, 39, 54, 64]) 6 (cC.of (h1))
theorem e_255 {x1 : Int32} {x2 : Int32}
    (h1 : cS d 209 [(.ref 279), (.int x1)] (mkH (u2 hi 279 75 (0)) hl sw kp) (am_ret (cW cd_255 d Q) 10 [some (.ref 279), some (.int x1), some (.int x2), none, none, none] []))
    : cS (d + 1) 255 [(.ref 279), (.int x1), (.int x2)] (mkH hi hl sw kp) Q := cS.of rfl (k_255_0 h1)
set_option maxRecDepth 100000 in
theorem k_255_10 {x1 : Int32} {x2 : Int32} {s0 : Int32}
    (h1 : s0 = 0 → Q (some (.int (-1))) (mkH hi hl sw kp))
    (h2 : ¬ (s0 = 0) → cS d 207 [(.int x2), (.int (1)), (.int (6))] (mkH hi hl sw kp) (am_ret (cW cd_255 d Q) 20 [some (.ref 279), some (.int x1), some (.int x2), none, none, none] []))
    : cW cd_255 d Q 10 [some (.ref 279), some (.int x1), some (.int x2), none, none, none] [(.int s0)] (mkH hi hl sw kp) :=
  cW.run (am_in [10, 20, 27, 39, 54, 64]) 5 (And.intro (fun c1 => (cQ.of (h1 c1))) (fun c2 => (cC.of (h2 c2))))
set_option maxRecDepth 100000 in
theorem k_255_20 {x1 : Int32} {x2 : Int32} {s0 : Int32}
    (h1 : s0 = 0 → Q (some (.int (-1))) (mkH hi hl sw kp))
    (h2 : ¬ (s0 = 0) → cW cd_255 d Q 27 [some (.ref 279), some (.int x1), some (.int x2), some (.int (0)), none, none] [] (mkH hi hl sw kp))
    : cW cd_255 d Q 20 [some (.ref 279), some (.int x1), some (.int x2), none, none, none] [(.int s0)] (mkH hi hl sw kp) :=
  cW.run (am_in [10, 20, 27, 39, 54, 64]) 3 (And.intro (fun c1 => (cQ.of (h1 c1))) (fun c2 => (And.intro (Nat.le_of_ble_eq_true rfl) (h2 c2))))
set_option maxRecDepth 100000 in
theorem k_255_27 {x1 : Int32} {x2 : Int32} {x3 : Int32} {o4 : Option Value}
    (h1 : (4) < x3 → Q (some (.int (-1))) (mkH hi hl sw kp))
    (h2 : ¬ ((4) < x3) → cS d 252 [(.ref 279), (.int x1), (.int x2), (.int x3)] (mkH hi hl sw kp) (am_ret (cW cd_255 d Q) 39 [some (.ref 279), some (.int x1), some (.int x2), some (.int x3), o4, none] []))
    : cW cd_255 d Q 27 [some (.ref 279), some (.int x1), some (.int x2), some (.int x3), o4, none] [] (mkH hi hl sw kp) :=
  cW.run (am_in [10, 20, 27, 39, 54, 64]) 8 (And.intro (fun c1 => (cQ.of (h1 c1))) (fun c2 => (cC.of (h2 c2))))
set_option maxRecDepth 100000 in
theorem k_255_39 {x1 : Int32} {x2 : Int32} {x3 : Int32} {o4 : Option Value} {s0 : Int64}
    (h1 : (lg_cmp s0 0) < 0 → cW cd_255 d Q 27 [some (.ref 279), some (.int x1), some (.int x2), some (.int (x3 + (1))), some (.long s0), none] [] (mkH hi hl sw kp))
    (h2 : ¬ ((lg_cmp s0 0) < 0) → cS d 247 [(.long s0), (.int x2)] (mkH hi hl sw kp) (am_ret (cW cd_255 d Q) 54 [some (.ref 279), some (.int x1), some (.int x2), some (.int x3), some (.long s0), none] []))
    : cW cd_255 d Q 39 [some (.ref 279), some (.int x1), some (.int x2), some (.int x3), o4, none] [(.long s0)] (mkH hi hl sw kp) :=
  cW.run (am_in [10, 20, 27, 39, 54, 64]) 8 (And.intro (Nat.le_of_ble_eq_true rfl) (And.intro (fun c1 => (And.intro (Nat.le_of_ble_eq_true rfl) (h1 c1))) (fun c2 => (cC.of (h2 c2)))))
set_option maxRecDepth 100000 in
theorem k_255_54 {x1 : Int32} {x2 : Int32} {x3 : Int32} {x4 : Int64} {s0 : Int32}
    (h1 : s0 = 0 → cW cd_255 d Q 27 [some (.ref 279), some (.int x1), some (.int x2), some (.int (x3 + (1))), some (.long x4), none] [] (mkH hi hl sw kp))
    (h2 : ¬ (s0 = 0) → cS d 253 [(.ref 279)] (mkH hi hl sw kp) (am_ret (cW cd_255 d Q) 64 [some (.ref 279), some (.int x1), some (.int x2), some (.int x3), some (.long x4), none] []))
    : cW cd_255 d Q 54 [some (.ref 279), some (.int x1), some (.int x2), some (.int x3), some (.long x4), none] [(.int s0)] (mkH hi hl sw kp) :=
  cW.run (am_in [10, 20, 27, 39, 54, 64]) 4 (And.intro (fun c1 => (And.intro (Nat.le_of_ble_eq_true rfl) (h1 c1))) (fun c2 => (cC.of (h2 c2))))
set_option maxRecDepth 100000 in
theorem k_255_64 {x1 : Int32} {x2 : Int32} {x3 : Int32} {x4 : Int64}
    (h1 : Q (some (.int x3)) (mkH hi hl sw kp))
    : cW cd_255 d Q 64 [some (.ref 279), some (.int x1), some (.int x2), some (.int x3), some (.long x4), none] [] (mkH hi hl sw kp) :=
  cW.run (am_in [10, 20, 27, 39, 54, 64]) 2 (cQ.of (h1))
-- 256: DogDecreesModel.leastBehind(III)J
set_option maxRecDepth 100000 in
theorem k_256_0 {x1 : Int32} {x2 : Int32} {x3 : Int32}
    (h1 : cW cd_256 d Q 13 [some (.ref 279), some (.int x1), some (.int x2), some (.int x3), some (.long (-1)), none, some (.int (0)), none, none] [] (mkH (u2 hi 279 76 (-1)) hl sw kp))
    : cW cd_256 d Q 0 [some (.ref 279), some (.int x1), some (.int x2), some (.int x3), none, none, none, none, none] [] (mkH hi hl sw kp) :=
  cW.run (am_in [13, 25, 52, 67, 79, 89, 94, 101, 117]) 7 (And.intro (Nat.le_of_ble_eq_true rfl) (And.intro (Nat.le_of_ble_eq_true rfl) (h1)))
theorem e_256 {x1 : Int32} {x2 : Int32} {x3 : Int32}
    (h1 : cW cd_256 d Q 13 [some (.ref 279), some (.int x1), some (.int x2), some (.int x3), some (.long (-1)), none, some (.int (0)), none, none] [] (mkH (u2 hi 279 76 (-1)) hl sw kp))
    : cS (d + 1) 256 [(.ref 279), (.int x1), (.int x2), (.int x3)] (mkH hi hl sw kp) Q := cS.of rfl (k_256_0 h1)
set_option maxRecDepth 100000 in
theorem k_256_13 {x1 : Int32} {x2 : Int32} {x3 : Int32} {x4 : Int64} {x6 : Int32} {o7 : Option Value}
    (h1 : (hi 279 46) ≤ x6 → Q (some (.long x4)) (mkH hi hl sw kp))
    (h2 : ¬ ((hi 279 46) ≤ x6) → cW cd_256 d Q 25 [some (.ref 279), some (.int x1), some (.int x2), some (.int x3), some (.long x4), none, some (.int x6), some (.int (0)), none] [] (mkH hi hl sw kp))
    : cW cd_256 d Q 13 [some (.ref 279), some (.int x1), some (.int x2), some (.int x3), some (.long x4), none, some (.int x6), o7, none] [] (mkH hi hl sw kp) :=
  cW.run (am_in [13, 25, 52, 67, 79, 89, 94, 101, 117]) 6 (And.intro (fun c1 => (cQ.of (h1 c1))) (fun c2 => (And.intro (Nat.le_of_ble_eq_true rfl) (h2 c2))))
set_option maxRecDepth 100000 in
theorem k_256_25 {x1 : Int32} {x2 : Int32} {x3 : Int32} {x4 : Int64} {x6 : Int32} {x7 : Int32}
    (h1 : (8) ≤ x7 → cS d 250 [(.ref 279)] (mkH hi hl sw kp) (am_ret (cW cd_256 d Q) 79 [some (.ref 279), some (.int x1), some (.int x2), some (.int x3), some (.long x4), none, some (.int x6), some (.int x7), none] []))
    (h2 : ¬ ((8) ≤ x7) → x7 = x3 → cS d 194 [(.int (1))] (mkH hi hl sw kp) (am_ret (cW cd_256 d Q) 52 [some (.ref 279), some (.int x1), some (.int x2), some (.int x3), some (.long x4), none, some (.int x6), some (.int x7), none] [(.int x7), (.ref 308)]))
    (h3 : ¬ ((8) ≤ x7) → ¬ (x7 = x3) → cS d 194 [(.int (0))] (mkH hi hl sw kp) (am_ret (cW cd_256 d Q) 52 [some (.ref 279), some (.int x1), some (.int x2), some (.int x3), some (.long x4), none, some (.int x6), some (.int x7), none] [(.int x7), (.ref 308)]))
    : cW cd_256 d Q 25 [some (.ref 279), some (.int x1), some (.int x2), some (.int x3), some (.long x4), none, some (.int x6), some (.int x7), none] [] (mkH hi hl sw kp) :=
  cW.run (am_in [13, 25, 52, 67, 79, 89, 94, 101, 117]) 12 (And.intro (fun c1 => (cC.of (h1 c1))) (fun c2 => (And.intro (fun c3 => (cC.of (h2 c2 c3))) (fun c4 => (cC.of (h3 c2 c4))))))
set_option maxRecDepth 100000 in
theorem k_256_52 {x1 : Int32} {x2 : Int32} {x3 : Int32} {x4 : Int64} {x6 : Int32} {x7 : Int32} {s1 : Int32} {s2 : Int32}
    (h1 : x7 = x6 → cS d 194 [(.int (1))] (mkH hi hl sw kp) (am_ret (cW cd_256 d Q) 67 [some (.ref 279), some (.int x1), some (.int x2), some (.int x3), some (.long x4), none, some (.int x6), some (.int x7), none] [(.int s2), (.int s1), (.ref 308)]))
    (h2 : ¬ (x7 = x6) → cS d 194 [(.int (0))] (mkH hi hl sw kp) (am_ret (cW cd_256 d Q) 67 [some (.ref 279), some (.int x1), some (.int x2), some (.int x3), some (.long x4), none, some (.int x6), some (.int x7), none] [(.int s2), (.int s1), (.ref 308)]))
    : cW cd_256 d Q 52 [some (.ref 279), some (.int x1), some (.int x2), some (.int x3), some (.long x4), none, some (.int x6), some (.int x7), none] [(.int s2), (.int s1), (.ref 308)] (mkH hi hl sw kp) :=
  cW.run (am_in [13, 25, 52, 67, 79, 89, 94, 101, 117]) 6 (And.intro (fun c1 => (cC.of (h1 c1))) (fun c2 => (cC.of (h2 c2))))
set_option maxRecDepth 100000 in
theorem k_256_67 {x1 : Int32} {x2 : Int32} {x3 : Int32} {x4 : Int64} {x6 : Int32} {x7 : Int32} {s1 : Int32} {s2 : Int32} {s3 : Int32}
    (h1 : vp_in s1 8)
    (h2 : cW cd_256 d Q 25 [some (.ref 279), some (.int x1), some (.int x2), some (.int x3), some (.long x4), none, some (.int x6), some (.int (x7 + (1))), none] [] (mkH (u2 hi 308 s1.toNatClampNeg (s2 + s3)) hl sw kp))
    : cW cd_256 d Q 67 [some (.ref 279), some (.int x1), some (.int x2), some (.int x3), some (.long x4), none, some (.int x6), some (.int x7), none] [(.int s3), (.int s2), (.int s1), (.ref 308)] (mkH hi hl sw kp) :=
  cW.run (am_in [13, 25, 52, 67, 79, 89, 94, 101, 117]) 4 (And.intro (h1) (And.intro (Nat.le_of_ble_eq_true rfl) (h2)))
set_option maxRecDepth 100000 in
theorem k_256_79 {x1 : Int32} {x2 : Int32} {x3 : Int32} {x4 : Int64} {x6 : Int32} {x7 : Int32} {s0 : Int32}
    (h1 : s0 = 0 → cW cd_256 d Q 13 [some (.ref 279), some (.int x1), some (.int x2), some (.int x3), some (.long x4), none, some (.int (x6 + (1))), some (.int x7), none] [] (mkH hi hl sw kp))
    (h2 : ¬ (s0 = 0) → cS d 249 [(.ref 279)] (mkH hi hl sw kp) (am_ret (cW cd_256 d Q) 89 [some (.ref 279), some (.int x1), some (.int x2), some (.int x3), some (.long x4), none, some (.int x6), some (.int x7), none] []))
    : cW cd_256 d Q 79 [some (.ref 279), some (.int x1), some (.int x2), some (.int x3), some (.long x4), none, some (.int x6), some (.int x7), none] [(.int s0)] (mkH hi hl sw kp) :=
  cW.run (am_in [13, 25, 52, 67, 79, 89, 94, 101, 117]) 4 (And.intro (fun c1 => (And.intro (Nat.le_of_ble_eq_true rfl) (h1 c1))) (fun c2 => (cC.of (h2 c2))))
set_option maxRecDepth 100000 in
theorem k_256_89 {x1 : Int32} {x2 : Int32} {x3 : Int32} {x4 : Int64} {x6 : Int32} {x7 : Int32}
    (h1 : cS d 244 [(.ref 279), (.int x1)] (mkH hi hl sw kp) (am_ret (cW cd_256 d Q) 94 [some (.ref 279), some (.int x1), some (.int x2), some (.int x3), some (.long x4), none, some (.int x6), some (.int x7), none] []))
    : cW cd_256 d Q 89 [some (.ref 279), some (.int x1), some (.int x2), some (.int x3), some (.long x4), none, some (.int x6), some (.int x7), none] [] (mkH hi hl sw kp) :=
  cW.run (am_in [13, 25, 52, 67, 79, 89, 94, 101, 117]) 3 (cC.of (h1))
set_option maxRecDepth 100000 in
theorem k_256_94 {x1 : Int32} {x2 : Int32} {x3 : Int32} {x4 : Int64} {x6 : Int32} {x7 : Int32} {s0 : Int32}
    (h1 : s0 = 0 → cS d 243 [(.ref 279), (.int x1), (.int x2), (.int (hi 299 16))] (mkH hi hl sw kp) (am_ret (cW cd_256 d Q) 117 [some (.ref 279), some (.int x1), some (.int x2), some (.int x3), some (.long x4), none, some (.int x6), some (.int x7), none] []))
    (h2 : ¬ (s0 = 0) → cS d 234 [(.int x2)] (mkH hi hl sw kp) (am_ret (cW cd_256 d Q) 101 [some (.ref 279), some (.int x1), some (.int x2), some (.int x3), some (.long x4), none, some (.int x6), some (.int x7), none] []))
    : cW cd_256 d Q 94 [some (.ref 279), some (.int x1), some (.int x2), some (.int x3), some (.long x4), none, some (.int x6), some (.int x7), none] [(.int s0)] (mkH hi hl sw kp) :=
  cW.run (am_in [13, 25, 52, 67, 79, 89, 94, 101, 117]) 9 (And.intro (fun c1 => (And.intro (show vp_in 16 82 from vin_l (by decide +kernel)) (cC.of (h1 c1)))) (fun c2 => (cC.of (h2 c2))))
set_option maxRecDepth 100000 in
theorem k_256_101 {x1 : Int32} {x2 : Int32} {x3 : Int32} {x4 : Int64} {x6 : Int32} {x7 : Int32} {s0 : Int64}
    (h1 : cW cd_256 d Q 117 [some (.ref 279), some (.int x1), some (.int x2), some (.int x3), some (.long x4), none, some (.int x6), some (.int x7), none] [(.long s0)] (mkH hi hl sw kp))
    : cW cd_256 d Q 101 [some (.ref 279), some (.int x1), some (.int x2), some (.int x3), some (.long x4), none, some (.int x6), some (.int x7), none] [(.long s0)] (mkH hi hl sw kp) :=
  cW.run (am_in [13, 25, 52, 67, 79, 89, 94, 101, 117]) 1 (h1)
set_option maxRecDepth 100000 in
theorem k_256_117 {x1 : Int32} {x2 : Int32} {x3 : Int32} {x4 : Int64} {x6 : Int32} {x7 : Int32} {s0 : Int64}
    (h1 : (lg_cmp x4 0) < 0 → cW cd_256 d Q 13 [some (.ref 279), some (.int x1), some (.int x2), some (.int x3), some (.long s0), none, some (.int (x6 + (1))), some (.long s0), none] [] (mkH (u2 hi 279 76 x6) hl sw kp))
    (h2 : ¬ ((lg_cmp x4 0) < 0) → (lg_cmp s0 x4) < 0 → cW cd_256 d Q 13 [some (.ref 279), some (.int x1), some (.int x2), some (.int x3), some (.long s0), none, some (.int (x6 + (1))), some (.long s0), none] [] (mkH (u2 hi 279 76 x6) hl sw kp))
    (h3 : ¬ ((lg_cmp x4 0) < 0) → ¬ ((lg_cmp s0 x4) < 0) → cW cd_256 d Q 13 [some (.ref 279), some (.int x1), some (.int x2), some (.int x3), some (.long x4), none, some (.int (x6 + (1))), some (.long s0), none] [] (mkH hi hl sw kp))
    : cW cd_256 d Q 117 [some (.ref 279), some (.int x1), some (.int x2), some (.int x3), some (.long x4), none, some (.int x6), some (.int x7), none] [(.long s0)] (mkH hi hl sw kp) :=
  cW.run (am_in [13, 25, 52, 67, 79, 89, 94, 101, 117]) 16 (And.intro (Nat.le_of_ble_eq_true rfl) (And.intro (fun c1 => (And.intro (Nat.le_of_ble_eq_true rfl) (And.intro (Nat.le_of_ble_eq_true rfl) (h1 c1)))) (fun c2 => (And.intro (fun c3 => (And.intro (Nat.le_of_ble_eq_true rfl) (And.intro (Nat.le_of_ble_eq_true rfl) (h2 c2 c3)))) (fun c4 => (And.intro (Nat.le_of_ble_eq_true rfl) (h3 c2 c4)))))))
-- 257: DogDecreesModel.byTurns(III)I
set_option maxRecDepth 100000 in
theorem k_257_0 {x1 : Int32} {x2 : Int32} {x3 : Int32}
    (h1 : cS d 209 [(.ref 279), (.int x1)] (mkH hi hl sw kp) (am_ret (cW cd_257 d Q) 5 [some (.ref 279), some (.int x1), some (.int x2), some (.int x3), none, none, none, none, none, none, none] []))
    : cW cd_257 d Q 0 [some (.ref 279), some (.int x1), some (.int x2), some (.int x3), none, none, none, none, none, none, none] [] (mkH hi hl sw kp) :=
  cW.run (am_in [5, 15, 24, 43, 74]) 3 (cC.of (h1))
theorem e_257 {x1 : Int32} {x2 : Int32} {x3 : Int32}
    (h1 : cS d 209 [(.ref 279), (.int x1)] (mkH hi hl sw kp) (am_ret (cW cd_257 d Q) 5 [some (.ref 279), some (.int x1), some (.int x2), some (.int x3), none, none, none, none, none, none, none] []))
    : cS (d + 1) 257 [(.ref 279), (.int x1), (.int x2), (.int x3)] (mkH hi hl sw kp) Q := cS.of rfl (k_257_0 h1)
set_option maxRecDepth 100000 in
theorem k_257_5 {x1 : Int32} {x2 : Int32} {x3 : Int32} {s0 : Int32}
    (h1 : s0 = 0 → Q (some (.int (-1))) (mkH hi hl sw kp))
    (h2 : ¬ (s0 = 0) → cS d 207 [(.int x2), (.int (1)), (.int (6))] (mkH hi hl sw kp) (am_ret (cW cd_257 d Q) 15 [some (.ref 279), some (.int x1), some (.int x2), some (.int x3), none, none, none, none, none, none, none] []))
    : cW cd_257 d Q 5 [some (.ref 279), some (.int x1), some (.int x2), some (.int x3), none, none, none, none, none, none, none] [(.int s0)] (mkH hi hl sw kp) :=
  cW.run (am_in [5, 15, 24, 43, 74]) 5 (And.intro (fun c1 => (cQ.of (h1 c1))) (fun c2 => (cC.of (h2 c2))))
set_option maxRecDepth 100000 in
theorem k_257_15 {x1 : Int32} {x2 : Int32} {x3 : Int32} {s0 : Int32}
    (h1 : s0 = 0 → Q (some (.int (-1))) (mkH hi hl sw kp))
    (h2 : ¬ (s0 = 0) → cS d 207 [(.int x3), (.int (0)), (.int (1))] (mkH hi hl sw kp) (am_ret (cW cd_257 d Q) 24 [some (.ref 279), some (.int x1), some (.int x2), some (.int x3), none, none, none, none, none, none, none] []))
    : cW cd_257 d Q 15 [some (.ref 279), some (.int x1), some (.int x2), some (.int x3), none, none, none, none, none, none, none] [(.int s0)] (mkH hi hl sw kp) :=
  cW.run (am_in [5, 15, 24, 43, 74]) 5 (And.intro (fun c1 => (cQ.of (h1 c1))) (fun c2 => (cC.of (h2 c2))))
set_option maxRecDepth 100000 in
theorem k_257_24 {x1 : Int32} {x2 : Int32} {x3 : Int32} {s0 : Int32}
    (h1 : s0 = 0 → Q (some (.int (-1))) (mkH hi hl sw kp))
    (h2 : ¬ (s0 = 0) → cW cd_257 d Q 43 [some (.ref 279), some (.int x1), some (.int x2), some (.int x3), some (.int (-1)), some (.int (-1)), some (.long (-1)), none, some (.int (0)), none, none] [] (mkH hi hl sw kp))
    : cW cd_257 d Q 24 [some (.ref 279), some (.int x1), some (.int x2), some (.int x3), none, none, none, none, none, none, none] [(.int s0)] (mkH hi hl sw kp) :=
  cW.run (am_in [5, 15, 24, 43, 74]) 9 (And.intro (fun c1 => (cQ.of (h1 c1))) (fun c2 => (And.intro (Nat.le_of_ble_eq_true rfl) (And.intro (Nat.le_of_ble_eq_true rfl) (And.intro (Nat.le_of_ble_eq_true rfl) (And.intro (Nat.le_of_ble_eq_true rfl) (h2 c2)))))))
set_option maxRecDepth 100000 in
theorem k_257_43 {x1 : Int32} {x2 : Int32} {x3 : Int32} {x4 : Int32} {x5 : Int32} {x6 : Int64} {x8 : Int32} {o9 : Option Value}
    (h1 : (hi 279 46) ≤ x8 → x3 = 0 → Q (some (.int x4)) (mkH hi hl sw kp))
    (h2 : (hi 279 46) ≤ x8 → ¬ (x3 = 0) → Q (some (.int x5)) (mkH hi hl sw kp))
    (h3 : ¬ ((hi 279 46) ≤ x8) → vp_in ((0) + x8) 82)
    (h4 : ¬ ((hi 279 46) ≤ x8) → (9) ≤ (hi 299 ((0) + x8).toNatClampNeg) → 0 < (lg_cmp (-1) x6) → cW cd_257 d Q 43 [some (.ref 279), some (.int x1), some (.int x2), some (.int x3), some (.int x8), some (.int (hi 279 76)), some (.long (-1)), none, some (.int (x8 + (1))), some (.long (-1)), none] [] (mkH hi hl sw kp))
    (h5 : ¬ ((hi 279 46) ≤ x8) → (9) ≤ (hi 299 ((0) + x8).toNatClampNeg) → ¬ (0 < (lg_cmp (-1) x6)) → cW cd_257 d Q 43 [some (.ref 279), some (.int x1), some (.int x2), some (.int x3), some (.int x4), some (.int x5), some (.long x6), none, some (.int (x8 + (1))), some (.long (-1)), none] [] (mkH hi hl sw kp))
    (h6 : ¬ ((hi 279 46) ≤ x8) → ¬ ((9) ≤ (hi 299 ((0) + x8).toNatClampNeg)) → cS d 256 [(.ref 279), (.int x1), (.int x2), (.int x8)] (mkH hi hl sw kp) (am_ret (cW cd_257 d Q) 74 [some (.ref 279), some (.int x1), some (.int x2), some (.int x3), some (.int x4), some (.int x5), some (.long x6), none, some (.int x8), o9, none] []))
    : cW cd_257 d Q 43 [some (.ref 279), some (.int x1), some (.int x2), some (.int x3), some (.int x4), some (.int x5), some (.long x6), none, some (.int x8), o9, none] [] (mkH hi hl sw kp) :=
  cW.run (am_in [5, 15, 24, 43, 74]) 27 (And.intro (fun c1 => (And.intro (fun c2 => (cQ.of (h1 c1 c2))) (fun c3 => (cQ.of (h2 c1 c3))))) (fun c4 => (And.intro (h3 c4) (And.intro (fun c5 => (And.intro (Nat.le_of_ble_eq_true rfl) (And.intro (fun c6 => (And.intro (Nat.le_of_ble_eq_true rfl) (And.intro (Nat.le_of_ble_eq_true rfl) (And.intro (Nat.le_of_ble_eq_true rfl) (And.intro (Nat.le_of_ble_eq_true rfl) (h4 c4 c5 c6)))))) (fun c7 => (And.intro (Nat.le_of_ble_eq_true rfl) (h5 c4 c5 c7)))))) (fun c8 => (cC.of (h6 c4 c8)))))))
set_option maxRecDepth 100000 in
theorem k_257_74 {x1 : Int32} {x2 : Int32} {x3 : Int32} {x4 : Int32} {x5 : Int32} {x6 : Int64} {x8 : Int32} {o9 : Option Value} {s0 : Int64}
    (h1 : 0 < (lg_cmp s0 x6) → cW cd_257 d Q 43 [some (.ref 279), some (.int x1), some (.int x2), some (.int x3), some (.int x8), some (.int (hi 279 76)), some (.long s0), none, some (.int (x8 + (1))), some (.long s0), none] [] (mkH hi hl sw kp))
    (h2 : ¬ (0 < (lg_cmp s0 x6)) → cW cd_257 d Q 43 [some (.ref 279), some (.int x1), some (.int x2), some (.int x3), some (.int x4), some (.int x5), some (.long x6), none, some (.int (x8 + (1))), some (.long s0), none] [] (mkH hi hl sw kp))
    : cW cd_257 d Q 74 [some (.ref 279), some (.int x1), some (.int x2), some (.int x3), some (.int x4), some (.int x5), some (.long x6), none, some (.int x8), o9, none] [(.long s0)] (mkH hi hl sw kp) :=
  cW.run (am_in [5, 15, 24, 43, 74]) 15 (And.intro (Nat.le_of_ble_eq_true rfl) (And.intro (fun c1 => (And.intro (Nat.le_of_ble_eq_true rfl) (And.intro (Nat.le_of_ble_eq_true rfl) (And.intro (Nat.le_of_ble_eq_true rfl) (And.intro (Nat.le_of_ble_eq_true rfl) (h1 c1)))))) (fun c2 => (And.intro (Nat.le_of_ble_eq_true rfl) (h2 c2)))))
-- 258: DogDecreesModel.council(II)I
set_option maxRecDepth 100000 in
theorem k_258_0 {x1 : Int32} {x2 : Int32}
    (h1 : cS d 209 [(.ref 279), (.int x1)] (mkH hi hl sw kp) (am_ret (cW cd_258 d Q) 5 [some (.ref 279), some (.int x1), some (.int x2), none, none] []))
    : cW cd_258 d Q 0 [some (.ref 279), some (.int x1), some (.int x2), none, none] [] (mkH hi hl sw kp) :=
  cW.run (am_in [5, 15, 25, 43, 47, 50]) 3 (cC.of (h1))
theorem e_258 {x1 : Int32} {x2 : Int32}
    (h1 : cS d 209 [(.ref 279), (.int x1)] (mkH hi hl sw kp) (am_ret (cW cd_258 d Q) 5 [some (.ref 279), some (.int x1), some (.int x2), none, none] []))
    : cS (d + 1) 258 [(.ref 279), (.int x1), (.int x2)] (mkH hi hl sw kp) Q := cS.of rfl (k_258_0 h1)
set_option maxRecDepth 100000 in
theorem k_258_5 {x1 : Int32} {x2 : Int32} {s0 : Int32}
    (h1 : s0 = 0 → Q (some (.int (-1))) (mkH hi hl sw kp))
    (h2 : ¬ (s0 = 0) → cS d 207 [(.int x2), (.int (0)), (.int (8))] (mkH hi hl sw kp) (am_ret (cW cd_258 d Q) 15 [some (.ref 279), some (.int x1), some (.int x2), none, none] []))
    : cW cd_258 d Q 5 [some (.ref 279), some (.int x1), some (.int x2), none, none] [(.int s0)] (mkH hi hl sw kp) :=
  cW.run (am_in [5, 15, 25, 43, 47, 50]) 5 (And.intro (fun c1 => (cQ.of (h1 c1))) (fun c2 => (cC.of (h2 c2))))
set_option maxRecDepth 100000 in
theorem k_258_15 {x1 : Int32} {x2 : Int32} {s0 : Int32}
    (h1 : s0 = 0 → Q (some (.int (-1))) (mkH hi hl sw kp))
    (h2 : ¬ (s0 = 0) → cW cd_258 d Q 25 [some (.ref 279), some (.int x1), some (.int x2), some (.int (0)), some (.int (0))] [] (mkH hi hl sw kp))
    : cW cd_258 d Q 15 [some (.ref 279), some (.int x1), some (.int x2), none, none] [(.int s0)] (mkH hi hl sw kp) :=
  cW.run (am_in [5, 15, 25, 43, 47, 50]) 5 (And.intro (fun c1 => (cQ.of (h1 c1))) (fun c2 => (And.intro (Nat.le_of_ble_eq_true rfl) (And.intro (Nat.le_of_ble_eq_true rfl) (h2 c2)))))
set_option maxRecDepth 100000 in
theorem k_258_25 {x1 : Int32} {x2 : Int32} {x3 : Int32} {x4 : Int32}
    (h1 : (hi 279 46) ≤ x4 → Q (some (.int x3)) (mkH hi hl sw kp))
    (h2 : ¬ ((hi 279 46) ≤ x4) → cS d 245 [(.ref 279), (.int x1), (.int x2), (.int x4)] (mkH hi hl sw kp) (am_ret (cW cd_258 d Q) 43 [some (.ref 279), some (.int x1), some (.int x2), some (.int x3), some (.int x4)] [(.int x3)]))
    : cW cd_258 d Q 25 [some (.ref 279), some (.int x1), some (.int x2), some (.int x3), some (.int x4)] [] (mkH hi hl sw kp) :=
  cW.run (am_in [5, 15, 25, 43, 47, 50]) 10 (And.intro (fun c1 => (cQ.of (h1 c1))) (fun c2 => (cC.of (h2 c2))))
set_option maxRecDepth 100000 in
theorem k_258_43 {x1 : Int32} {x2 : Int32} {x3 : Int32} {x4 : Int32} {s0 : Int32} {s1 : Int64}
    (h1 : cS d 247 [(.long s1), (.int x2)] (mkH hi hl sw kp) (am_ret (cW cd_258 d Q) 47 [some (.ref 279), some (.int x1), some (.int x2), some (.int x3), some (.int x4)] [(.int s0)]))
    : cW cd_258 d Q 43 [some (.ref 279), some (.int x1), some (.int x2), some (.int x3), some (.int x4)] [(.long s1), (.int s0)] (mkH hi hl sw kp) :=
  cW.run (am_in [5, 15, 25, 43, 47, 50]) 2 (cC.of (h1))
set_option maxRecDepth 100000 in
theorem k_258_47 {x1 : Int32} {x2 : Int32} {x3 : Int32} {x4 : Int32} {s0 : Int32} {s1 : Int32}
    (h1 : cS d 194 [(.int s1)] (mkH hi hl sw kp) (am_ret (cW cd_258 d Q) 50 [some (.ref 279), some (.int x1), some (.int x2), some (.int x3), some (.int x4)] [(.int s0)]))
    : cW cd_258 d Q 47 [some (.ref 279), some (.int x1), some (.int x2), some (.int x3), some (.int x4)] [(.int s1), (.int s0)] (mkH hi hl sw kp) :=
  cW.run (am_in [5, 15, 25, 43, 47, 50]) 1 (cC.of (h1))
set_option maxRecDepth 100000 in
theorem k_258_50 {x1 : Int32} {x2 : Int32} {x3 : Int32} {x4 : Int32} {s0 : Int32} {s1 : Int32}
    (h1 : cW cd_258 d Q 25 [some (.ref 279), some (.int x1), some (.int x2), some (.int (s0 ||| (s1 <<< (x4 &&& 31)))), some (.int (x4 + (1)))] [] (mkH hi hl sw kp))
    : cW cd_258 d Q 50 [some (.ref 279), some (.int x1), some (.int x2), some (.int x3), some (.int x4)] [(.int s1), (.int s0)] (mkH hi hl sw kp) :=
  cW.run (am_in [5, 15, 25, 43, 47, 50]) 6 (And.intro (Nat.le_of_ble_eq_true rfl) (And.intro (Nat.le_of_ble_eq_true rfl) (h1)))
-- 259: DogDecreesModel.haunt()I
set_option maxRecDepth 100000 in
theorem k_259_0
    (h1 : (hi 279 46) = 0 → Q (some (.int (-1))) (mkH hi hl sw kp))
    (h2 : ¬ ((hi 279 46) = 0) → cW cd_259 d Q 11 [some (.ref 279), some (.int (0)), none] [] (mkH hi hl sw kp))
    : cW cd_259 d Q 0 [some (.ref 279), none, none] [] (mkH hi hl sw kp) :=
  cW.run (am_in [11, 35, 37, 47, 49, 77, 96]) 5 (And.intro (fun c1 => (cQ.of (h1 c1))) (fun c2 => (And.intro (Nat.le_of_ble_eq_true rfl) (h2 c2))))
theorem e_259
    (h1 : (hi 279 46) = 0 → Q (some (.int (-1))) (mkH hi hl sw kp))
    (h2 : ¬ ((hi 279 46) = 0) → cW cd_259 d Q 11 [some (.ref 279), some (.int (0)), none] [] (mkH hi hl sw kp))
    : cS (d + 1) 259 [(.ref 279)] (mkH hi hl sw kp) Q := cS.of rfl (k_259_0 h1 h2)
set_option maxRecDepth 100000 in
theorem k_259_11 {x1 : Int32}
    (h1 : (8) ≤ x1 → cS d 233 [(.ref 279), (.int (0))] (mkH hi hl sw kp) (am_ret (cW cd_259 d Q) 35 [some (.ref 279), some (.int x1), none] []))
    (h2 : ¬ ((8) ≤ x1) → vp_in x1 8)
    (h3 : ¬ ((8) ≤ x1) → cW cd_259 d Q 11 [some (.ref 279), some (.int (x1 + (1))), none] [] (mkH hi (u2 hl 311 x1.toNatClampNeg 0) sw kp))
    : cW cd_259 d Q 11 [some (.ref 279), some (.int x1), none] [] (mkH hi hl sw kp) :=
  cW.run (am_in [11, 35, 37, 47, 49, 77, 96]) 10 (And.intro (fun c1 => (cC.of (h1 c1))) (fun c2 => (And.intro (h2 c2) (And.intro (Nat.le_of_ble_eq_true rfl) (h3 c2)))))
set_option maxRecDepth 100000 in
theorem k_259_35 {x1 : Int32}
    (h1 : cW cd_259 d Q 37 [some (.ref 279), some (.int (1)), none] [] (mkH hi hl sw kp))
    : cW cd_259 d Q 35 [some (.ref 279), some (.int x1), none] [] (mkH hi hl sw kp) :=
  cW.run (am_in [11, 35, 37, 47, 49, 77, 96]) 2 (And.intro (Nat.le_of_ble_eq_true rfl) (h1))
set_option maxRecDepth 100000 in
theorem k_259_37 {x1 : Int32} {o2 : Option Value}
    (h1 : (8) < x1 → cW cd_259 d Q 96 [some (.ref 279), some (.int (0)), some (.int (1))] [] (mkH hi hl sw kp))
    (h2 : ¬ ((8) < x1) → cS d 232 [(.ref 279)] (mkH hi hl sw kp) (am_ret (cW cd_259 d Q) 47 [some (.ref 279), some (.int x1), o2] []))
    : cW cd_259 d Q 37 [some (.ref 279), some (.int x1), o2] [] (mkH hi hl sw kp) :=
  cW.run (am_in [11, 35, 37, 47, 49, 77, 96]) 7 (And.intro (fun c1 => (And.intro (Nat.le_of_ble_eq_true rfl) (And.intro (Nat.le_of_ble_eq_true rfl) (h1 c1)))) (fun c2 => (cC.of (h2 c2))))
set_option maxRecDepth 100000 in
theorem k_259_47 {x1 : Int32} {o2 : Option Value}
    (h1 : cW cd_259 d Q 49 [some (.ref 279), some (.int x1), some (.int (0))] [] (mkH hi hl sw kp))
    : cW cd_259 d Q 47 [some (.ref 279), some (.int x1), o2] [] (mkH hi hl sw kp) :=
  cW.run (am_in [11, 35, 37, 47, 49, 77, 96]) 2 (And.intro (Nat.le_of_ble_eq_true rfl) (h1))
set_option maxRecDepth 100000 in
theorem k_259_49 {x1 : Int32} {x2 : Int32}
    (h1 : (hi 279 46) ≤ x2 → cW cd_259 d Q 37 [some (.ref 279), some (.int (x1 + (1))), some (.int x2)] [] (mkH hi hl sw kp))
    (h2 : ¬ ((hi 279 46) ≤ x2) → vp_in x2 8)
    (h3 : ¬ ((hi 279 46) ≤ x2) → vp_in x2 8)
    (h4 : ¬ ((hi 279 46) ≤ x2) → cS d 234 [(.int ((8) - x1))] (mkH hi hl sw kp) (am_ret (cW cd_259 d Q) 77 [some (.ref 279), some (.int x1), some (.int x2)] [(.long (hl 304 x2.toNatClampNeg)), (.long (hl 311 x2.toNatClampNeg)), (.int x2), (.ref 311)]))
    : cW cd_259 d Q 49 [some (.ref 279), some (.int x1), some (.int x2)] [] (mkH hi hl sw kp) :=
  cW.run (am_in [11, 35, 37, 47, 49, 77, 96]) 17 (And.intro (fun c1 => (And.intro (Nat.le_of_ble_eq_true rfl) (h1 c1))) (fun c2 => (And.intro rfl (And.intro rfl (And.intro (h2 c2) (And.intro (h3 c2) (cC.of (h4 c2))))))))
set_option maxRecDepth 100000 in
theorem k_259_77 {x1 : Int32} {x2 : Int32} {s1 : Int32} {s2 : Int64} {s3 : Int64} {s4 : Int64}
    (h1 : vp_in s1 8)
    (h2 : cW cd_259 d Q 49 [some (.ref 279), some (.int x1), some (.int (x2 + (1)))] [] (mkH hi (u2 hl 311 s1.toNatClampNeg (s2 + (s3 * s4))) sw kp))
    : cW cd_259 d Q 77 [some (.ref 279), some (.int x1), some (.int x2)] [(.long s4), (.long s3), (.long s2), (.int s1), (.ref 311)] (mkH hi hl sw kp) :=
  cW.run (am_in [11, 35, 37, 47, 49, 77, 96]) 5 (And.intro (h1) (And.intro (Nat.le_of_ble_eq_true rfl) (h2)))
set_option maxRecDepth 100000 in
theorem k_259_96 {x1 : Int32} {x2 : Int32}
    (h1 : (hi 279 46) ≤ x2 → Q (some (.int x1)) (mkH hi hl sw kp))
    (h2 : ¬ ((hi 279 46) ≤ x2) → vp_in x2 8)
    (h3 : ¬ ((hi 279 46) ≤ x2) → vp_in x1 8)
    (h4 : ¬ ((hi 279 46) ≤ x2) → (lg_cmp (hl 311 x2.toNatClampNeg) (hl 311 x1.toNatClampNeg)) ≤ 0 → cW cd_259 d Q 96 [some (.ref 279), some (.int x1), some (.int (x2 + (1)))] [] (mkH hi hl sw kp))
    (h5 : ¬ ((hi 279 46) ≤ x2) → ¬ ((lg_cmp (hl 311 x2.toNatClampNeg) (hl 311 x1.toNatClampNeg)) ≤ 0) → cW cd_259 d Q 96 [some (.ref 279), some (.int x2), some (.int (x2 + (1)))] [] (mkH hi hl sw kp))
    : cW cd_259 d Q 96 [some (.ref 279), some (.int x1), some (.int x2)] [] (mkH hi hl sw kp) :=
  cW.run (am_in [11, 35, 37, 47, 49, 77, 96]) 19 (And.intro (fun c1 => (cQ.of (h1 c1))) (fun c2 => (And.intro (h2 c2) (And.intro (h3 c2) (And.intro (fun c3 => (And.intro (Nat.le_of_ble_eq_true rfl) (And.intro (Nat.le_of_ble_eq_true rfl) (h4 c2 c3)))) (fun c4 => (And.intro (Nat.le_of_ble_eq_true rfl) (And.intro (Nat.le_of_ble_eq_true rfl) (h5 c2 c4)))))))))
-- 260: DogDecreesModel.walked(I)I
set_option maxRecDepth 100000 in
theorem k_260_0 {x1 : Int32}
    (h1 : (hi 299 20) ≤ x1 → Q (some (.int (hi 279 49))) (mkH hi hl sw kp))
    (h2 : ¬ ((hi 299 20) ≤ x1) → vp_in ((((21) + (hi 299 20)) - (1)) - x1) 82)
    (h3 : ¬ ((hi 299 20) ≤ x1) → Q (some (.int (hi 299 ((((21) + (hi 299 20)) - (1)) - x1).toNatClampNeg))) (mkH hi hl sw kp))
    : cW cd_260 d Q 0 [some (.ref 279), some (.int x1)] [] (mkH hi hl sw kp) :=
  cW.run (am_in []) 21 (And.intro (show vp_in 20 82 from vin_l (by decide +kernel)) (And.intro (fun c1 => (cQ.of (h1 c1))) (fun c2 => (And.intro (show vp_in 20 82 from vin_l (by decide +kernel)) (And.intro (h2 c2) (cQ.of (h3 c2)))))))
theorem e_260 {x1 : Int32}
    (h1 : (hi 299 20) ≤ x1 → Q (some (.int (hi 279 49))) (mkH hi hl sw kp))
    (h2 : ¬ ((hi 299 20) ≤ x1) → vp_in ((((21) + (hi 299 20)) - (1)) - x1) 82)
    (h3 : ¬ ((hi 299 20) ≤ x1) → Q (some (.int (hi 299 ((((21) + (hi 299 20)) - (1)) - x1).toNatClampNeg))) (mkH hi hl sw kp))
    : cS (d + 1) 260 [(.ref 279), (.int x1)] (mkH hi hl sw kp) Q := cS.of rfl (k_260_0 h1 h2 h3)
-- 261: DogDecreesModel.walk(I)I
set_option maxRecDepth 100000 in
theorem k_261_0 {x1 : Int32}
    (h1 : cS d 207 [(.int x1), (.int (0)), (.int ((hi 299 20) - (1)))] (mkH hi hl sw kp) (am_ret (cW cd_261 d Q) 14 [some (.ref 279), some (.int x1)] []))
    : cW cd_261 d Q 0 [some (.ref 279), some (.int x1)] [] (mkH hi hl sw kp) :=
  cW.run (am_in [14, 22]) 9 (And.intro (show vp_in 20 82 from vin_l (by decide +kernel)) (cC.of (h1)))
theorem e_261 {x1 : Int32}
    (h1 : cS d 207 [(.int x1), (.int (0)), (.int ((hi 299 20) - (1)))] (mkH hi hl sw kp) (am_ret (cW cd_261 d Q) 14 [some (.ref 279), some (.int x1)] []))
    : cS (d + 1) 261 [(.ref 279), (.int x1)] (mkH hi hl sw kp) Q := cS.of rfl (k_261_0 h1)
set_option maxRecDepth 100000 in
theorem k_261_14 {x1 : Int32} {s0 : Int32}
    (h1 : s0 = 0 → Q (some (.int (-1))) (mkH hi hl sw kp))
    (h2 : ¬ (s0 = 0) → cS d 260 [(.ref 279), (.int x1)] (mkH hi hl sw kp) (am_ret (cW cd_261 d Q) 22 [some (.ref 279), some (.int x1)] []))
    : cW cd_261 d Q 14 [some (.ref 279), some (.int x1)] [(.int s0)] (mkH hi hl sw kp) :=
  cW.run (am_in [14, 22]) 4 (And.intro (fun c1 => (cQ.of (h1 c1))) (fun c2 => (cC.of (h2 c2))))
set_option maxRecDepth 100000 in
theorem k_261_22 {x1 : Int32} {s0 : Int32}
    (h1 : Q (some (.int s0)) (mkH hi hl sw kp))
    : cW cd_261 d Q 22 [some (.ref 279), some (.int x1)] [(.int s0)] (mkH hi hl sw kp) :=
  cW.run (am_in [14, 22]) 2 (cQ.of (h1))
-- 262: DogDecreesModel.walkBy(II)J
set_option maxRecDepth 100000 in
theorem k_262_0 {x1 : Int32} {x2 : Int32}
    (h1 : cS d 211 [(.ref 279)] (mkH hi hl sw kp) (am_ret (cW cd_262 d Q) 4 [some (.ref 279), some (.int x1), some (.int x2), none, none, none] []))
    : cW cd_262 d Q 0 [some (.ref 279), some (.int x1), some (.int x2), none, none, none] [] (mkH hi hl sw kp) :=
  cW.run (am_in [4, 18, 23, 44, 51]) 2 (cC.of (h1))
theorem e_262 {x1 : Int32} {x2 : Int32}
    (h1 : cS d 211 [(.ref 279)] (mkH hi hl sw kp) (am_ret (cW cd_262 d Q) 4 [some (.ref 279), some (.int x1), some (.int x2), none, none, none] []))
    : cS (d + 1) 262 [(.ref 279), (.int x1), (.int x2)] (mkH hi hl sw kp) Q := cS.of rfl (k_262_0 h1)
set_option maxRecDepth 100000 in
theorem k_262_4 {x1 : Int32} {x2 : Int32}
    (h1 : vp_in x1 8)
    (h2 : vp_in x1 8)
    (h3 : cS d 217 [(.ref 279)] (mkH (u2 hi 300 x1.toNatClampNeg ((hi 300 x1.toNatClampNeg) + (1))) hl sw kp) (am_ret (cW cd_262 d Q) 18 [some (.ref 279), some (.int x1), some (.int x2), none, none, none] []))
    : cW cd_262 d Q 4 [some (.ref 279), some (.int x1), some (.int x2), none, none, none] [] (mkH hi hl sw kp) :=
  cW.run (am_in [4, 18, 23, 44, 51]) 10 (And.intro rfl (And.intro rfl (And.intro (h1) (And.intro (h2) (cC.of (h3))))))
set_option maxRecDepth 100000 in
theorem k_262_18 {x1 : Int32} {x2 : Int32}
    (h1 : cW cd_262 d Q 23 [some (.ref 279), some (.int x1), some (.int x2), some (.long 1), none, some (.int (0))] [] (mkH hi hl sw kp))
    : cW cd_262 d Q 18 [some (.ref 279), some (.int x1), some (.int x2), none, none, none] [] (mkH hi hl sw kp) :=
  cW.run (am_in [4, 18, 23, 44, 51]) 4 (And.intro (Nat.le_of_ble_eq_true rfl) (And.intro (Nat.le_of_ble_eq_true rfl) (h1)))
set_option maxRecDepth 100000 in
theorem k_262_23 {x1 : Int32} {x2 : Int32} {x3 : Int64} {x5 : Int32}
    (h1 : x2 ≤ x5 → Q (some (.long x3)) (mkH hi hl sw kp))
    (h2 : ¬ (x2 ≤ x5) → cS d 260 [(.ref 279), (.int (x5 + (1)))] (mkH hi hl sw kp) (am_ret (cW cd_262 d Q) 44 [some (.ref 279), some (.int x1), some (.int x2), some (.long x3), none, some (.int x5)] [(.int (8)), (.ref 302), (.long x3)]))
    : cW cd_262 d Q 23 [some (.ref 279), some (.int x1), some (.int x2), some (.long x3), none, some (.int x5)] [] (mkH hi hl sw kp) :=
  cW.run (am_in [4, 18, 23, 44, 51]) 12 (And.intro (fun c1 => (cQ.of (h1 c1))) (fun c2 => (cC.of (h2 c2))))
set_option maxRecDepth 100000 in
theorem k_262_44 {x1 : Int32} {x2 : Int32} {x3 : Int64} {x5 : Int32} {s0 : Int64} {s2 : Int32} {s3 : Int32}
    (h1 : cS d 260 [(.ref 279), (.int x5)] (mkH hi hl sw kp) (am_ret (cW cd_262 d Q) 51 [some (.ref 279), some (.int x1), some (.int x2), some (.long x3), none, some (.int x5)] [(.int (s2 * s3)), (.ref 302), (.long s0)]))
    : cW cd_262 d Q 44 [some (.ref 279), some (.int x1), some (.int x2), some (.long x3), none, some (.int x5)] [(.int s3), (.int s2), (.ref 302), (.long s0)] (mkH hi hl sw kp) :=
  cW.run (am_in [4, 18, 23, 44, 51]) 4 (cC.of (h1))
set_option maxRecDepth 100000 in
theorem k_262_51 {x1 : Int32} {x2 : Int32} {x3 : Int64} {x5 : Int32} {s0 : Int64} {s2 : Int32} {s3 : Int32}
    (h1 : vp_in (s2 + s3) 64)
    (h2 : cW cd_262 d Q 23 [some (.ref 279), some (.int x1), some (.int x2), some (.long (s0 * ((hi 302 (s2 + s3).toNatClampNeg).toInt64))), none, some (.int (x5 + (1)))] [] (mkH hi hl sw kp))
    : cW cd_262 d Q 51 [some (.ref 279), some (.int x1), some (.int x2), some (.long x3), none, some (.int x5)] [(.int s3), (.int s2), (.ref 302), (.long s0)] (mkH hi hl sw kp) :=
  cW.run (am_in [4, 18, 23, 44, 51]) 7 (And.intro (h1) (And.intro (Nat.le_of_ble_eq_true rfl) (And.intro (Nat.le_of_ble_eq_true rfl) (h2))))
-- 263: DogDecreesModel.fed(I)I
set_option maxRecDepth 100000 in
theorem k_263_0 {x1 : Int32}
    (h1 : cS d 207 [(.int x1), (.int (1)), (.int (8))] (mkH hi hl sw kp) (am_ret (cW cd_263 d Q) 7 [some (.ref 279), some (.int x1), none, none, none, none, none, none] []))
    : cW cd_263 d Q 0 [some (.ref 279), some (.int x1), none, none, none, none, none, none] [] (mkH hi hl sw kp) :=
  cW.run (am_in [7, 32, 48]) 4 (cC.of (h1))
theorem e_263 {x1 : Int32}
    (h1 : cS d 207 [(.int x1), (.int (1)), (.int (8))] (mkH hi hl sw kp) (am_ret (cW cd_263 d Q) 7 [some (.ref 279), some (.int x1), none, none, none, none, none, none] []))
    : cS (d + 1) 263 [(.ref 279), (.int x1)] (mkH hi hl sw kp) Q := cS.of rfl (k_263_0 h1)
set_option maxRecDepth 100000 in
theorem k_263_7 {x1 : Int32} {s0 : Int32}
    (h1 : s0 = 0 → Q (some (.int (-1))) (mkH hi hl sw kp))
    (h2 : ¬ (s0 = 0) → x1 ≤ (hi 299 20) → cW cd_263 d Q 32 [some (.ref 279), some (.int x1), some (.int (-1)), some (.long (-1)), none, some (.int (0)), none, none] [] (mkH hi hl sw kp))
    (h3 : ¬ (s0 = 0) → ¬ (x1 ≤ (hi 299 20)) → Q (some (.int (-1))) (mkH hi hl sw kp))
    : cW cd_263 d Q 7 [some (.ref 279), some (.int x1), none, none, none, none, none, none] [(.int s0)] (mkH hi hl sw kp) :=
  cW.run (am_in [7, 32, 48]) 13 (And.intro (fun c1 => (cQ.of (h1 c1))) (fun c2 => (And.intro (show vp_in 20 82 from vin_l (by decide +kernel)) (And.intro (fun c3 => (And.intro (Nat.le_of_ble_eq_true rfl) (And.intro (Nat.le_of_ble_eq_true rfl) (And.intro (Nat.le_of_ble_eq_true rfl) (h2 c2 c3))))) (fun c4 => (cQ.of (h3 c2 c4)))))))
set_option maxRecDepth 100000 in
theorem k_263_32 {x1 : Int32} {x2 : Int32} {x3 : Int64} {x5 : Int32} {o6 : Option Value}
    (h1 : (hi 279 46) ≤ x5 → Q (some (.int x2)) (mkH hi hl sw kp))
    (h2 : ¬ ((hi 279 46) ≤ x5) → cS d 262 [(.ref 279), (.int x5), (.int x1)] (mkH hi hl sw kp) (am_ret (cW cd_263 d Q) 48 [some (.ref 279), some (.int x1), some (.int x2), some (.long x3), none, some (.int x5), o6, none] []))
    : cW cd_263 d Q 32 [some (.ref 279), some (.int x1), some (.int x2), some (.long x3), none, some (.int x5), o6, none] [] (mkH hi hl sw kp) :=
  cW.run (am_in [7, 32, 48]) 8 (And.intro (fun c1 => (cQ.of (h1 c1))) (fun c2 => (cC.of (h2 c2))))
set_option maxRecDepth 100000 in
theorem k_263_48 {x1 : Int32} {x2 : Int32} {x3 : Int64} {x5 : Int32} {o6 : Option Value} {s0 : Int64}
    (h1 : 0 < (lg_cmp s0 x3) → cW cd_263 d Q 32 [some (.ref 279), some (.int x1), some (.int x5), some (.long s0), none, some (.int (x5 + (1))), some (.long s0), none] [] (mkH hi hl sw kp))
    (h2 : ¬ (0 < (lg_cmp s0 x3)) → cW cd_263 d Q 32 [some (.ref 279), some (.int x1), some (.int x2), some (.long x3), none, some (.int (x5 + (1))), some (.long s0), none] [] (mkH hi hl sw kp))
    : cW cd_263 d Q 48 [some (.ref 279), some (.int x1), some (.int x2), some (.long x3), none, some (.int x5), o6, none] [(.long s0)] (mkH hi hl sw kp) :=
  cW.run (am_in [7, 32, 48]) 11 (And.intro (Nat.le_of_ble_eq_true rfl) (And.intro (fun c1 => (And.intro (Nat.le_of_ble_eq_true rfl) (And.intro (Nat.le_of_ble_eq_true rfl) (And.intro (Nat.le_of_ble_eq_true rfl) (h1 c1))))) (fun c2 => (And.intro (Nat.le_of_ble_eq_true rfl) (h2 c2)))))
-- 264: DogDecreesModel.lies(I)I
set_option maxRecDepth 100000 in
theorem k_264_0 {x1 : Int32}
    (h1 : cS d 207 [(.int x1), (.int (0)), (.int ((hi 279 75) - (1)))] (mkH hi hl sw kp) (am_ret (cW cd_264 d Q) 11 [some (.ref 279), some (.int x1)] []))
    : cW cd_264 d Q 0 [some (.ref 279), some (.int x1)] [] (mkH hi hl sw kp) :=
  cW.run (am_in [11]) 7 (cC.of (h1))
theorem e_264 {x1 : Int32}
    (h1 : cS d 207 [(.int x1), (.int (0)), (.int ((hi 279 75) - (1)))] (mkH hi hl sw kp) (am_ret (cW cd_264 d Q) 11 [some (.ref 279), some (.int x1)] []))
    : cS (d + 1) 264 [(.ref 279), (.int x1)] (mkH hi hl sw kp) Q := cS.of rfl (k_264_0 h1)
set_option maxRecDepth 100000 in
theorem k_264_11 {x1 : Int32} {s0 : Int32}
    (h1 : s0 = 0 → Q (some (.int (-1000000))) (mkH hi hl sw kp))
    (h2 : ¬ (s0 = 0) → vp_in x1 8)
    (h3 : ¬ (s0 = 0) → Q (some (.int (hi 310 x1.toNatClampNeg))) (mkH hi hl sw kp))
    : cW cd_264 d Q 11 [some (.ref 279), some (.int x1)] [(.int s0)] (mkH hi hl sw kp) :=
  cW.run (am_in [11]) 7 (And.intro (fun c1 => (cQ.of (h1 c1))) (fun c2 => (And.intro (h2 c2) (cQ.of (h3 c2)))))
-- 265: DogDecreesModel.count(IIIIII)I
set_option maxRecDepth 100000 in
theorem k_265_0 {x1 : Int32} {x2 : Int32} {x3 : Int32} {x4 : Int32} {x5 : Int32} {x6 : Int32}
    (h1 : cS d 209 [(.ref 279), (.int x1)] (mkH hi hl sw kp) (am_ret (cW cd_265 d Q) 5 [some (.ref 279), some (.int x1), some (.int x2), some (.int x3), some (.int x4), some (.int x5), some (.int x6)] []))
    : cW cd_265 d Q 0 [some (.ref 279), some (.int x1), some (.int x2), some (.int x3), some (.int x4), some (.int x5), some (.int x6)] [] (mkH hi hl sw kp) :=
  cW.run (am_in [5, 13, 22, 32, 43, 55, 145]) 3 (cC.of (h1))
theorem e_265 {x1 : Int32} {x2 : Int32} {x3 : Int32} {x4 : Int32} {x5 : Int32} {x6 : Int32}
    (h1 : cS d 209 [(.ref 279), (.int x1)] (mkH hi hl sw kp) (am_ret (cW cd_265 d Q) 5 [some (.ref 279), some (.int x1), some (.int x2), some (.int x3), some (.int x4), some (.int x5), some (.int x6)] []))
    : cS (d + 1) 265 [(.ref 279), (.int x1), (.int x2), (.int x3), (.int x4), (.int x5), (.int x6)] (mkH hi hl sw kp) Q := cS.of rfl (k_265_0 h1)
set_option maxRecDepth 100000 in
theorem k_265_5 {x1 : Int32} {x2 : Int32} {x3 : Int32} {x4 : Int32} {x5 : Int32} {x6 : Int32} {s0 : Int32}
    (h1 : s0 = 0 → Q (some (.int (-1))) (mkH hi hl sw kp))
    (h2 : ¬ (s0 = 0) → cS d 210 [(.ref 279), (.int x2)] (mkH hi hl sw kp) (am_ret (cW cd_265 d Q) 13 [some (.ref 279), some (.int x1), some (.int x2), some (.int x3), some (.int x4), some (.int x5), some (.int x6)] []))
    : cW cd_265 d Q 5 [some (.ref 279), some (.int x1), some (.int x2), some (.int x3), some (.int x4), some (.int x5), some (.int x6)] [(.int s0)] (mkH hi hl sw kp) :=
  cW.run (am_in [5, 13, 22, 32, 43, 55, 145]) 4 (And.intro (fun c1 => (cQ.of (h1 c1))) (fun c2 => (cC.of (h2 c2))))
set_option maxRecDepth 100000 in
theorem k_265_13 {x1 : Int32} {x2 : Int32} {x3 : Int32} {x4 : Int32} {x5 : Int32} {x6 : Int32} {s0 : Int32}
    (h1 : s0 = 0 → Q (some (.int (-1))) (mkH hi hl sw kp))
    (h2 : ¬ (s0 = 0) → cS d 210 [(.ref 279), (.int x4)] (mkH hi hl sw kp) (am_ret (cW cd_265 d Q) 22 [some (.ref 279), some (.int x1), some (.int x2), some (.int x3), some (.int x4), some (.int x5), some (.int x6)] []))
    : cW cd_265 d Q 13 [some (.ref 279), some (.int x1), some (.int x2), some (.int x3), some (.int x4), some (.int x5), some (.int x6)] [(.int s0)] (mkH hi hl sw kp) :=
  cW.run (am_in [5, 13, 22, 32, 43, 55, 145]) 4 (And.intro (fun c1 => (cQ.of (h1 c1))) (fun c2 => (cC.of (h2 c2))))
set_option maxRecDepth 100000 in
theorem k_265_22 {x1 : Int32} {x2 : Int32} {x3 : Int32} {x4 : Int32} {x5 : Int32} {x6 : Int32} {s0 : Int32}
    (h1 : s0 = 0 → Q (some (.int (-1))) (mkH hi hl sw kp))
    (h2 : ¬ (s0 = 0) → cS d 207 [(.int x3), (.int (0)), (.int (9))] (mkH hi hl sw kp) (am_ret (cW cd_265 d Q) 32 [some (.ref 279), some (.int x1), some (.int x2), some (.int x3), some (.int x4), some (.int x5), some (.int x6)] []))
    : cW cd_265 d Q 22 [some (.ref 279), some (.int x1), some (.int x2), some (.int x3), some (.int x4), some (.int x5), some (.int x6)] [(.int s0)] (mkH hi hl sw kp) :=
  cW.run (am_in [5, 13, 22, 32, 43, 55, 145]) 5 (And.intro (fun c1 => (cQ.of (h1 c1))) (fun c2 => (cC.of (h2 c2))))
set_option maxRecDepth 100000 in
theorem k_265_32 {x1 : Int32} {x2 : Int32} {x3 : Int32} {x4 : Int32} {x5 : Int32} {x6 : Int32} {s0 : Int32}
    (h1 : s0 = 0 → Q (some (.int (-1))) (mkH hi hl sw kp))
    (h2 : ¬ (s0 = 0) → cS d 207 [(.int x5), (.int (0)), (.int (9))] (mkH hi hl sw kp) (am_ret (cW cd_265 d Q) 43 [some (.ref 279), some (.int x1), some (.int x2), some (.int x3), some (.int x4), some (.int x5), some (.int x6)] []))
    : cW cd_265 d Q 32 [some (.ref 279), some (.int x1), some (.int x2), some (.int x3), some (.int x4), some (.int x5), some (.int x6)] [(.int s0)] (mkH hi hl sw kp) :=
  cW.run (am_in [5, 13, 22, 32, 43, 55, 145]) 5 (And.intro (fun c1 => (cQ.of (h1 c1))) (fun c2 => (cC.of (h2 c2))))
set_option maxRecDepth 100000 in
theorem k_265_43 {x1 : Int32} {x2 : Int32} {x3 : Int32} {x4 : Int32} {x5 : Int32} {x6 : Int32} {s0 : Int32}
    (h1 : s0 = 0 → Q (some (.int (-1))) (mkH hi hl sw kp))
    (h2 : ¬ (s0 = 0) → cS d 207 [(.int x6), (.int (-99)), (.int (99))] (mkH hi hl sw kp) (am_ret (cW cd_265 d Q) 55 [some (.ref 279), some (.int x1), some (.int x2), some (.int x3), some (.int x4), some (.int x5), some (.int x6)] []))
    : cW cd_265 d Q 43 [some (.ref 279), some (.int x1), some (.int x2), some (.int x3), some (.int x4), some (.int x5), some (.int x6)] [(.int s0)] (mkH hi hl sw kp) :=
  cW.run (am_in [5, 13, 22, 32, 43, 55, 145]) 5 (And.intro (fun c1 => (cQ.of (h1 c1))) (fun c2 => (cC.of (h2 c2))))
set_option maxRecDepth 100000 in
theorem k_265_55 {x1 : Int32} {x2 : Int32} {x3 : Int32} {x4 : Int32} {x5 : Int32} {x6 : Int32} {s0 : Int32}
    (h1 : s0 = 0 → Q (some (.int (-1))) (mkH hi hl sw kp))
    (h2 : ¬ (s0 = 0) → (hi 279 86) = (30) → Q (some (.int (-1))) (mkH hi hl sw kp))
    (h3 : ¬ (s0 = 0) → ¬ ((hi 279 86) = (30)) → vp_in (hi 279 86) 30)
    (h4 : ¬ (s0 = 0) → ¬ ((hi 279 86) = (30)) → vp_in (hi 279 86) 30)
    (h5 : ¬ (s0 = 0) → ¬ ((hi 279 86) = (30)) → vp_in (hi 279 86) 30)
    (h6 : ¬ (s0 = 0) → ¬ ((hi 279 86) = (30)) → vp_in (hi 279 86) 30)
    (h7 : ¬ (s0 = 0) → ¬ ((hi 279 86) = (30)) → vp_in (hi 279 86) 30)
    (h8 : ¬ (s0 = 0) → ¬ ((hi 279 86) = (30)) → vp_in (hi 279 86) 30)
    (h9 : ¬ (s0 = 0) → ¬ ((hi 279 86) = (30)) → vp_in (hi 279 86) 30)
    (h10 : ¬ (s0 = 0) → ¬ ((hi 279 86) = (30)) → cW cd_265 d Q 145 [some (.ref 279), some (.int x1), some (.int x2), some (.int x3), some (.int x4), some (.int x5), some (.int x6)] [] (mkH (u2 (u2 (u2 (u2 (u2 (u2 (u2 hi 312 (hi 279 86).toNatClampNeg x1) 313 (hi 279 86).toNatClampNeg x2) 314 (hi 279 86).toNatClampNeg x3) 315 (hi 279 86).toNatClampNeg x4) 316 (hi 279 86).toNatClampNeg x5) 317 (hi 279 86).toNatClampNeg x6) 318 (hi 279 86).toNatClampNeg (hi 279 87)) hl sw kp))
    : cW cd_265 d Q 55 [some (.ref 279), some (.int x1), some (.int x2), some (.int x3), some (.int x4), some (.int x5), some (.int x6)] [(.int s0)] (mkH hi hl sw kp) :=
  cW.run (am_in [5, 13, 22, 32, 43, 55, 145]) 48 (And.intro (fun c1 => (cQ.of (h1 c1))) (fun c2 => (And.intro (fun c3 => (cQ.of (h2 c2 c3))) (fun c4 => (And.intro (h3 c2 c4) (And.intro (h4 c2 c4) (And.intro (h5 c2 c4) (And.intro (h6 c2 c4) (And.intro (h7 c2 c4) (And.intro (h8 c2 c4) (And.intro (h9 c2 c4) (h10 c2 c4))))))))))))
set_option maxRecDepth 100000 in
theorem k_265_145 {x1 : Int32} {x2 : Int32} {x3 : Int32} {x4 : Int32} {x5 : Int32} {x6 : Int32}
    (h1 : vp_in (hi 279 86) 30)
    (h2 : Q (some (.int (((hi 279 86) + (1)) - (1)))) (mkH (u2 (u2 hi 319 (hi 279 86).toNatClampNeg (-1)) 279 86 ((hi 279 86) + (1))) hl sw kp))
    : cW cd_265 d Q 145 [some (.ref 279), some (.int x1), some (.int x2), some (.int x3), some (.int x4), some (.int x5), some (.int x6)] [] (mkH hi hl sw kp) :=
  cW.run (am_in [5, 13, 22, 32, 43, 55, 145]) 17 (And.intro (h1) (And.intro rfl (cQ.of (h2))))
-- 266: DogDecreesModel.untell(I)Z
set_option maxRecDepth 100000 in
theorem k_266_0 {x1 : Int32}
    (h1 : cS d 207 [(.int x1), (.int (0)), (.int ((hi 279 86) - (1)))] (mkH hi hl sw kp) (am_ret (cW cd_266 d Q) 11 [some (.ref 279), some (.int x1)] []))
    : cW cd_266 d Q 0 [some (.ref 279), some (.int x1)] [] (mkH hi hl sw kp) :=
  cW.run (am_in [11]) 7 (cC.of (h1))
theorem e_266 {x1 : Int32}
    (h1 : cS d 207 [(.int x1), (.int (0)), (.int ((hi 279 86) - (1)))] (mkH hi hl sw kp) (am_ret (cW cd_266 d Q) 11 [some (.ref 279), some (.int x1)] []))
    : cS (d + 1) 266 [(.ref 279), (.int x1)] (mkH hi hl sw kp) Q := cS.of rfl (k_266_0 h1)
set_option maxRecDepth 100000 in
theorem k_266_11 {x1 : Int32} {s0 : Int32}
    (h1 : s0 = 0 → Q (some (.int (0))) (mkH hi hl sw kp))
    (h2 : ¬ (s0 = 0) → vp_in x1 30)
    (h3 : ¬ (s0 = 0) → (hi 319 x1.toNatClampNeg) < 0 → vp_in x1 30)
    (h4 : ¬ (s0 = 0) → (hi 319 x1.toNatClampNeg) < 0 → Q (some (.int (1))) (mkH (u2 hi 319 x1.toNatClampNeg (hi 279 87)) hl sw kp))
    (h5 : ¬ (s0 = 0) → ¬ ((hi 319 x1.toNatClampNeg) < 0) → Q (some (.int (0))) (mkH hi hl sw kp))
    : cW cd_266 d Q 11 [some (.ref 279), some (.int x1)] [(.int s0)] (mkH hi hl sw kp) :=
  cW.run (am_in [11]) 14 (And.intro (fun c1 => (And.intro (Or.inl rfl) (cQ.of (h1 c1)))) (fun c2 => (And.intro (h2 c2) (And.intro (fun c3 => (And.intro (h3 c2 c3) (And.intro (Or.inr rfl) (cQ.of (h4 c2 c3))))) (fun c4 => (And.intro (Or.inl rfl) (cQ.of (h5 c2 c4))))))))
-- 267: DogDecreesModel.later(I)I
set_option maxRecDepth 100000 in
theorem k_267_0 {x1 : Int32}
    (h1 : x1 < 0 → Q (some (.int (-1))) (mkH hi hl sw kp))
    (h2 : ¬ (x1 < 0) → (1000) < x1 → Q (some (.int (-1))) (mkH hi hl sw kp))
    (h3 : ¬ (x1 < 0) → ¬ ((1000) < x1) → ((hi 279 87) + x1) ≤ (100000) → Q (some (.int ((hi 279 87) + x1))) (mkH (u2 hi 279 87 ((hi 279 87) + x1)) hl sw kp))
    (h4 : ¬ (x1 < 0) → ¬ ((1000) < x1) → ¬ (((hi 279 87) + x1) ≤ (100000)) → Q (some (.int (-1))) (mkH hi hl sw kp))
    : cW cd_267 d Q 0 [some (.ref 279), some (.int x1)] [] (mkH hi hl sw kp) :=
  cW.run (am_in []) 20 (And.intro (fun c1 => (cQ.of (h1 c1))) (fun c2 => (And.intro (fun c3 => (cQ.of (h2 c2 c3))) (fun c4 => (And.intro (fun c5 => (And.intro rfl (cQ.of (h3 c2 c4 c5)))) (fun c6 => (cQ.of (h4 c2 c4 c6))))))))
theorem e_267 {x1 : Int32}
    (h1 : x1 < 0 → Q (some (.int (-1))) (mkH hi hl sw kp))
    (h2 : ¬ (x1 < 0) → (1000) < x1 → Q (some (.int (-1))) (mkH hi hl sw kp))
    (h3 : ¬ (x1 < 0) → ¬ ((1000) < x1) → ((hi 279 87) + x1) ≤ (100000) → Q (some (.int ((hi 279 87) + x1))) (mkH (u2 hi 279 87 ((hi 279 87) + x1)) hl sw kp))
    (h4 : ¬ (x1 < 0) → ¬ ((1000) < x1) → ¬ (((hi 279 87) + x1) ≤ (100000)) → Q (some (.int (-1))) (mkH hi hl sw kp))
    : cS (d + 1) 267 [(.ref 279), (.int x1)] (mkH hi hl sw kp) Q := cS.of rfl (k_267_0 h1 h2 h3 h4)
-- 268: DogDecreesModel.isSo(II)Z
set_option maxRecDepth 100000 in
theorem k_268_0 {x1 : Int32} {x2 : Int32}
    (h1 : cW cd_268 d Q 5 [some (.ref 279), some (.int x1), some (.int x2), some (.int (1)), some (.int (0)), none] [] (mkH hi hl sw kp))
    : cW cd_268 d Q 0 [some (.ref 279), some (.int x1), some (.int x2), none, none, none] [] (mkH hi hl sw kp) :=
  cW.run (am_in [5]) 4 (And.intro (Nat.le_of_ble_eq_true rfl) (And.intro (Nat.le_of_ble_eq_true rfl) (h1)))
theorem e_268 {x1 : Int32} {x2 : Int32}
    (h1 : cW cd_268 d Q 5 [some (.ref 279), some (.int x1), some (.int x2), some (.int (1)), some (.int (0)), none] [] (mkH hi hl sw kp))
    : cS (d + 1) 268 [(.ref 279), (.int x1), (.int x2)] (mkH hi hl sw kp) Q := cS.of rfl (k_268_0 h1)
set_option maxRecDepth 100000 in
theorem k_268_5 {x1 : Int32} {x2 : Int32} {x3 : Int32} {x4 : Int32} {o5 : Option Value}
    (h1 : (hi 279 86) ≤ x4 → x3 = 0 ∨ x3 = 1)
    (h2 : (hi 279 86) ≤ x4 → Q (some (.int x3)) (mkH hi hl sw kp))
    (h3 : ¬ ((hi 279 86) ≤ x4) → x3 = 0 → x3 = 0 ∨ x3 = 1)
    (h4 : ¬ ((hi 279 86) ≤ x4) → x3 = 0 → Q (some (.int x3)) (mkH hi hl sw kp))
    (h5 : ¬ ((hi 279 86) ≤ x4) → ¬ (x3 = 0) → vp_in x4 30)
    (h6 : ¬ ((hi 279 86) ≤ x4) → ¬ (x3 = 0) → (hi 312 x4.toNatClampNeg) = x1 → vp_in x4 30)
    (h7 : ¬ ((hi 279 86) ≤ x4) → ¬ (x3 = 0) → (hi 312 x4.toNatClampNeg) = x1 → x2 < (hi 318 x4.toNatClampNeg) → cW cd_268 d Q 5 [some (.ref 279), some (.int x1), some (.int x2), some (.int (1)), some (.int (x4 + (1))), some (.int (0))] [] (mkH hi hl sw kp))
    (h8 : ¬ ((hi 279 86) ≤ x4) → ¬ (x3 = 0) → (hi 312 x4.toNatClampNeg) = x1 → ¬ (x2 < (hi 318 x4.toNatClampNeg)) → vp_in x4 30)
    (h9 : ¬ ((hi 279 86) ≤ x4) → ¬ (x3 = 0) → (hi 312 x4.toNatClampNeg) = x1 → ¬ (x2 < (hi 318 x4.toNatClampNeg)) → (hi 319 x4.toNatClampNeg) < 0 → vp_in x4 30)
    (h10 : ¬ ((hi 279 86) ≤ x4) → ¬ (x3 = 0) → (hi 312 x4.toNatClampNeg) = x1 → ¬ (x2 < (hi 318 x4.toNatClampNeg)) → (hi 319 x4.toNatClampNeg) < 0 → vp_in x4 30)
    (h11 : ¬ ((hi 279 86) ≤ x4) → ¬ (x3 = 0) → (hi 312 x4.toNatClampNeg) = x1 → ¬ (x2 < (hi 318 x4.toNatClampNeg)) → (hi 319 x4.toNatClampNeg) < 0 → vp_in (hi 313 x4.toNatClampNeg) 4)
    (h12 : ¬ ((hi 279 86) ≤ x4) → ¬ (x3 = 0) → (hi 312 x4.toNatClampNeg) = x1 → ¬ (x2 < (hi 318 x4.toNatClampNeg)) → (hi 319 x4.toNatClampNeg) < 0 → vp_in x4 30)
    (h13 : ¬ ((hi 279 86) ≤ x4) → ¬ (x3 = 0) → (hi 312 x4.toNatClampNeg) = x1 → ¬ (x2 < (hi 318 x4.toNatClampNeg)) → (hi 319 x4.toNatClampNeg) < 0 → vp_in x4 30)
    (h14 : ¬ ((hi 279 86) ≤ x4) → ¬ (x3 = 0) → (hi 312 x4.toNatClampNeg) = x1 → ¬ (x2 < (hi 318 x4.toNatClampNeg)) → (hi 319 x4.toNatClampNeg) < 0 → vp_in (hi 315 x4.toNatClampNeg) 4)
    (h15 : ¬ ((hi 279 86) ≤ x4) → ¬ (x3 = 0) → (hi 312 x4.toNatClampNeg) = x1 → ¬ (x2 < (hi 318 x4.toNatClampNeg)) → (hi 319 x4.toNatClampNeg) < 0 → vp_in x4 30)
    (h16 : ¬ ((hi 279 86) ≤ x4) → ¬ (x3 = 0) → (hi 312 x4.toNatClampNeg) = x1 → ¬ (x2 < (hi 318 x4.toNatClampNeg)) → (hi 319 x4.toNatClampNeg) < 0 → (((hi 314 x4.toNatClampNeg) * (hi 321 (hi 313 x4.toNatClampNeg).toNatClampNeg)) + ((hi 316 x4.toNatClampNeg) * (hi 321 (hi 315 x4.toNatClampNeg).toNatClampNeg))) = (hi 317 x4.toNatClampNeg) → cW cd_268 d Q 5 [some (.ref 279), some (.int x1), some (.int x2), some (.int (1)), some (.int (x4 + (1))), some (.int (1))] [] (mkH hi hl sw kp))
    (h17 : ¬ ((hi 279 86) ≤ x4) → ¬ (x3 = 0) → (hi 312 x4.toNatClampNeg) = x1 → ¬ (x2 < (hi 318 x4.toNatClampNeg)) → (hi 319 x4.toNatClampNeg) < 0 → ¬ ((((hi 314 x4.toNatClampNeg) * (hi 321 (hi 313 x4.toNatClampNeg).toNatClampNeg)) + ((hi 316 x4.toNatClampNeg) * (hi 321 (hi 315 x4.toNatClampNeg).toNatClampNeg))) = (hi 317 x4.toNatClampNeg)) → cW cd_268 d Q 5 [some (.ref 279), some (.int x1), some (.int x2), some (.int (0)), some (.int (x4 + (1))), some (.int (1))] [] (mkH hi hl sw kp))
    (h18 : ¬ ((hi 279 86) ≤ x4) → ¬ (x3 = 0) → (hi 312 x4.toNatClampNeg) = x1 → ¬ (x2 < (hi 318 x4.toNatClampNeg)) → ¬ ((hi 319 x4.toNatClampNeg) < 0) → vp_in x4 30)
    (h19 : ¬ ((hi 279 86) ≤ x4) → ¬ (x3 = 0) → (hi 312 x4.toNatClampNeg) = x1 → ¬ (x2 < (hi 318 x4.toNatClampNeg)) → ¬ ((hi 319 x4.toNatClampNeg) < 0) → (hi 319 x4.toNatClampNeg) ≤ x2 → cW cd_268 d Q 5 [some (.ref 279), some (.int x1), some (.int x2), some (.int (1)), some (.int (x4 + (1))), some (.int (0))] [] (mkH hi hl sw kp))
    (h20 : ¬ ((hi 279 86) ≤ x4) → ¬ (x3 = 0) → (hi 312 x4.toNatClampNeg) = x1 → ¬ (x2 < (hi 318 x4.toNatClampNeg)) → ¬ ((hi 319 x4.toNatClampNeg) < 0) → ¬ ((hi 319 x4.toNatClampNeg) ≤ x2) → vp_in x4 30)
    (h21 : ¬ ((hi 279 86) ≤ x4) → ¬ (x3 = 0) → (hi 312 x4.toNatClampNeg) = x1 → ¬ (x2 < (hi 318 x4.toNatClampNeg)) → ¬ ((hi 319 x4.toNatClampNeg) < 0) → ¬ ((hi 319 x4.toNatClampNeg) ≤ x2) → vp_in x4 30)
    (h22 : ¬ ((hi 279 86) ≤ x4) → ¬ (x3 = 0) → (hi 312 x4.toNatClampNeg) = x1 → ¬ (x2 < (hi 318 x4.toNatClampNeg)) → ¬ ((hi 319 x4.toNatClampNeg) < 0) → ¬ ((hi 319 x4.toNatClampNeg) ≤ x2) → vp_in (hi 313 x4.toNatClampNeg) 4)
    (h23 : ¬ ((hi 279 86) ≤ x4) → ¬ (x3 = 0) → (hi 312 x4.toNatClampNeg) = x1 → ¬ (x2 < (hi 318 x4.toNatClampNeg)) → ¬ ((hi 319 x4.toNatClampNeg) < 0) → ¬ ((hi 319 x4.toNatClampNeg) ≤ x2) → vp_in x4 30)
    (h24 : ¬ ((hi 279 86) ≤ x4) → ¬ (x3 = 0) → (hi 312 x4.toNatClampNeg) = x1 → ¬ (x2 < (hi 318 x4.toNatClampNeg)) → ¬ ((hi 319 x4.toNatClampNeg) < 0) → ¬ ((hi 319 x4.toNatClampNeg) ≤ x2) → vp_in x4 30)
    (h25 : ¬ ((hi 279 86) ≤ x4) → ¬ (x3 = 0) → (hi 312 x4.toNatClampNeg) = x1 → ¬ (x2 < (hi 318 x4.toNatClampNeg)) → ¬ ((hi 319 x4.toNatClampNeg) < 0) → ¬ ((hi 319 x4.toNatClampNeg) ≤ x2) → vp_in (hi 315 x4.toNatClampNeg) 4)
    (h26 : ¬ ((hi 279 86) ≤ x4) → ¬ (x3 = 0) → (hi 312 x4.toNatClampNeg) = x1 → ¬ (x2 < (hi 318 x4.toNatClampNeg)) → ¬ ((hi 319 x4.toNatClampNeg) < 0) → ¬ ((hi 319 x4.toNatClampNeg) ≤ x2) → vp_in x4 30)
    (h27 : ¬ ((hi 279 86) ≤ x4) → ¬ (x3 = 0) → (hi 312 x4.toNatClampNeg) = x1 → ¬ (x2 < (hi 318 x4.toNatClampNeg)) → ¬ ((hi 319 x4.toNatClampNeg) < 0) → ¬ ((hi 319 x4.toNatClampNeg) ≤ x2) → (((hi 314 x4.toNatClampNeg) * (hi 321 (hi 313 x4.toNatClampNeg).toNatClampNeg)) + ((hi 316 x4.toNatClampNeg) * (hi 321 (hi 315 x4.toNatClampNeg).toNatClampNeg))) = (hi 317 x4.toNatClampNeg) → cW cd_268 d Q 5 [some (.ref 279), some (.int x1), some (.int x2), some (.int (1)), some (.int (x4 + (1))), some (.int (1))] [] (mkH hi hl sw kp))
    (h28 : ¬ ((hi 279 86) ≤ x4) → ¬ (x3 = 0) → (hi 312 x4.toNatClampNeg) = x1 → ¬ (x2 < (hi 318 x4.toNatClampNeg)) → ¬ ((hi 319 x4.toNatClampNeg) < 0) → ¬ ((hi 319 x4.toNatClampNeg) ≤ x2) → ¬ ((((hi 314 x4.toNatClampNeg) * (hi 321 (hi 313 x4.toNatClampNeg).toNatClampNeg)) + ((hi 316 x4.toNatClampNeg) * (hi 321 (hi 315 x4.toNatClampNeg).toNatClampNeg))) = (hi 317 x4.toNatClampNeg)) → cW cd_268 d Q 5 [some (.ref 279), some (.int x1), some (.int x2), some (.int (0)), some (.int (x4 + (1))), some (.int (1))] [] (mkH hi hl sw kp))
    (h29 : ¬ ((hi 279 86) ≤ x4) → ¬ (x3 = 0) → ¬ ((hi 312 x4.toNatClampNeg) = x1) → cW cd_268 d Q 5 [some (.ref 279), some (.int x1), some (.int x2), some (.int (1)), some (.int (x4 + (1))), some (.int (0))] [] (mkH hi hl sw kp))
    : cW cd_268 d Q 5 [some (.ref 279), some (.int x1), some (.int x2), some (.int x3), some (.int x4), o5] [] (mkH hi hl sw kp) :=
  cW.run (am_in [5]) 69 (And.intro (fun c1 => (And.intro (h1 c1) (cQ.of (h2 c1)))) (fun c2 => (And.intro (fun c3 => (And.intro (h3 c2 c3) (cQ.of (h4 c2 c3)))) (fun c4 => (And.intro (h5 c2 c4) (And.intro (fun c5 => (And.intro (h6 c2 c4 c5) (And.intro (fun c6 => (And.intro (Nat.le_of_ble_eq_true rfl) (And.intro (fun _ => (And.intro (Nat.le_of_ble_eq_true rfl) (And.intro (Nat.le_of_ble_eq_true rfl) (h7 c2 c4 c5 c6)))) (fun z => absurd (show (0 : Int32) = 0 by decide) z)))) (fun c7 => (And.intro (h8 c2 c4 c5 c7) (And.intro (fun c8 => (And.intro (Nat.le_of_ble_eq_true rfl) (And.intro (fun z => absurd (show (1 : Int32) = 0 from z) (by decide)) (fun _ => (And.intro (h9 c2 c4 c5 c7 c8) (And.intro (h10 c2 c4 c5 c7 c8) (And.intro (h11 c2 c4 c5 c7 c8) (And.intro (h12 c2 c4 c5 c7 c8) (And.intro (h13 c2 c4 c5 c7 c8) (And.intro (h14 c2 c4 c5 c7 c8) (And.intro (h15 c2 c4 c5 c7 c8) (And.intro (fun c9 => (And.intro (Nat.le_of_ble_eq_true rfl) (And.intro (Nat.le_of_ble_eq_true rfl) (h16 c2 c4 c5 c7 c8 c9)))) (fun c10 => (And.intro (Nat.le_of_ble_eq_true rfl) (And.intro (Nat.le_of_ble_eq_true rfl) (h17 c2 c4 c5 c7 c8 c10)))))))))))))))) (fun c11 => (And.intro (h18 c2 c4 c5 c7 c11) (And.intro (fun c12 => (And.intro (Nat.le_of_ble_eq_true rfl) (And.intro (fun _ => (And.intro (Nat.le_of_ble_eq_true rfl) (And.intro (Nat.le_of_ble_eq_true rfl) (h19 c2 c4 c5 c7 c11 c12)))) (fun z => absurd (show (0 : Int32) = 0 by decide) z)))) (fun c13 => (And.intro (Nat.le_of_ble_eq_true rfl) (And.intro (fun z => absurd (show (1 : Int32) = 0 from z) (by decide)) (fun _ => (And.intro (h20 c2 c4 c5 c7 c11 c13) (And.intro (h21 c2 c4 c5 c7 c11 c13) (And.intro (h22 c2 c4 c5 c7 c11 c13) (And.intro (h23 c2 c4 c5 c7 c11 c13) (And.intro (h24 c2 c4 c5 c7 c11 c13) (And.intro (h25 c2 c4 c5 c7 c11 c13) (And.intro (h26 c2 c4 c5 c7 c11 c13) (And.intro (fun c14 => (And.intro (Nat.le_of_ble_eq_true rfl) (And.intro (Nat.le_of_ble_eq_true rfl) (h27 c2 c4 c5 c7 c11 c13 c14)))) (fun c15 => (And.intro (Nat.le_of_ble_eq_true rfl) (And.intro (Nat.le_of_ble_eq_true rfl) (h28 c2 c4 c5 c7 c11 c13 c15))))))))))))))))))))))))) (fun c16 => (And.intro (Nat.le_of_ble_eq_true rfl) (And.intro (fun _ => (And.intro (Nat.le_of_ble_eq_true rfl) (And.intro (Nat.le_of_ble_eq_true rfl) (h29 c2 c4 c16)))) (fun z => absurd (show (0 : Int32) = 0 by decide) z))))))))))
-- 269: DogDecreesModel.layTally(II)I
set_option maxRecDepth 100000 in
theorem k_269_0 {x1 : Int32} {x2 : Int32}
    (h1 : cW cd_269 d Q 2 [some (.ref 279), some (.int x1), some (.int x2), some (.int (0)), none, none, none, none] [] (mkH hi hl sw kp))
    : cW cd_269 d Q 0 [some (.ref 279), some (.int x1), some (.int x2), none, none, none, none, none] [] (mkH hi hl sw kp) :=
  cW.run (am_in [2, 26, 52, 65, 107, 119]) 2 (And.intro (Nat.le_of_ble_eq_true rfl) (h1))
theorem e_269 {x1 : Int32} {x2 : Int32}
    (h1 : cW cd_269 d Q 2 [some (.ref 279), some (.int x1), some (.int x2), some (.int (0)), none, none, none, none] [] (mkH hi hl sw kp))
    : cS (d + 1) 269 [(.ref 279), (.int x1), (.int x2)] (mkH hi hl sw kp) Q := cS.of rfl (k_269_0 h1)
set_option maxRecDepth 100000 in
theorem k_269_2 {x1 : Int32} {x2 : Int32} {x3 : Int32}
    (h1 : (28) ≤ x3 → cW cd_269 d Q 26 [some (.ref 279), some (.int x1), some (.int x2), some (.int (1)), some (.int (0)), none, none, none] [] (mkH hi hl sw kp))
    (h2 : ¬ ((28) ≤ x3) → vp_in x3 28)
    (h3 : ¬ ((28) ≤ x3) → cW cd_269 d Q 2 [some (.ref 279), some (.int x1), some (.int x2), some (.int (x3 + (1))), none, none, none, none] [] (mkH (u2 hi 320 x3.toNatClampNeg (0)) hl sw kp))
    : cW cd_269 d Q 2 [some (.ref 279), some (.int x1), some (.int x2), some (.int x3), none, none, none, none] [] (mkH hi hl sw kp) :=
  cW.run (am_in [2, 26, 52, 65, 107, 119]) 10 (And.intro (fun c1 => (And.intro (Nat.le_of_ble_eq_true rfl) (And.intro (Nat.le_of_ble_eq_true rfl) (h1 c1)))) (fun c2 => (And.intro (h2 c2) (And.intro (Nat.le_of_ble_eq_true rfl) (h3 c2)))))
set_option maxRecDepth 100000 in
theorem k_269_26 {x1 : Int32} {x2 : Int32} {x3 : Int32} {x4 : Int32}
    (h1 : (hi 279 45) ≤ x4 → cW cd_269 d Q 52 [some (.ref 279), some (.int x1), some (.int x2), some (.int x3), some (.int (0)), some (.int (0)), none, none] [] (mkH hi hl sw kp))
    (h2 : ¬ ((hi 279 45) ≤ x4) → cW cd_269 d Q 26 [some (.ref 279), some (.int x1), some (.int x2), some (.int (x3 * (7))), some (.int (x4 + (1))), none, none, none] [] (mkH hi hl sw kp))
    : cW cd_269 d Q 26 [some (.ref 279), some (.int x1), some (.int x2), some (.int x3), some (.int x4), none, none, none] [] (mkH hi hl sw kp) :=
  cW.run (am_in [2, 26, 52, 65, 107, 119]) 10 (And.intro (fun c1 => (And.intro (Nat.le_of_ble_eq_true rfl) (And.intro (Nat.le_of_ble_eq_true rfl) (h1 c1)))) (fun c2 => (And.intro (Nat.le_of_ble_eq_true rfl) (And.intro (Nat.le_of_ble_eq_true rfl) (h2 c2)))))
set_option maxRecDepth 100000 in
theorem k_269_52 {x1 : Int32} {x2 : Int32} {x3 : Int32} {x4 : Int32} {x5 : Int32} {o6 : Option Value} {o7 : Option Value}
    (h1 : x3 ≤ x5 → Q (some (.int x4)) (mkH hi hl sw kp))
    (h2 : ¬ (x3 ≤ x5) → cW cd_269 d Q 65 [some (.ref 279), some (.int x1), some (.int x2), some (.int x3), some (.int x4), some (.int x5), some (.int x5), some (.int (0))] [] (mkH hi hl sw kp))
    : cW cd_269 d Q 52 [some (.ref 279), some (.int x1), some (.int x2), some (.int x3), some (.int x4), some (.int x5), o6, o7] [] (mkH hi hl sw kp) :=
  cW.run (am_in [2, 26, 52, 65, 107, 119]) 7 (And.intro (fun c1 => (cQ.of (h1 c1))) (fun c2 => (And.intro (Nat.le_of_ble_eq_true rfl) (And.intro (Nat.le_of_ble_eq_true rfl) (h2 c2)))))
set_option maxRecDepth 100000 in
theorem k_269_65 {x1 : Int32} {x2 : Int32} {x3 : Int32} {x4 : Int32} {x5 : Int32} {x6 : Int32} {x7 : Int32}
    (h1 : (hi 279 45) ≤ x7 → cS d 268 [(.ref 279), (.int x1), (.int x2)] (mkH hi hl sw kp) (am_ret (cW cd_269 d Q) 107 [some (.ref 279), some (.int x1), some (.int x2), some (.int x3), some (.int x4), some (.int x5), some (.int x6), some (.int x7)] []))
    (h2 : ¬ ((hi 279 45) ≤ x7) → vp_in x7 4)
    (h3 : ¬ ((hi 279 45) ≤ x7) → cW cd_269 d Q 65 [some (.ref 279), some (.int x1), some (.int x2), some (.int x3), some (.int x4), some (.int x5), some (.int (x6 / (7))), some (.int (x7 + (1)))] [] (mkH (u2 hi 321 x7.toNatClampNeg ((x6 - x6 / (7) * (7)) - (3))) hl sw kp))
    : cW cd_269 d Q 65 [some (.ref 279), some (.int x1), some (.int x2), some (.int x3), some (.int x4), some (.int x5), some (.int x6), some (.int x7)] [] (mkH hi hl sw kp) :=
  cW.run (am_in [2, 26, 52, 65, 107, 119]) 19 (And.intro (fun c1 => (cC.of (h1 c1))) (fun c2 => (And.intro (show ¬ ((7) : Int32) = 0 by decide +kernel) (And.intro (h2 c2) (And.intro (show ¬ ((7) : Int32) = 0 by decide +kernel) (And.intro (Nat.le_of_ble_eq_true rfl) (And.intro (Nat.le_of_ble_eq_true rfl) (h3 c2))))))))
set_option maxRecDepth 100000 in
theorem k_269_107 {x1 : Int32} {x2 : Int32} {x3 : Int32} {x4 : Int32} {x5 : Int32} {x6 : Int32} {x7 : Int32} {s0 : Int32}
    (h1 : s0 = 0 → cW cd_269 d Q 52 [some (.ref 279), some (.int x1), some (.int x2), some (.int x3), some (.int x4), some (.int (x5 + (1))), some (.int x6), some (.int x7)] [] (mkH hi hl sw kp))
    (h2 : ¬ (s0 = 0) → cW cd_269 d Q 119 [some (.ref 279), some (.int x1), some (.int x2), some (.int x3), some (.int (x4 + (1))), some (.int x5), some (.int x6), some (.int (0))] [] (mkH hi hl sw kp))
    : cW cd_269 d Q 107 [some (.ref 279), some (.int x1), some (.int x2), some (.int x3), some (.int x4), some (.int x5), some (.int x6), some (.int x7)] [(.int s0)] (mkH hi hl sw kp) :=
  cW.run (am_in [2, 26, 52, 65, 107, 119]) 4 (And.intro (fun c1 => (And.intro (Nat.le_of_ble_eq_true rfl) (h1 c1))) (fun c2 => (And.intro (Nat.le_of_ble_eq_true rfl) (And.intro (Nat.le_of_ble_eq_true rfl) (h2 c2)))))
set_option maxRecDepth 100000 in
theorem k_269_119 {x1 : Int32} {x2 : Int32} {x3 : Int32} {x4 : Int32} {x5 : Int32} {x6 : Int32} {x7 : Int32}
    (h1 : (hi 279 45) ≤ x7 → cW cd_269 d Q 52 [some (.ref 279), some (.int x1), some (.int x2), some (.int x3), some (.int x4), some (.int (x5 + (1))), some (.int x6), some (.int x7)] [] (mkH hi hl sw kp))
    (h2 : ¬ ((hi 279 45) ≤ x7) → vp_in x7 4)
    (h3 : ¬ ((hi 279 45) ≤ x7) → vp_in ((((7) * x7) + (hi 321 x7.toNatClampNeg)) + (3)) 28)
    (h4 : ¬ ((hi 279 45) ≤ x7) → vp_in ((((7) * x7) + (hi 321 x7.toNatClampNeg)) + (3)) 28)
    (h5 : ¬ ((hi 279 45) ≤ x7) → cW cd_269 d Q 119 [some (.ref 279), some (.int x1), some (.int x2), some (.int x3), some (.int x4), some (.int x5), some (.int x6), some (.int (x7 + (1)))] [] (mkH (u2 hi 320 ((((7) * x7) + (hi 321 x7.toNatClampNeg)) + (3)).toNatClampNeg ((hi 320 ((((7) * x7) + (hi 321 x7.toNatClampNeg)) + (3)).toNatClampNeg) + (1))) hl sw kp))
    : cW cd_269 d Q 119 [some (.ref 279), some (.int x1), some (.int x2), some (.int x3), some (.int x4), some (.int x5), some (.int x6), some (.int x7)] [] (mkH hi hl sw kp) :=
  cW.run (am_in [2, 26, 52, 65, 107, 119]) 23 (And.intro (fun c1 => (And.intro (Nat.le_of_ble_eq_true rfl) (h1 c1))) (fun c2 => (And.intro (h2 c2) (And.intro rfl (And.intro rfl (And.intro (h3 c2) (And.intro (h4 c2) (And.intro (Nat.le_of_ble_eq_true rfl) (h5 c2)))))))))
-- 270: DogDecreesModel.meant(II)I
set_option maxRecDepth 100000 in
theorem k_270_0 {x1 : Int32} {x2 : Int32}
    (h1 : cS d 209 [(.ref 279), (.int x1)] (mkH hi hl sw kp) (am_ret (cW cd_270 d Q) 5 [some (.ref 279), some (.int x1), some (.int x2)] []))
    : cW cd_270 d Q 0 [some (.ref 279), some (.int x1), some (.int x2)] [] (mkH hi hl sw kp) :=
  cW.run (am_in [5, 14]) 3 (cC.of (h1))
theorem e_270 {x1 : Int32} {x2 : Int32}
    (h1 : cS d 209 [(.ref 279), (.int x1)] (mkH hi hl sw kp) (am_ret (cW cd_270 d Q) 5 [some (.ref 279), some (.int x1), some (.int x2)] []))
    : cS (d + 1) 270 [(.ref 279), (.int x1), (.int x2)] (mkH hi hl sw kp) Q := cS.of rfl (k_270_0 h1)
set_option maxRecDepth 100000 in
theorem k_270_5 {x1 : Int32} {x2 : Int32} {s0 : Int32}
    (h1 : s0 = 0 → Q (some (.int (-1))) (mkH hi hl sw kp))
    (h2 : ¬ (s0 = 0) → cS d 269 [(.ref 279), (.int x1), (.int x2)] (mkH hi hl sw kp) (am_ret (cW cd_270 d Q) 14 [some (.ref 279), some (.int x1), some (.int x2)] []))
    : cW cd_270 d Q 5 [some (.ref 279), some (.int x1), some (.int x2)] [(.int s0)] (mkH hi hl sw kp) :=
  cW.run (am_in [5, 14]) 5 (And.intro (fun c1 => (cQ.of (h1 c1))) (fun c2 => (cC.of (h2 c2))))
set_option maxRecDepth 100000 in
theorem k_270_14 {x1 : Int32} {x2 : Int32} {s0 : Int32}
    (h1 : Q (some (.int s0)) (mkH hi hl sw kp))
    : cW cd_270 d Q 14 [some (.ref 279), some (.int x1), some (.int x2)] [(.int s0)] (mkH hi hl sw kp) :=
  cW.run (am_in [5, 14]) 2 (cQ.of (h1))
-- 271: DogDecreesModel.sure(III)I
set_option maxRecDepth 100000 in
theorem k_271_0 {x1 : Int32} {x2 : Int32} {x3 : Int32}
    (h1 : cS d 209 [(.ref 279), (.int x1)] (mkH hi hl sw kp) (am_ret (cW cd_271 d Q) 5 [some (.ref 279), some (.int x1), some (.int x2), some (.int x3), none, none] []))
    : cW cd_271 d Q 0 [some (.ref 279), some (.int x1), some (.int x2), some (.int x3), none, none] [] (mkH hi hl sw kp) :=
  cW.run (am_in [5, 13, 26, 31]) 3 (cC.of (h1))
theorem e_271 {x1 : Int32} {x2 : Int32} {x3 : Int32}
    (h1 : cS d 209 [(.ref 279), (.int x1)] (mkH hi hl sw kp) (am_ret (cW cd_271 d Q) 5 [some (.ref 279), some (.int x1), some (.int x2), some (.int x3), none, none] []))
    : cS (d + 1) 271 [(.ref 279), (.int x1), (.int x2), (.int x3)] (mkH hi hl sw kp) Q := cS.of rfl (k_271_0 h1)
set_option maxRecDepth 100000 in
theorem k_271_5 {x1 : Int32} {x2 : Int32} {x3 : Int32} {s0 : Int32}
    (h1 : s0 = 0 → Q (some (.int (-1000000))) (mkH hi hl sw kp))
    (h2 : ¬ (s0 = 0) → cS d 210 [(.ref 279), (.int x2)] (mkH hi hl sw kp) (am_ret (cW cd_271 d Q) 13 [some (.ref 279), some (.int x1), some (.int x2), some (.int x3), none, none] []))
    : cW cd_271 d Q 5 [some (.ref 279), some (.int x1), some (.int x2), some (.int x3), none, none] [(.int s0)] (mkH hi hl sw kp) :=
  cW.run (am_in [5, 13, 26, 31]) 4 (And.intro (fun c1 => (cQ.of (h1 c1))) (fun c2 => (cC.of (h2 c2))))
set_option maxRecDepth 100000 in
theorem k_271_13 {x1 : Int32} {x2 : Int32} {x3 : Int32} {s0 : Int32}
    (h1 : s0 = 0 → Q (some (.int (-1000000))) (mkH hi hl sw kp))
    (h2 : ¬ (s0 = 0) → cS d 269 [(.ref 279), (.int x1), (.int x3)] (mkH hi hl sw kp) (am_ret (cW cd_271 d Q) 26 [some (.ref 279), some (.int x1), some (.int x2), some (.int x3), none, none] []))
    : cW cd_271 d Q 13 [some (.ref 279), some (.int x1), some (.int x2), some (.int x3), none, none] [(.int s0)] (mkH hi hl sw kp) :=
  cW.run (am_in [5, 13, 26, 31]) 5 (And.intro (fun c1 => (cQ.of (h1 c1))) (fun c2 => (cC.of (h2 c2))))
set_option maxRecDepth 100000 in
theorem k_271_26 {x1 : Int32} {x2 : Int32} {x3 : Int32} {s0 : Int32}
    (h1 : cW cd_271 d Q 31 [some (.ref 279), some (.int x1), some (.int x2), some (.int x3), some (.int s0), some (.int (0))] [] (mkH hi hl sw kp))
    : cW cd_271 d Q 26 [some (.ref 279), some (.int x1), some (.int x2), some (.int x3), none, none] [(.int s0)] (mkH hi hl sw kp) :=
  cW.run (am_in [5, 13, 26, 31]) 3 (And.intro (Nat.le_of_ble_eq_true rfl) (And.intro (Nat.le_of_ble_eq_true rfl) (h1)))
set_option maxRecDepth 100000 in
theorem k_271_31 {x1 : Int32} {x2 : Int32} {x3 : Int32} {x4 : Int32} {x5 : Int32}
    (h1 : (7) ≤ x5 → Q (some (.int (-1000000))) (mkH hi hl sw kp))
    (h2 : ¬ ((7) ≤ x5) → x4 ≤ 0 → cW cd_271 d Q 31 [some (.ref 279), some (.int x1), some (.int x2), some (.int x3), some (.int x4), some (.int (x5 + (1)))] [] (mkH hi hl sw kp))
    (h3 : ¬ ((7) ≤ x5) → ¬ (x4 ≤ 0) → vp_in (((7) * x2) + x5) 28)
    (h4 : ¬ ((7) ≤ x5) → ¬ (x4 ≤ 0) → (hi 320 (((7) * x2) + x5).toNatClampNeg) = x4 → Q (some (.int (x5 - (3)))) (mkH hi hl sw kp))
    (h5 : ¬ ((7) ≤ x5) → ¬ (x4 ≤ 0) → ¬ ((hi 320 (((7) * x2) + x5).toNatClampNeg) = x4) → cW cd_271 d Q 31 [some (.ref 279), some (.int x1), some (.int x2), some (.int x3), some (.int x4), some (.int (x5 + (1)))] [] (mkH hi hl sw kp))
    : cW cd_271 d Q 31 [some (.ref 279), some (.int x1), some (.int x2), some (.int x3), some (.int x4), some (.int x5)] [] (mkH hi hl sw kp) :=
  cW.run (am_in [5, 13, 26, 31]) 19 (And.intro (fun c1 => (cQ.of (h1 c1))) (fun c2 => (And.intro (fun c3 => (And.intro (Nat.le_of_ble_eq_true rfl) (h2 c2 c3))) (fun c4 => (And.intro (h3 c2 c4) (And.intro (fun c5 => (cQ.of (h4 c2 c4 c5))) (fun c6 => (And.intro (Nat.le_of_ble_eq_true rfl) (h5 c2 c4 c6)))))))))
-- 272: DogDecreesModel.mostOf(I)I
set_option maxRecDepth 100000 in
theorem k_272_0 {x1 : Int32}
    (h1 : cW cd_272 d Q 4 [some (.ref 279), some (.int x1), some (.int (0)), some (.int (0))] [] (mkH hi hl sw kp))
    : cW cd_272 d Q 0 [some (.ref 279), some (.int x1), none, none] [] (mkH hi hl sw kp) :=
  cW.run (am_in [4]) 4 (And.intro (Nat.le_of_ble_eq_true rfl) (And.intro (Nat.le_of_ble_eq_true rfl) (h1)))
theorem e_272 {x1 : Int32}
    (h1 : cW cd_272 d Q 4 [some (.ref 279), some (.int x1), some (.int (0)), some (.int (0))] [] (mkH hi hl sw kp))
    : cS (d + 1) 272 [(.ref 279), (.int x1)] (mkH hi hl sw kp) Q := cS.of rfl (k_272_0 h1)
set_option maxRecDepth 100000 in
theorem k_272_4 {x1 : Int32} {x2 : Int32} {x3 : Int32}
    (h1 : (7) ≤ x3 → Q (some (.int x2)) (mkH hi hl sw kp))
    (h2 : ¬ ((7) ≤ x3) → vp_in (((7) * x1) + x3) 28)
    (h3 : ¬ ((7) ≤ x3) → (hi 320 (((7) * x1) + x3).toNatClampNeg) ≤ x2 → cW cd_272 d Q 4 [some (.ref 279), some (.int x1), some (.int x2), some (.int (x3 + (1)))] [] (mkH hi hl sw kp))
    (h4 : ¬ ((7) ≤ x3) → ¬ ((hi 320 (((7) * x1) + x3).toNatClampNeg) ≤ x2) → vp_in (((7) * x1) + x3) 28)
    (h5 : ¬ ((7) ≤ x3) → ¬ ((hi 320 (((7) * x1) + x3).toNatClampNeg) ≤ x2) → cW cd_272 d Q 4 [some (.ref 279), some (.int x1), some (.int (hi 320 (((7) * x1) + x3).toNatClampNeg)), some (.int (x3 + (1)))] [] (mkH hi hl sw kp))
    : cW cd_272 d Q 4 [some (.ref 279), some (.int x1), some (.int x2), some (.int x3)] [] (mkH hi hl sw kp) :=
  cW.run (am_in [4]) 25 (And.intro (fun c1 => (cQ.of (h1 c1))) (fun c2 => (And.intro (h2 c2) (And.intro (fun c3 => (And.intro (Nat.le_of_ble_eq_true rfl) (And.intro (Nat.le_of_ble_eq_true rfl) (h3 c2 c3)))) (fun c4 => (And.intro (h4 c2 c4) (And.intro (Nat.le_of_ble_eq_true rfl) (And.intro (Nat.le_of_ble_eq_true rfl) (h5 c2 c4)))))))))
-- 273: DogDecreesModel.ask(III)I
set_option maxRecDepth 100000 in
theorem k_273_0 {x1 : Int32} {x2 : Int32} {x3 : Int32}
    (h1 : cS d 209 [(.ref 279), (.int x1)] (mkH hi hl sw kp) (am_ret (cW cd_273 d Q) 5 [some (.ref 279), some (.int x1), some (.int x2), some (.int x3), none, none] []))
    : cW cd_273 d Q 0 [some (.ref 279), some (.int x1), some (.int x2), some (.int x3), none, none] [] (mkH hi hl sw kp) :=
  cW.run (am_in [5, 21, 32, 43, 58, 64, 97]) 3 (cC.of (h1))
theorem e_273 {x1 : Int32} {x2 : Int32} {x3 : Int32}
    (h1 : cS d 209 [(.ref 279), (.int x1)] (mkH hi hl sw kp) (am_ret (cW cd_273 d Q) 5 [some (.ref 279), some (.int x1), some (.int x2), some (.int x3), none, none] []))
    : cS (d + 1) 273 [(.ref 279), (.int x1), (.int x2), (.int x3)] (mkH hi hl sw kp) Q := cS.of rfl (k_273_0 h1)
set_option maxRecDepth 100000 in
theorem k_273_5 {x1 : Int32} {x2 : Int32} {x3 : Int32} {s0 : Int32}
    (h1 : s0 = 0 → Q (some (.int (-1))) (mkH hi hl sw kp))
    (h2 : ¬ (s0 = 0) → (hi 279 45) = 0 → Q (some (.int (-1))) (mkH hi hl sw kp))
    (h3 : ¬ (s0 = 0) → ¬ ((hi 279 45) = 0) → cS d 207 [(.int x2), (.int (0)), (.int (1))] (mkH hi hl sw kp) (am_ret (cW cd_273 d Q) 21 [some (.ref 279), some (.int x1), some (.int x2), some (.int x3), none, none] []))
    : cW cd_273 d Q 5 [some (.ref 279), some (.int x1), some (.int x2), some (.int x3), none, none] [(.int s0)] (mkH hi hl sw kp) :=
  cW.run (am_in [5, 21, 32, 43, 58, 64, 97]) 8 (And.intro (fun c1 => (cQ.of (h1 c1))) (fun c2 => (And.intro (fun c3 => (cQ.of (h2 c2 c3))) (fun c4 => (cC.of (h3 c2 c4))))))
set_option maxRecDepth 100000 in
theorem k_273_21 {x1 : Int32} {x2 : Int32} {x3 : Int32} {s0 : Int32}
    (h1 : s0 = 0 → Q (some (.int (-1))) (mkH hi hl sw kp))
    (h2 : ¬ (s0 = 0) → cS d 269 [(.ref 279), (.int x1), (.int x3)] (mkH hi hl sw kp) (am_ret (cW cd_273 d Q) 32 [some (.ref 279), some (.int x1), some (.int x2), some (.int x3), none, none] []))
    : cW cd_273 d Q 21 [some (.ref 279), some (.int x1), some (.int x2), some (.int x3), none, none] [(.int s0)] (mkH hi hl sw kp) :=
  cW.run (am_in [5, 21, 32, 43, 58, 64, 97]) 5 (And.intro (fun c1 => (cQ.of (h1 c1))) (fun c2 => (cC.of (h2 c2))))
set_option maxRecDepth 100000 in
theorem k_273_32 {x1 : Int32} {x2 : Int32} {x3 : Int32} {s0 : Int32}
    (h1 : s0 = 0 → Q (some (.int (-1))) (mkH hi hl sw kp))
    (h2 : ¬ (s0 = 0) → cW cd_273 d Q 43 [some (.ref 279), some (.int x1), some (.int x2), some (.int x3), some (.int (0)), some (.int (1))] [] (mkH hi hl sw kp))
    : cW cd_273 d Q 32 [some (.ref 279), some (.int x1), some (.int x2), some (.int x3), none, none] [(.int s0)] (mkH hi hl sw kp) :=
  cW.run (am_in [5, 21, 32, 43, 58, 64, 97]) 5 (And.intro (fun c1 => (cQ.of (h1 c1))) (fun c2 => (And.intro (Nat.le_of_ble_eq_true rfl) (And.intro (Nat.le_of_ble_eq_true rfl) (h2 c2)))))
set_option maxRecDepth 100000 in
theorem k_273_43 {x1 : Int32} {x2 : Int32} {x3 : Int32} {x4 : Int32} {x5 : Int32}
    (h1 : (hi 279 45) ≤ x5 → x2 = 0 → cW cd_273 d Q 97 [some (.ref 279), some (.int x1), some (.int x2), some (.int x3), some (.int x4), some (.int x5)] [(.int x4)] (mkH hi hl sw kp))
    (h2 : (hi 279 45) ≤ x5 → ¬ (x2 = 0) → cS d 272 [(.ref 279), (.int x4)] (mkH hi hl sw kp) (am_ret (cW cd_273 d Q) 97 [some (.ref 279), some (.int x1), some (.int x2), some (.int x3), some (.int x4), some (.int x5)] []))
    (h3 : ¬ ((hi 279 45) ≤ x5) → cS d 272 [(.ref 279), (.int x5)] (mkH hi hl sw kp) (am_ret (cW cd_273 d Q) 58 [some (.ref 279), some (.int x1), some (.int x2), some (.int x3), some (.int x4), some (.int x5)] []))
    : cW cd_273 d Q 43 [some (.ref 279), some (.int x1), some (.int x2), some (.int x3), some (.int x4), some (.int x5)] [] (mkH hi hl sw kp) :=
  cW.run (am_in [5, 21, 32, 43, 58, 64, 97]) 9 (And.intro (fun c1 => (And.intro (fun c2 => (h1 c1 c2)) (fun c3 => (cC.of (h2 c1 c3))))) (fun c4 => (cC.of (h3 c4))))
set_option maxRecDepth 100000 in
theorem k_273_58 {x1 : Int32} {x2 : Int32} {x3 : Int32} {x4 : Int32} {x5 : Int32} {s0 : Int32}
    (h1 : cS d 272 [(.ref 279), (.int x4)] (mkH hi hl sw kp) (am_ret (cW cd_273 d Q) 64 [some (.ref 279), some (.int x1), some (.int x2), some (.int x3), some (.int x4), some (.int x5)] [(.int s0)]))
    : cW cd_273 d Q 58 [some (.ref 279), some (.int x1), some (.int x2), some (.int x3), some (.int x4), some (.int x5)] [(.int s0)] (mkH hi hl sw kp) :=
  cW.run (am_in [5, 21, 32, 43, 58, 64, 97]) 3 (cC.of (h1))
set_option maxRecDepth 100000 in
theorem k_273_64 {x1 : Int32} {x2 : Int32} {x3 : Int32} {x4 : Int32} {x5 : Int32} {s0 : Int32} {s1 : Int32}
    (h1 : s1 ≤ s0 → cW cd_273 d Q 43 [some (.ref 279), some (.int x1), some (.int x2), some (.int x3), some (.int x4), some (.int (x5 + (1)))] [] (mkH hi hl sw kp))
    (h2 : ¬ (s1 ≤ s0) → cW cd_273 d Q 43 [some (.ref 279), some (.int x1), some (.int x2), some (.int x3), some (.int x5), some (.int (x5 + (1)))] [] (mkH hi hl sw kp))
    : cW cd_273 d Q 64 [some (.ref 279), some (.int x1), some (.int x2), some (.int x3), some (.int x4), some (.int x5)] [(.int s1), (.int s0)] (mkH hi hl sw kp) :=
  cW.run (am_in [5, 21, 32, 43, 58, 64, 97]) 6 (And.intro (fun c1 => (And.intro (Nat.le_of_ble_eq_true rfl) (And.intro (Nat.le_of_ble_eq_true rfl) (h1 c1)))) (fun c2 => (And.intro (Nat.le_of_ble_eq_true rfl) (And.intro (Nat.le_of_ble_eq_true rfl) (h2 c2)))))
set_option maxRecDepth 100000 in
theorem k_273_97 {x1 : Int32} {x2 : Int32} {x3 : Int32} {x4 : Int32} {x5 : Int32} {s0 : Int32}
    (h1 : Q (some (.int s0)) (mkH hi hl sw kp))
    : cW cd_273 d Q 97 [some (.ref 279), some (.int x1), some (.int x2), some (.int x3), some (.int x4), some (.int x5)] [(.int s0)] (mkH hi hl sw kp) :=
  cW.run (am_in [5, 21, 32, 43, 58, 64, 97]) 1 (cQ.of (h1))
-- 274: DogDecreesModel.isBox(I)Z
set_option maxRecDepth 100000 in
theorem k_274_0 {x0 : Int32}
    (h1 : x0 < 0 → Q (some (.int (0))) (mkH hi hl sw kp))
    (h2 : ¬ (x0 < 0) → (3) ≤ x0 → Q (some (.int (0))) (mkH hi hl sw kp))
    (h3 : ¬ (x0 < 0) → ¬ ((3) ≤ x0) → Q (some (.int (1))) (mkH hi hl sw kp))
    : cW cd_274 d Q 0 [some (.int x0)] [] (mkH hi hl sw kp) :=
  cW.run (am_in []) 8 (And.intro (fun c1 => (And.intro (Or.inl rfl) (cQ.of (h1 c1)))) (fun c2 => (And.intro (fun c3 => (And.intro (Or.inl rfl) (cQ.of (h2 c2 c3)))) (fun c4 => (And.intro (Or.inr rfl) (cQ.of (h3 c2 c4)))))))
theorem e_274 {x0 : Int32}
    (h1 : x0 < 0 → Q (some (.int (0))) (mkH hi hl sw kp))
    (h2 : ¬ (x0 < 0) → (3) ≤ x0 → Q (some (.int (0))) (mkH hi hl sw kp))
    (h3 : ¬ (x0 < 0) → ¬ ((3) ≤ x0) → Q (some (.int (1))) (mkH hi hl sw kp))
    : cS (d + 1) 274 [(.int x0)] (mkH hi hl sw kp) Q := cS.of rfl (k_274_0 h1 h2 h3)
-- 275: DogDecreesModel.image(I)I
set_option maxRecDepth 100000 in
theorem k_275_0 {x1 : Int32}
    (h1 : cS d 274 [(.int x1)] (mkH hi hl sw kp) (am_ret (cW cd_275 d Q) 4 [some (.ref 279), some (.int x1), none] []))
    : cW cd_275 d Q 0 [some (.ref 279), some (.int x1), none] [] (mkH hi hl sw kp) :=
  cW.run (am_in [4, 18]) 2 (cC.of (h1))
theorem e_275 {x1 : Int32}
    (h1 : cS d 274 [(.int x1)] (mkH hi hl sw kp) (am_ret (cW cd_275 d Q) 4 [some (.ref 279), some (.int x1), none] []))
    : cS (d + 1) 275 [(.ref 279), (.int x1)] (mkH hi hl sw kp) Q := cS.of rfl (k_275_0 h1)
set_option maxRecDepth 100000 in
theorem k_275_4 {x1 : Int32} {s0 : Int32}
    (h1 : s0 = 0 → Q (some (.int (-1))) (mkH hi hl sw kp))
    (h2 : ¬ (s0 = 0) → vp_in x1 3)
    (h3 : ¬ (s0 = 0) → cW cd_275 d Q 18 [some (.ref 279), some (.int x1), some (.int (0))] [] (mkH (u2 hi 322 x1.toNatClampNeg (vp_nar .boolean (1))) hl sw kp))
    : cW cd_275 d Q 4 [some (.ref 279), some (.int x1), none] [(.int s0)] (mkH hi hl sw kp) :=
  cW.run (am_in [4, 18]) 8 (And.intro (fun c1 => (cQ.of (h1 c1))) (fun c2 => (And.intro (h2 c2) (And.intro (Nat.le_of_ble_eq_true rfl) (h3 c2)))))
set_option maxRecDepth 100000 in
theorem k_275_18 {x1 : Int32} {x2 : Int32}
    (h1 : (81) ≤ x2 → Q (some (.int (hi 299 17))) (mkH hi hl sw kp))
    (h2 : ¬ ((81) ≤ x2) → vp_in x2 82)
    (h3 : ¬ ((81) ≤ x2) → vp_in (((82) * x1) + x2) 246)
    (h4 : ¬ ((81) ≤ x2) → cW cd_275 d Q 18 [some (.ref 279), some (.int x1), some (.int (x2 + (1)))] [] (mkH (u2 hi 323 (((82) * x1) + x2).toNatClampNeg (hi 299 x2.toNatClampNeg)) hl sw kp))
    : cW cd_275 d Q 18 [some (.ref 279), some (.int x1), some (.int x2)] [] (mkH hi hl sw kp) :=
  cW.run (am_in [4, 18]) 17 (And.intro (fun c1 => (And.intro (show vp_in 17 82 from vin_l (by decide +kernel)) (cQ.of (h1 c1)))) (fun c2 => (And.intro (h2 c2) (And.intro (h3 c2) (And.intro (Nat.le_of_ble_eq_true rfl) (h4 c2))))))
-- 276: DogDecreesModel.back(I)I
set_option maxRecDepth 100000 in
theorem k_276_0 {x1 : Int32}
    (h1 : cS d 274 [(.int x1)] (mkH hi hl sw kp) (am_ret (cW cd_276 d Q) 4 [some (.ref 279), some (.int x1), none] []))
    : cW cd_276 d Q 0 [some (.ref 279), some (.int x1), none] [] (mkH hi hl sw kp) :=
  cW.run (am_in [4, 20]) 2 (cC.of (h1))
theorem e_276 {x1 : Int32}
    (h1 : cS d 274 [(.int x1)] (mkH hi hl sw kp) (am_ret (cW cd_276 d Q) 4 [some (.ref 279), some (.int x1), none] []))
    : cS (d + 1) 276 [(.ref 279), (.int x1)] (mkH hi hl sw kp) Q := cS.of rfl (k_276_0 h1)
set_option maxRecDepth 100000 in
theorem k_276_4 {x1 : Int32} {s0 : Int32}
    (h1 : s0 = 0 → Q (some (.int (-1))) (mkH hi hl sw kp))
    (h2 : ¬ (s0 = 0) → vp_in x1 3)
    (h3 : ¬ (s0 = 0) → (hi 322 x1.toNatClampNeg) = 0 → Q (some (.int (-1))) (mkH hi hl sw kp))
    (h4 : ¬ (s0 = 0) → ¬ ((hi 322 x1.toNatClampNeg) = 0) → cW cd_276 d Q 20 [some (.ref 279), some (.int x1), some (.int (0))] [] (mkH hi hl sw kp))
    : cW cd_276 d Q 4 [some (.ref 279), some (.int x1), none] [(.int s0)] (mkH hi hl sw kp) :=
  cW.run (am_in [4, 20]) 8 (And.intro (fun c1 => (cQ.of (h1 c1))) (fun c2 => (And.intro (h2 c2) (And.intro (fun c3 => (cQ.of (h3 c2 c3))) (fun c4 => (And.intro (Nat.le_of_ble_eq_true rfl) (h4 c2 c4)))))))
set_option maxRecDepth 100000 in
theorem k_276_20 {x1 : Int32} {x2 : Int32}
    (h1 : (81) ≤ x2 → Q (some (.int (hi 299 17))) (mkH (u2 (u2 hi 279 66 (0)) 279 67 (0)) hl sw kp))
    (h2 : ¬ ((81) ≤ x2) → vp_in (((82) * x1) + x2) 246)
    (h3 : ¬ ((81) ≤ x2) → vp_in x2 82)
    (h4 : ¬ ((81) ≤ x2) → cW cd_276 d Q 20 [some (.ref 279), some (.int x1), some (.int (x2 + (1)))] [] (mkH (u2 hi 299 x2.toNatClampNeg (hi 323 (((82) * x1) + x2).toNatClampNeg)) hl sw kp))
    : cW cd_276 d Q 20 [some (.ref 279), some (.int x1), some (.int x2)] [] (mkH hi hl sw kp) :=
  cW.run (am_in [4, 20]) 17 (And.intro (fun c1 => (And.intro (show vp_in 17 82 from vin_l (by decide +kernel)) (cQ.of (h1 c1)))) (fun c2 => (And.intro (h2 c2) (And.intro (h3 c2) (And.intro (Nat.le_of_ble_eq_true rfl) (h4 c2))))))
-- 277: DogDecreesModel.allBones()I
set_option maxRecDepth 100000 in
theorem k_277_0
    (h1 : cW cd_277 d Q 4 [some (.ref 279), some (.int (0)), some (.int (0))] [] (mkH hi hl sw kp))
    : cW cd_277 d Q 0 [some (.ref 279), none, none] [] (mkH hi hl sw kp) :=
  cW.run (am_in [4]) 4 (And.intro (Nat.le_of_ble_eq_true rfl) (And.intro (Nat.le_of_ble_eq_true rfl) (h1)))
theorem e_277
    (h1 : cW cd_277 d Q 4 [some (.ref 279), some (.int (0)), some (.int (0))] [] (mkH hi hl sw kp))
    : cS (d + 1) 277 [(.ref 279)] (mkH hi hl sw kp) Q := cS.of rfl (k_277_0 h1)
set_option maxRecDepth 100000 in
theorem k_277_4 {x1 : Int32} {x2 : Int32}
    (h1 : (8) ≤ x2 → Q (some (.int x1)) (mkH hi hl sw kp))
    (h2 : ¬ ((8) ≤ x2) → vp_in ((0) + x2) 82)
    (h3 : ¬ ((8) ≤ x2) → cW cd_277 d Q 4 [some (.ref 279), some (.int (x1 + (hi 299 ((0) + x2).toNatClampNeg))), some (.int (x2 + (1)))] [] (mkH hi hl sw kp))
    : cW cd_277 d Q 4 [some (.ref 279), some (.int x1), some (.int x2)] [] (mkH hi hl sw kp) :=
  cW.run (am_in [4]) 14 (And.intro (fun c1 => (cQ.of (h1 c1))) (fun c2 => (And.intro (h2 c2) (And.intro (Nat.le_of_ble_eq_true rfl) (And.intro (Nat.le_of_ble_eq_true rfl) (h3 c2))))))
-- 278: DogDecreesModel.about(I)I
set_option maxRecDepth 100000 in
theorem k_278_0 {x1 : Int32}
    (h1 : x1 = 0 → Q (some (.int (hi 279 46))) (mkH hi hl sw kp))
    (h2 : ¬ x1 = 0 → x1 = 1 → Q (some (.int (hi 279 45))) (mkH hi hl sw kp))
    (h3 : ¬ x1 = 0 → ¬ x1 = 1 → x1 = 2 → Q (some (.int (hi 279 48))) (mkH hi hl sw kp))
    (h4 : ¬ x1 = 0 → ¬ x1 = 1 → ¬ x1 = 2 → x1 = 3 → Q (some (.int (hi 279 47))) (mkH hi hl sw kp))
    (h5 : ¬ x1 = 0 → ¬ x1 = 1 → ¬ x1 = 2 → ¬ x1 = 3 → x1 = 4 → Q (some (.int (hi 299 16))) (mkH hi hl sw kp))
    (h6 : ¬ x1 = 0 → ¬ x1 = 1 → ¬ x1 = 2 → ¬ x1 = 3 → ¬ x1 = 4 → x1 = 5 → ¬ (hi 279 50) = 0)
    (h7 : ¬ x1 = 0 → ¬ x1 = 1 → ¬ x1 = 2 → ¬ x1 = 3 → ¬ x1 = 4 → x1 = 5 → Q (some (.int ((hi 299 17) - (hi 299 17) / (hi 279 50) * (hi 279 50)))) (mkH hi hl sw kp))
    (h8 : ¬ x1 = 0 → ¬ x1 = 1 → ¬ x1 = 2 → ¬ x1 = 3 → ¬ x1 = 4 → ¬ x1 = 5 → x1 = 6 → Q (some (.int (hi 299 17))) (mkH hi hl sw kp))
    (h9 : ¬ x1 = 0 → ¬ x1 = 1 → ¬ x1 = 2 → ¬ x1 = 3 → ¬ x1 = 4 → ¬ x1 = 5 → ¬ x1 = 6 → x1 = 7 → Q (some (.int (hi 299 18))) (mkH hi hl sw kp))
    (h10 : ¬ x1 = 0 → ¬ x1 = 1 → ¬ x1 = 2 → ¬ x1 = 3 → ¬ x1 = 4 → ¬ x1 = 5 → ¬ x1 = 6 → ¬ x1 = 7 → x1 = 8 → Q (some (.int (hi 299 19))) (mkH hi hl sw kp))
    (h11 : ¬ x1 = 0 → ¬ x1 = 1 → ¬ x1 = 2 → ¬ x1 = 3 → ¬ x1 = 4 → ¬ x1 = 5 → ¬ x1 = 6 → ¬ x1 = 7 → ¬ x1 = 8 → x1 = 9 → cS d 277 [(.ref 279)] (mkH hi hl sw kp) (am_ret (cW cd_278 d Q) 157 [some (.ref 279), some (.int x1)] []))
    (h12 : ¬ x1 = 0 → ¬ x1 = 1 → ¬ x1 = 2 → ¬ x1 = 3 → ¬ x1 = 4 → ¬ x1 = 5 → ¬ x1 = 6 → ¬ x1 = 7 → ¬ x1 = 8 → ¬ x1 = 9 → x1 = 10 → Q (some (.int (hi 279 66))) (mkH hi hl sw kp))
    (h13 : ¬ x1 = 0 → ¬ x1 = 1 → ¬ x1 = 2 → ¬ x1 = 3 → ¬ x1 = 4 → ¬ x1 = 5 → ¬ x1 = 6 → ¬ x1 = 7 → ¬ x1 = 8 → ¬ x1 = 9 → ¬ x1 = 10 → x1 = 11 → Q (some (.int (hi 279 67))) (mkH hi hl sw kp))
    (h14 : ¬ x1 = 0 → ¬ x1 = 1 → ¬ x1 = 2 → ¬ x1 = 3 → ¬ x1 = 4 → ¬ x1 = 5 → ¬ x1 = 6 → ¬ x1 = 7 → ¬ x1 = 8 → ¬ x1 = 9 → ¬ x1 = 10 → ¬ x1 = 11 → x1 = 12 → Q (some (.int (hi 279 86))) (mkH hi hl sw kp))
    (h15 : ¬ x1 = 0 → ¬ x1 = 1 → ¬ x1 = 2 → ¬ x1 = 3 → ¬ x1 = 4 → ¬ x1 = 5 → ¬ x1 = 6 → ¬ x1 = 7 → ¬ x1 = 8 → ¬ x1 = 9 → ¬ x1 = 10 → ¬ x1 = 11 → ¬ x1 = 12 → x1 = 13 → Q (some (.int (hi 279 87))) (mkH hi hl sw kp))
    (h16 : ¬ x1 = 0 → ¬ x1 = 1 → ¬ x1 = 2 → ¬ x1 = 3 → ¬ x1 = 4 → ¬ x1 = 5 → ¬ x1 = 6 → ¬ x1 = 7 → ¬ x1 = 8 → ¬ x1 = 9 → ¬ x1 = 10 → ¬ x1 = 11 → ¬ x1 = 12 → ¬ x1 = 13 → x1 = 14 → Q (some (.int (hi 279 1))) (mkH hi hl sw kp))
    (h17 : ¬ x1 = 0 → ¬ x1 = 1 → ¬ x1 = 2 → ¬ x1 = 3 → ¬ x1 = 4 → ¬ x1 = 5 → ¬ x1 = 6 → ¬ x1 = 7 → ¬ x1 = 8 → ¬ x1 = 9 → ¬ x1 = 10 → ¬ x1 = 11 → ¬ x1 = 12 → ¬ x1 = 13 → ¬ x1 = 14 → x1 = 15 → Q (some (.int (hi 279 21))) (mkH hi hl sw kp))
    (h18 : ¬ x1 = 0 → ¬ x1 = 1 → ¬ x1 = 2 → ¬ x1 = 3 → ¬ x1 = 4 → ¬ x1 = 5 → ¬ x1 = 6 → ¬ x1 = 7 → ¬ x1 = 8 → ¬ x1 = 9 → ¬ x1 = 10 → ¬ x1 = 11 → ¬ x1 = 12 → ¬ x1 = 13 → ¬ x1 = 14 → ¬ x1 = 15 → x1 = 16 → Q (some (.int (hi 279 75))) (mkH hi hl sw kp))
    (h19 : ¬ x1 = 0 → ¬ x1 = 1 → ¬ x1 = 2 → ¬ x1 = 3 → ¬ x1 = 4 → ¬ x1 = 5 → ¬ x1 = 6 → ¬ x1 = 7 → ¬ x1 = 8 → ¬ x1 = 9 → ¬ x1 = 10 → ¬ x1 = 11 → ¬ x1 = 12 → ¬ x1 = 13 → ¬ x1 = 14 → ¬ x1 = 15 → ¬ x1 = 16 → x1 = 17 → Q (some (.int (hi 279 50))) (mkH hi hl sw kp))
    (h20 : ¬ x1 = 0 → ¬ x1 = 1 → ¬ x1 = 2 → ¬ x1 = 3 → ¬ x1 = 4 → ¬ x1 = 5 → ¬ x1 = 6 → ¬ x1 = 7 → ¬ x1 = 8 → ¬ x1 = 9 → ¬ x1 = 10 → ¬ x1 = 11 → ¬ x1 = 12 → ¬ x1 = 13 → ¬ x1 = 14 → ¬ x1 = 15 → ¬ x1 = 16 → ¬ x1 = 17 → Q (some (.int (-1))) (mkH hi hl sw kp))
    : cW cd_278 d Q 0 [some (.ref 279), some (.int x1)] [] (mkH hi hl sw kp) :=
  cW.run (am_in [157]) 10 (And.intro (fun c1 => (cQ.of (h1 c1))) (fun c2 => (And.intro (fun c3 => (cQ.of (h2 c2 c3))) (fun c4 => (And.intro (fun c5 => (cQ.of (h3 c2 c4 c5))) (fun c6 => (And.intro (fun c7 => (cQ.of (h4 c2 c4 c6 c7))) (fun c8 => (And.intro (fun c9 => (And.intro (show vp_in 16 82 from vin_l (by decide +kernel)) (cQ.of (h5 c2 c4 c6 c8 c9)))) (fun c10 => (And.intro (fun c11 => (And.intro (show vp_in 17 82 from vin_l (by decide +kernel)) (And.intro (h6 c2 c4 c6 c8 c10 c11) (cQ.of (h7 c2 c4 c6 c8 c10 c11))))) (fun c12 => (And.intro (fun c13 => (And.intro (show vp_in 17 82 from vin_l (by decide +kernel)) (cQ.of (h8 c2 c4 c6 c8 c10 c12 c13)))) (fun c14 => (And.intro (fun c15 => (And.intro (show vp_in 18 82 from vin_l (by decide +kernel)) (cQ.of (h9 c2 c4 c6 c8 c10 c12 c14 c15)))) (fun c16 => (And.intro (fun c17 => (And.intro (show vp_in 19 82 from vin_l (by decide +kernel)) (cQ.of (h10 c2 c4 c6 c8 c10 c12 c14 c16 c17)))) (fun c18 => (And.intro (fun c19 => (cC.of (h11 c2 c4 c6 c8 c10 c12 c14 c16 c18 c19))) (fun c20 => (And.intro (fun c21 => (cQ.of (h12 c2 c4 c6 c8 c10 c12 c14 c16 c18 c20 c21))) (fun c22 => (And.intro (fun c23 => (cQ.of (h13 c2 c4 c6 c8 c10 c12 c14 c16 c18 c20 c22 c23))) (fun c24 => (And.intro (fun c25 => (cQ.of (h14 c2 c4 c6 c8 c10 c12 c14 c16 c18 c20 c22 c24 c25))) (fun c26 => (And.intro (fun c27 => (cQ.of (h15 c2 c4 c6 c8 c10 c12 c14 c16 c18 c20 c22 c24 c26 c27))) (fun c28 => (And.intro (fun c29 => (cQ.of (h16 c2 c4 c6 c8 c10 c12 c14 c16 c18 c20 c22 c24 c26 c28 c29))) (fun c30 => (And.intro (fun c31 => (cQ.of (h17 c2 c4 c6 c8 c10 c12 c14 c16 c18 c20 c22 c24 c26 c28 c30 c31))) (fun c32 => (And.intro (fun c33 => (cQ.of (h18 c2 c4 c6 c8 c10 c12 c14 c16 c18 c20 c22 c24 c26 c28 c30 c32 c33))) (fun c34 => (And.intro (fun c35 => (cQ.of (h19 c2 c4 c6 c8 c10 c12 c14 c16 c18 c20 c22 c24 c26 c28 c30 c32 c34 c35))) (fun c36 => (cQ.of (h20 c2 c4 c6 c8 c10 c12 c14 c16 c18 c20 c22 c24 c26 c28 c30 c32 c34 c36))))))))))))))))))))))))))))))))))))))
theorem e_278 {x1 : Int32}
    (h1 : x1 = 0 → Q (some (.int (hi 279 46))) (mkH hi hl sw kp))
    (h2 : ¬ x1 = 0 → x1 = 1 → Q (some (.int (hi 279 45))) (mkH hi hl sw kp))
    (h3 : ¬ x1 = 0 → ¬ x1 = 1 → x1 = 2 → Q (some (.int (hi 279 48))) (mkH hi hl sw kp))
    (h4 : ¬ x1 = 0 → ¬ x1 = 1 → ¬ x1 = 2 → x1 = 3 → Q (some (.int (hi 279 47))) (mkH hi hl sw kp))
    (h5 : ¬ x1 = 0 → ¬ x1 = 1 → ¬ x1 = 2 → ¬ x1 = 3 → x1 = 4 → Q (some (.int (hi 299 16))) (mkH hi hl sw kp))
    (h6 : ¬ x1 = 0 → ¬ x1 = 1 → ¬ x1 = 2 → ¬ x1 = 3 → ¬ x1 = 4 → x1 = 5 → ¬ (hi 279 50) = 0)
    (h7 : ¬ x1 = 0 → ¬ x1 = 1 → ¬ x1 = 2 → ¬ x1 = 3 → ¬ x1 = 4 → x1 = 5 → Q (some (.int ((hi 299 17) - (hi 299 17) / (hi 279 50) * (hi 279 50)))) (mkH hi hl sw kp))
    (h8 : ¬ x1 = 0 → ¬ x1 = 1 → ¬ x1 = 2 → ¬ x1 = 3 → ¬ x1 = 4 → ¬ x1 = 5 → x1 = 6 → Q (some (.int (hi 299 17))) (mkH hi hl sw kp))
    (h9 : ¬ x1 = 0 → ¬ x1 = 1 → ¬ x1 = 2 → ¬ x1 = 3 → ¬ x1 = 4 → ¬ x1 = 5 → ¬ x1 = 6 → x1 = 7 → Q (some (.int (hi 299 18))) (mkH hi hl sw kp))
    (h10 : ¬ x1 = 0 → ¬ x1 = 1 → ¬ x1 = 2 → ¬ x1 = 3 → ¬ x1 = 4 → ¬ x1 = 5 → ¬ x1 = 6 → ¬ x1 = 7 → x1 = 8 → Q (some (.int (hi 299 19))) (mkH hi hl sw kp))
    (h11 : ¬ x1 = 0 → ¬ x1 = 1 → ¬ x1 = 2 → ¬ x1 = 3 → ¬ x1 = 4 → ¬ x1 = 5 → ¬ x1 = 6 → ¬ x1 = 7 → ¬ x1 = 8 → x1 = 9 → cS d 277 [(.ref 279)] (mkH hi hl sw kp) (am_ret (cW cd_278 d Q) 157 [some (.ref 279), some (.int x1)] []))
    (h12 : ¬ x1 = 0 → ¬ x1 = 1 → ¬ x1 = 2 → ¬ x1 = 3 → ¬ x1 = 4 → ¬ x1 = 5 → ¬ x1 = 6 → ¬ x1 = 7 → ¬ x1 = 8 → ¬ x1 = 9 → x1 = 10 → Q (some (.int (hi 279 66))) (mkH hi hl sw kp))
    (h13 : ¬ x1 = 0 → ¬ x1 = 1 → ¬ x1 = 2 → ¬ x1 = 3 → ¬ x1 = 4 → ¬ x1 = 5 → ¬ x1 = 6 → ¬ x1 = 7 → ¬ x1 = 8 → ¬ x1 = 9 → ¬ x1 = 10 → x1 = 11 → Q (some (.int (hi 279 67))) (mkH hi hl sw kp))
    (h14 : ¬ x1 = 0 → ¬ x1 = 1 → ¬ x1 = 2 → ¬ x1 = 3 → ¬ x1 = 4 → ¬ x1 = 5 → ¬ x1 = 6 → ¬ x1 = 7 → ¬ x1 = 8 → ¬ x1 = 9 → ¬ x1 = 10 → ¬ x1 = 11 → x1 = 12 → Q (some (.int (hi 279 86))) (mkH hi hl sw kp))
    (h15 : ¬ x1 = 0 → ¬ x1 = 1 → ¬ x1 = 2 → ¬ x1 = 3 → ¬ x1 = 4 → ¬ x1 = 5 → ¬ x1 = 6 → ¬ x1 = 7 → ¬ x1 = 8 → ¬ x1 = 9 → ¬ x1 = 10 → ¬ x1 = 11 → ¬ x1 = 12 → x1 = 13 → Q (some (.int (hi 279 87))) (mkH hi hl sw kp))
    (h16 : ¬ x1 = 0 → ¬ x1 = 1 → ¬ x1 = 2 → ¬ x1 = 3 → ¬ x1 = 4 → ¬ x1 = 5 → ¬ x1 = 6 → ¬ x1 = 7 → ¬ x1 = 8 → ¬ x1 = 9 → ¬ x1 = 10 → ¬ x1 = 11 → ¬ x1 = 12 → ¬ x1 = 13 → x1 = 14 → Q (some (.int (hi 279 1))) (mkH hi hl sw kp))
    (h17 : ¬ x1 = 0 → ¬ x1 = 1 → ¬ x1 = 2 → ¬ x1 = 3 → ¬ x1 = 4 → ¬ x1 = 5 → ¬ x1 = 6 → ¬ x1 = 7 → ¬ x1 = 8 → ¬ x1 = 9 → ¬ x1 = 10 → ¬ x1 = 11 → ¬ x1 = 12 → ¬ x1 = 13 → ¬ x1 = 14 → x1 = 15 → Q (some (.int (hi 279 21))) (mkH hi hl sw kp))
    (h18 : ¬ x1 = 0 → ¬ x1 = 1 → ¬ x1 = 2 → ¬ x1 = 3 → ¬ x1 = 4 → ¬ x1 = 5 → ¬ x1 = 6 → ¬ x1 = 7 → ¬ x1 = 8 → ¬ x1 = 9 → ¬ x1 = 10 → ¬ x1 = 11 → ¬ x1 = 12 → ¬ x1 = 13 → ¬ x1 = 14 → ¬ x1 = 15 → x1 = 16 → Q (some (.int (hi 279 75))) (mkH hi hl sw kp))
    (h19 : ¬ x1 = 0 → ¬ x1 = 1 → ¬ x1 = 2 → ¬ x1 = 3 → ¬ x1 = 4 → ¬ x1 = 5 → ¬ x1 = 6 → ¬ x1 = 7 → ¬ x1 = 8 → ¬ x1 = 9 → ¬ x1 = 10 → ¬ x1 = 11 → ¬ x1 = 12 → ¬ x1 = 13 → ¬ x1 = 14 → ¬ x1 = 15 → ¬ x1 = 16 → x1 = 17 → Q (some (.int (hi 279 50))) (mkH hi hl sw kp))
    (h20 : ¬ x1 = 0 → ¬ x1 = 1 → ¬ x1 = 2 → ¬ x1 = 3 → ¬ x1 = 4 → ¬ x1 = 5 → ¬ x1 = 6 → ¬ x1 = 7 → ¬ x1 = 8 → ¬ x1 = 9 → ¬ x1 = 10 → ¬ x1 = 11 → ¬ x1 = 12 → ¬ x1 = 13 → ¬ x1 = 14 → ¬ x1 = 15 → ¬ x1 = 16 → ¬ x1 = 17 → Q (some (.int (-1))) (mkH hi hl sw kp))
    : cS (d + 1) 278 [(.ref 279), (.int x1)] (mkH hi hl sw kp) Q := cS.of rfl (k_278_0 h1 h2 h3 h4 h5 h6 h7 h8 h9 h10 h11 h12 h13 h14 h15 h16 h17 h18 h19 h20)
set_option maxRecDepth 100000 in
theorem k_278_157 {x1 : Int32} {s0 : Int32}
    (h1 : Q (some (.int s0)) (mkH hi hl sw kp))
    : cW cd_278 d Q 157 [some (.ref 279), some (.int x1)] [(.int s0)] (mkH hi hl sw kp) :=
  cW.run (am_in [157]) 1 (cQ.of (h1))
end BLK
