/-! ===== blocks of methods, by program ===== -/
section BLK
variable {d : Nat} {Q : am_Q} {hi : Nat → Nat → Int32} {hl : Nat → Nat → Int64} {sw : Bool} {kp : Nat → Nat}
-- 213: DogDecreesModel.pullOf(IZ)I
set_option maxRecDepth 100000 in
theorem k_213_0 {x1 : Int32} {x2 : Int32}
    (h1 : (hi 279 58) = 0 → Q (some (.int (1))) (mkH hi hl sw kp))
    (h2 : ¬ ((hi 279 58) = 0) → vp_in x1 8)
    (h3 : ¬ ((hi 279 58) = 0) → vp_in x1 8)
    (h4 : ¬ ((hi 279 58) = 0) → ¬ (hi 279 50) = 0)
    (h5 : ¬ ((hi 279 58) = 0) → cS d 194 [(.int x2)] (mkH (u2 (u2 (u2 (u2 hi 288 0 (hi 294 x1.toNatClampNeg)) 288 1 (hi 300 x1.toNatClampNeg)) 288 2 ((hi 279 61) - (hi 279 61) / (hi 279 50) * (hi 279 50))) 288 3 (hi 279 62)) hl sw kp) (am_ret (cW cd_213 d Q) 67 [some (.ref 279), some (.int x1), some (.int x2), none] [(.int (4)), (.ref 288)]))
    : cW cd_213 d Q 0 [some (.ref 279), some (.int x1), some (.int x2), none] [] (mkH hi hl sw kp) :=
  cW.run (am_in [67, 72]) 39 (And.intro (fun c1 => (cQ.of (h1 c1))) (fun c2 => (And.intro (h2 c2) (And.intro (show vp_in 0 5 from vin_l (by decide +kernel)) (And.intro (h3 c2) (And.intro (show vp_in 1 5 from vin_l (by decide +kernel)) (And.intro (h4 c2) (And.intro (show vp_in 2 5 from vin_l (by decide +kernel)) (And.intro (show vp_in 3 5 from vin_l (by decide +kernel)) (cC.of (h5 c2)))))))))))
theorem e_213 {x1 : Int32} {x2 : Int32}
    (h1 : (hi 279 58) = 0 → Q (some (.int (1))) (mkH hi hl sw kp))
    (h2 : ¬ ((hi 279 58) = 0) → vp_in x1 8)
    (h3 : ¬ ((hi 279 58) = 0) → vp_in x1 8)
    (h4 : ¬ ((hi 279 58) = 0) → ¬ (hi 279 50) = 0)
    (h5 : ¬ ((hi 279 58) = 0) → cS d 194 [(.int x2)] (mkH (u2 (u2 (u2 (u2 hi 288 0 (hi 294 x1.toNatClampNeg)) 288 1 (hi 300 x1.toNatClampNeg)) 288 2 ((hi 279 61) - (hi 279 61) / (hi 279 50) * (hi 279 50))) 288 3 (hi 279 62)) hl sw kp) (am_ret (cW cd_213 d Q) 67 [some (.ref 279), some (.int x1), some (.int x2), none] [(.int (4)), (.ref 288)]))
    : cS (d + 1) 213 [(.ref 279), (.int x1), (.int x2)] (mkH hi hl sw kp) Q := cS.of rfl (k_213_0 h1 h2 h3 h4 h5)
set_option maxRecDepth 100000 in
theorem k_213_67 {x1 : Int32} {x2 : Int32} {s1 : Int32} {s2 : Int32}
    (h1 : vp_in s1 5)
    (h2 : cS d 196 [(.ref 279)] (mkH (u2 hi 288 s1.toNatClampNeg s2) hl sw kp) (am_ret (cW cd_213 d Q) 72 [some (.ref 279), some (.int x1), some (.int x2), none] []))
    : cW cd_213 d Q 67 [some (.ref 279), some (.int x1), some (.int x2), none] [(.int s2), (.int s1), (.ref 288)] (mkH hi hl sw kp) :=
  cW.run (am_in [67, 72]) 3 (And.intro (h1) (cC.of (h2)))
set_option maxRecDepth 100000 in
theorem k_213_72 {x1 : Int32} {x2 : Int32} {s0 : Int32}
    (h1 : 0 ≤ s0 → s0 ≤ (99) → Q (some (.int s0)) (mkH hi hl sw kp))
    (h2 : 0 ≤ s0 → ¬ (s0 ≤ (99)) → Q (some (.int (99))) (mkH hi hl sw kp))
    (h3 : ¬ (0 ≤ s0) → Q (some (.int (0))) (mkH hi hl sw kp))
    : cW cd_213 d Q 72 [some (.ref 279), some (.int x1), some (.int x2), none] [(.int s0)] (mkH hi hl sw kp) :=
  cW.run (am_in [67, 72]) 9 (And.intro (Nat.le_of_ble_eq_true rfl) (And.intro (fun c1 => (And.intro (fun c2 => (cQ.of (h1 c1 c2))) (fun c3 => (cQ.of (h2 c1 c3))))) (fun c4 => (cQ.of (h3 c4)))))
-- 214: DogDecreesModel.canGo(II)Z
set_option maxRecDepth 100000 in
theorem k_214_0 {x1 : Int32} {x2 : Int32}
    (h1 : x1 = x2 → Q (some (.int (1))) (mkH hi hl sw kp))
    (h2 : ¬ (x1 = x2) → vp_in x1 8)
    (h3 : ¬ (x1 = x2) → (((hi 296 x1.toNatClampNeg) >>> (x2 &&& 31)) &&& (1)) = (1) → Q (some (.int (1))) (mkH hi hl sw kp))
    (h4 : ¬ (x1 = x2) → ¬ ((((hi 296 x1.toNatClampNeg) >>> (x2 &&& 31)) &&& (1)) = (1)) → Q (some (.int (0))) (mkH hi hl sw kp))
    : cW cd_214 d Q 0 [some (.ref 279), some (.int x1), some (.int x2)] [] (mkH hi hl sw kp) :=
  cW.run (am_in []) 16 (And.intro (fun c1 => (And.intro (Or.inr rfl) (cQ.of (h1 c1)))) (fun c2 => (And.intro (h2 c2) (And.intro (fun c3 => (And.intro (Or.inr rfl) (cQ.of (h3 c2 c3)))) (fun c4 => (And.intro (Or.inl rfl) (cQ.of (h4 c2 c4))))))))
theorem e_214 {x1 : Int32} {x2 : Int32}
    (h1 : x1 = x2 → Q (some (.int (1))) (mkH hi hl sw kp))
    (h2 : ¬ (x1 = x2) → vp_in x1 8)
    (h3 : ¬ (x1 = x2) → (((hi 296 x1.toNatClampNeg) >>> (x2 &&& 31)) &&& (1)) = (1) → Q (some (.int (1))) (mkH hi hl sw kp))
    (h4 : ¬ (x1 = x2) → ¬ ((((hi 296 x1.toNatClampNeg) >>> (x2 &&& 31)) &&& (1)) = (1)) → Q (some (.int (0))) (mkH hi hl sw kp))
    : cS (d + 1) 214 [(.ref 279), (.int x1), (.int x2)] (mkH hi hl sw kp) Q := cS.of rfl (k_214_0 h1 h2 h3 h4)
-- 215: DogDecreesModel.layPulls(I)I
set_option maxRecDepth 100000 in
theorem k_215_0 {x1 : Int32}
    (h1 : cW cd_215 d Q 4 [some (.ref 279), some (.int x1), some (.int (0)), some (.int (0))] [] (mkH hi hl sw kp))
    : cW cd_215 d Q 0 [some (.ref 279), some (.int x1), none, none] [] (mkH hi hl sw kp) :=
  cW.run (am_in [4, 23, 41]) 4 (And.intro (Nat.le_of_ble_eq_true rfl) (And.intro (Nat.le_of_ble_eq_true rfl) (h1)))
theorem e_215 {x1 : Int32}
    (h1 : cW cd_215 d Q 4 [some (.ref 279), some (.int x1), some (.int (0)), some (.int (0))] [] (mkH hi hl sw kp))
    : cS (d + 1) 215 [(.ref 279), (.int x1)] (mkH hi hl sw kp) Q := cS.of rfl (k_215_0 h1)
set_option maxRecDepth 100000 in
theorem k_215_4 {x1 : Int32} {x2 : Int32} {x3 : Int32}
    (h1 : (hi 279 46) ≤ x3 → Q (some (.int x2)) (mkH hi hl sw kp))
    (h2 : ¬ ((hi 279 46) ≤ x3) → cS d 214 [(.ref 279), (.int x1), (.int x3)] (mkH hi hl sw kp) (am_ret (cW cd_215 d Q) 23 [some (.ref 279), some (.int x1), some (.int x2), some (.int x3)] [(.int x3), (.ref 301)]))
    : cW cd_215 d Q 4 [some (.ref 279), some (.int x1), some (.int x2), some (.int x3)] [] (mkH hi hl sw kp) :=
  cW.run (am_in [4, 23, 41]) 11 (And.intro (fun c1 => (cQ.of (h1 c1))) (fun c2 => (cC.of (h2 c2))))
set_option maxRecDepth 100000 in
theorem k_215_23 {x1 : Int32} {x2 : Int32} {x3 : Int32} {s1 : Int32} {s2 : Int32}
    (h1 : s2 = 0 → vp_in s1 8)
    (h2 : s2 = 0 → vp_in x3 8)
    (h3 : s2 = 0 → cW cd_215 d Q 4 [some (.ref 279), some (.int x1), some (.int (x2 + ((u2 hi 301 s1.toNatClampNeg (0)) 301 x3.toNatClampNeg))), some (.int (x3 + (1)))] [] (mkH (u2 hi 301 s1.toNatClampNeg (0)) hl sw kp))
    (h4 : ¬ (s2 = 0) → x3 = x1 → cS d 213 [(.ref 279), (.int x3), (.int (1))] (mkH hi hl sw kp) (am_ret (cW cd_215 d Q) 41 [some (.ref 279), some (.int x1), some (.int x2), some (.int x3)] [(.int s1), (.ref 301)]))
    (h5 : ¬ (s2 = 0) → ¬ (x3 = x1) → cS d 213 [(.ref 279), (.int x3), (.int (0))] (mkH hi hl sw kp) (am_ret (cW cd_215 d Q) 41 [some (.ref 279), some (.int x1), some (.int x2), some (.int x3)] [(.int s1), (.ref 301)]))
    : cW cd_215 d Q 23 [some (.ref 279), some (.int x1), some (.int x2), some (.int x3)] [(.int s2), (.int s1), (.ref 301)] (mkH hi hl sw kp) :=
  cW.run (am_in [4, 23, 41]) 12 (And.intro (fun c1 => (And.intro (h1 c1) (And.intro (h2 c1) (And.intro (Nat.le_of_ble_eq_true rfl) (And.intro (Nat.le_of_ble_eq_true rfl) (h3 c1)))))) (fun c2 => (And.intro (fun c3 => (cC.of (h4 c2 c3))) (fun c4 => (cC.of (h5 c2 c4))))))
set_option maxRecDepth 100000 in
theorem k_215_41 {x1 : Int32} {x2 : Int32} {x3 : Int32} {s1 : Int32} {s2 : Int32}
    (h1 : vp_in s1 8)
    (h2 : vp_in x3 8)
    (h3 : cW cd_215 d Q 4 [some (.ref 279), some (.int x1), some (.int (x2 + ((u2 hi 301 s1.toNatClampNeg s2) 301 x3.toNatClampNeg))), some (.int (x3 + (1)))] [] (mkH (u2 hi 301 s1.toNatClampNeg s2) hl sw kp))
    : cW cd_215 d Q 41 [some (.ref 279), some (.int x1), some (.int x2), some (.int x3)] [(.int s2), (.int s1), (.ref 301)] (mkH hi hl sw kp) :=
  cW.run (am_in [4, 23, 41]) 11 (And.intro (h1) (And.intro (h2) (And.intro (Nat.le_of_ble_eq_true rfl) (And.intro (Nat.le_of_ble_eq_true rfl) (h3)))))
-- 216: DogDecreesModel.goalOf(III)I
set_option maxRecDepth 100000 in
theorem k_216_0 {x1 : Int32} {x2 : Int32} {x3 : Int32}
    (h1 : x3 = 0 → Q (some (.int x1)) (mkH hi hl sw kp))
    (h2 : ¬ (x3 = 0) → cW cd_216 d Q 20 [some (.ref 279), some (.int x1), some (.int x2), some (.int x3), some (.int ((x2 * x3) / (60))), some (.int (0)), some (.int (0))] [] (mkH hi hl sw kp))
    : cW cd_216 d Q 0 [some (.ref 279), some (.int x1), some (.int x2), some (.int x3), none, none, none] [] (mkH hi hl sw kp) :=
  cW.run (am_in [20]) 12 (And.intro (fun c1 => (cQ.of (h1 c1))) (fun c2 => (And.intro (show ¬ ((60) : Int32) = 0 by decide +kernel) (And.intro (Nat.le_of_ble_eq_true rfl) (And.intro (Nat.le_of_ble_eq_true rfl) (And.intro (Nat.le_of_ble_eq_true rfl) (h2 c2)))))))
theorem e_216 {x1 : Int32} {x2 : Int32} {x3 : Int32}
    (h1 : x3 = 0 → Q (some (.int x1)) (mkH hi hl sw kp))
    (h2 : ¬ (x3 = 0) → cW cd_216 d Q 20 [some (.ref 279), some (.int x1), some (.int x2), some (.int x3), some (.int ((x2 * x3) / (60))), some (.int (0)), some (.int (0))] [] (mkH hi hl sw kp))
    : cS (d + 1) 216 [(.ref 279), (.int x1), (.int x2), (.int x3)] (mkH hi hl sw kp) Q := cS.of rfl (k_216_0 h1 h2)
set_option maxRecDepth 100000 in
theorem k_216_20 {x1 : Int32} {x2 : Int32} {x3 : Int32} {x4 : Int32} {x5 : Int32} {x6 : Int32}
    (h1 : (hi 279 46) ≤ x6 → Q (some (.int x1)) (mkH hi hl sw kp))
    (h2 : ¬ ((hi 279 46) ≤ x6) → vp_in x6 8)
    (h3 : ¬ ((hi 279 46) ≤ x6) → (x5 + (hi 301 x6.toNatClampNeg)) ≤ x4 → cW cd_216 d Q 20 [some (.ref 279), some (.int x1), some (.int x2), some (.int x3), some (.int x4), some (.int (x5 + (hi 301 x6.toNatClampNeg))), some (.int (x6 + (1)))] [] (mkH hi hl sw kp))
    (h4 : ¬ ((hi 279 46) ≤ x6) → ¬ ((x5 + (hi 301 x6.toNatClampNeg)) ≤ x4) → Q (some (.int x6)) (mkH hi hl sw kp))
    : cW cd_216 d Q 20 [some (.ref 279), some (.int x1), some (.int x2), some (.int x3), some (.int x4), some (.int x5), some (.int x6)] [] (mkH hi hl sw kp) :=
  cW.run (am_in [20]) 16 (And.intro (fun c1 => (cQ.of (h1 c1))) (fun c2 => (And.intro (h2 c2) (And.intro (Nat.le_of_ble_eq_true rfl) (And.intro (fun c3 => (And.intro (Nat.le_of_ble_eq_true rfl) (h3 c2 c3))) (fun c4 => (cQ.of (h4 c2 c4))))))))
-- 217: DogDecreesModel.layWays()V
set_option maxRecDepth 100000 in
theorem k_217_0
    (h1 : cW cd_217 d Q 2 [some (.ref 279), some (.int (0)), none, none] [] (mkH hi hl sw kp))
    : cW cd_217 d Q 0 [some (.ref 279), none, none, none] [] (mkH hi hl sw kp) :=
  cW.run (am_in [2, 23, 36, 39, 60]) 2 (And.intro (Nat.le_of_ble_eq_true rfl) (h1))
theorem e_217
    (h1 : cW cd_217 d Q 2 [some (.ref 279), some (.int (0)), none, none] [] (mkH hi hl sw kp))
    : cS (d + 1) 217 [(.ref 279)] (mkH hi hl sw kp) Q := cS.of rfl (k_217_0 h1)
set_option maxRecDepth 100000 in
theorem k_217_2 {x1 : Int32}
    (h1 : (64) ≤ x1 → cW cd_217 d Q 23 [some (.ref 279), some (.int (0)), none, none] [] (mkH hi hl sw kp))
    (h2 : ¬ ((64) ≤ x1) → vp_in x1 64)
    (h3 : ¬ ((64) ≤ x1) → cW cd_217 d Q 2 [some (.ref 279), some (.int (x1 + (1))), none, none] [] (mkH (u2 hi 302 x1.toNatClampNeg (0)) hl sw kp))
    : cW cd_217 d Q 2 [some (.ref 279), some (.int x1), none, none] [] (mkH hi hl sw kp) :=
  cW.run (am_in [2, 23, 36, 39, 60]) 10 (And.intro (fun c1 => (And.intro (Nat.le_of_ble_eq_true rfl) (h1 c1))) (fun c2 => (And.intro (h2 c2) (And.intro (Nat.le_of_ble_eq_true rfl) (h3 c2)))))
set_option maxRecDepth 100000 in
theorem k_217_23 {x1 : Int32} {o2 : Option Value} {o3 : Option Value}
    (h1 : (hi 279 46) ≤ x1 → Q none (mkH hi hl sw kp))
    (h2 : ¬ ((hi 279 46) ≤ x1) → cS d 215 [(.ref 279), (.int x1)] (mkH hi hl sw kp) (am_ret (cW cd_217 d Q) 36 [some (.ref 279), some (.int x1), o2, o3] []))
    : cW cd_217 d Q 23 [some (.ref 279), some (.int x1), o2, o3] [] (mkH hi hl sw kp) :=
  cW.run (am_in [2, 23, 36, 39, 60]) 7 (And.intro (fun c1 => (cQ.of (h1 c1))) (fun c2 => (cC.of (h2 c2))))
set_option maxRecDepth 100000 in
theorem k_217_36 {x1 : Int32} {o2 : Option Value} {o3 : Option Value} {s0 : Int32}
    (h1 : cW cd_217 d Q 39 [some (.ref 279), some (.int x1), some (.int s0), some (.int (0))] [] (mkH hi hl sw kp))
    : cW cd_217 d Q 36 [some (.ref 279), some (.int x1), o2, o3] [(.int s0)] (mkH hi hl sw kp) :=
  cW.run (am_in [2, 23, 36, 39, 60]) 3 (And.intro (Nat.le_of_ble_eq_true rfl) (And.intro (Nat.le_of_ble_eq_true rfl) (h1)))
set_option maxRecDepth 100000 in
theorem k_217_39 {x1 : Int32} {x2 : Int32} {x3 : Int32}
    (h1 : (60) ≤ x3 → cW cd_217 d Q 23 [some (.ref 279), some (.int (x1 + (1))), some (.int x2), some (.int x3)] [] (mkH hi hl sw kp))
    (h2 : ¬ ((60) ≤ x3) → cS d 216 [(.ref 279), (.int x1), (.int x3), (.int x2)] (mkH hi hl sw kp) (am_ret (cW cd_217 d Q) 60 [some (.ref 279), some (.int x1), some (.int x2), some (.int x3)] [(.int ((8) * x1)), (.ref 302)]))
    : cW cd_217 d Q 39 [some (.ref 279), some (.int x1), some (.int x2), some (.int x3)] [] (mkH hi hl sw kp) :=
  cW.run (am_in [2, 23, 36, 39, 60]) 13 (And.intro (fun c1 => (And.intro (Nat.le_of_ble_eq_true rfl) (h1 c1))) (fun c2 => (cC.of (h2 c2))))
set_option maxRecDepth 100000 in
theorem k_217_60 {x1 : Int32} {x2 : Int32} {x3 : Int32} {s1 : Int32} {s2 : Int32}
    (h1 : vp_in (s1 + s2) 64)
    (h2 : vp_in (s1 + s2) 64)
    (h3 : cW cd_217 d Q 39 [some (.ref 279), some (.int x1), some (.int x2), some (.int (x3 + (1)))] [] (mkH (u2 hi 302 (s1 + s2).toNatClampNeg ((hi 302 (s1 + s2).toNatClampNeg) + (1))) hl sw kp))
    : cW cd_217 d Q 60 [some (.ref 279), some (.int x1), some (.int x2), some (.int x3)] [(.int s2), (.int s1), (.ref 302)] (mkH hi hl sw kp) :=
  cW.run (am_in [2, 23, 36, 39, 60]) 8 (And.intro rfl (And.intro rfl (And.intro (h1) (And.intro (h2) (And.intro (Nat.le_of_ble_eq_true rfl) (h3))))))
-- 218: DogDecreesModel.heardAt(I)I
set_option maxRecDepth 100000 in
theorem k_218_0 {x1 : Int32}
    (h1 : (hi 279 48) = 0 → Q (some (.int (-1))) (mkH hi hl sw kp))
    (h2 : ¬ ((hi 279 48) = 0) → ¬ (hi 279 51) = 0)
    (h3 : ¬ ((hi 279 48) = 0) → ¬ (hi 279 48) = 0)
    (h4 : ¬ ((hi 279 48) = 0) → Q (some (.int ((x1 / (hi 279 51)) - (x1 / (hi 279 51)) / (hi 279 48) * (hi 279 48)))) (mkH hi hl sw kp))
    : cW cd_218 d Q 0 [some (.ref 279), some (.int x1)] [] (mkH hi hl sw kp) :=
  cW.run (am_in []) 11 (And.intro (fun c1 => (cQ.of (h1 c1))) (fun c2 => (And.intro (h2 c2) (And.intro (h3 c2) (cQ.of (h4 c2))))))
theorem e_218 {x1 : Int32}
    (h1 : (hi 279 48) = 0 → Q (some (.int (-1))) (mkH hi hl sw kp))
    (h2 : ¬ ((hi 279 48) = 0) → ¬ (hi 279 51) = 0)
    (h3 : ¬ ((hi 279 48) = 0) → ¬ (hi 279 48) = 0)
    (h4 : ¬ ((hi 279 48) = 0) → Q (some (.int ((x1 / (hi 279 51)) - (x1 / (hi 279 51)) / (hi 279 48) * (hi 279 48)))) (mkH hi hl sw kp))
    : cS (d + 1) 218 [(.ref 279), (.int x1)] (mkH hi hl sw kp) Q := cS.of rfl (k_218_0 h1 h2 h3 h4)
-- 219: DogDecreesModel.place(II)I
set_option maxRecDepth 100000 in
theorem k_219_0 {x1 : Int32} {x2 : Int32}
    (h1 : cS d 208 [(.ref 279), (.int x1)] (mkH hi hl sw kp) (am_ret (cW cd_219 d Q) 5 [some (.ref 279), some (.int x1), some (.int x2)] []))
    : cW cd_219 d Q 0 [some (.ref 279), some (.int x1), some (.int x2)] [] (mkH hi hl sw kp) :=
  cW.run (am_in [5, 14, 97]) 3 (cC.of (h1))
theorem e_219 {x1 : Int32} {x2 : Int32}
    (h1 : cS d 208 [(.ref 279), (.int x1)] (mkH hi hl sw kp) (am_ret (cW cd_219 d Q) 5 [some (.ref 279), some (.int x1), some (.int x2)] []))
    : cS (d + 1) 219 [(.ref 279), (.int x1), (.int x2)] (mkH hi hl sw kp) Q := cS.of rfl (k_219_0 h1)
set_option maxRecDepth 100000 in
theorem k_219_5 {x1 : Int32} {x2 : Int32} {s0 : Int32}
    (h1 : s0 = 0 → Q (some (.int (-1))) (mkH hi hl sw kp))
    (h2 : ¬ (s0 = 0) → cS d 211 [(.ref 279)] (mkH hi hl sw kp) (am_ret (cW cd_219 d Q) 14 [some (.ref 279), some (.int x1), some (.int x2)] []))
    : cW cd_219 d Q 5 [some (.ref 279), some (.int x1), some (.int x2)] [(.int s0)] (mkH hi hl sw kp) :=
  cW.run (am_in [5, 14, 97]) 3 (And.intro (fun c1 => (cQ.of (h1 c1))) (fun c2 => (cC.of (h2 c2))))
set_option maxRecDepth 100000 in
theorem k_219_14 {x1 : Int32} {x2 : Int32}
    (h1 : x2 = 0 → vp_in x1 8)
    (h2 : x2 = 0 → Q (some (.int (hi 294 x1.toNatClampNeg))) (mkH hi hl sw kp))
    (h3 : ¬ x2 = 0 → x2 = 1 → vp_in x1 8)
    (h4 : ¬ x2 = 0 → x2 = 1 → Q (some (.int (hi 300 x1.toNatClampNeg))) (mkH hi hl sw kp))
    (h5 : ¬ x2 = 0 → ¬ x2 = 1 → x2 = 2 → vp_in x1 8)
    (h6 : ¬ x2 = 0 → ¬ x2 = 1 → x2 = 2 → Q (some (.int (hi 295 x1.toNatClampNeg))) (mkH hi hl sw kp))
    (h7 : ¬ x2 = 0 → ¬ x2 = 1 → ¬ x2 = 2 → x2 = 3 → vp_in x1 8)
    (h8 : ¬ x2 = 0 → ¬ x2 = 1 → ¬ x2 = 2 → x2 = 3 → Q (some (.int (hi 296 x1.toNatClampNeg))) (mkH hi hl sw kp))
    (h9 : ¬ x2 = 0 → ¬ x2 = 1 → ¬ x2 = 2 → ¬ x2 = 3 → x2 = 4 → (hi 299 16) = x1 → cS d 213 [(.ref 279), (.int x1), (.int (1))] (mkH hi hl sw kp) (am_ret (cW cd_219 d Q) 97 [some (.ref 279), some (.int x1), some (.int x2)] []))
    (h10 : ¬ x2 = 0 → ¬ x2 = 1 → ¬ x2 = 2 → ¬ x2 = 3 → x2 = 4 → ¬ ((hi 299 16) = x1) → cS d 213 [(.ref 279), (.int x1), (.int (0))] (mkH hi hl sw kp) (am_ret (cW cd_219 d Q) 97 [some (.ref 279), some (.int x1), some (.int x2)] []))
    (h11 : ¬ x2 = 0 → ¬ x2 = 1 → ¬ x2 = 2 → ¬ x2 = 3 → ¬ x2 = 4 → Q (some (.int (-1))) (mkH hi hl sw kp))
    : cW cd_219 d Q 14 [some (.ref 279), some (.int x1), some (.int x2)] [] (mkH hi hl sw kp) :=
  cW.run (am_in [5, 14, 97]) 13 (And.intro (fun c1 => (And.intro (h1 c1) (cQ.of (h2 c1)))) (fun c2 => (And.intro (fun c3 => (And.intro (h3 c2 c3) (cQ.of (h4 c2 c3)))) (fun c4 => (And.intro (fun c5 => (And.intro (h5 c2 c4 c5) (cQ.of (h6 c2 c4 c5)))) (fun c6 => (And.intro (fun c7 => (And.intro (h7 c2 c4 c6 c7) (cQ.of (h8 c2 c4 c6 c7)))) (fun c8 => (And.intro (fun c9 => (And.intro (show vp_in 16 82 from vin_l (by decide +kernel)) (And.intro (fun c10 => (cC.of (h9 c2 c4 c6 c8 c9 c10))) (fun c11 => (cC.of (h10 c2 c4 c6 c8 c9 c11)))))) (fun c12 => (cQ.of (h11 c2 c4 c6 c8 c12))))))))))))
set_option maxRecDepth 100000 in
theorem k_219_97 {x1 : Int32} {x2 : Int32} {s0 : Int32}
    (h1 : Q (some (.int s0)) (mkH hi hl sw kp))
    : cW cd_219 d Q 97 [some (.ref 279), some (.int x1), some (.int x2)] [(.int s0)] (mkH hi hl sw kp) :=
  cW.run (am_in [5, 14, 97]) 1 (cQ.of (h1))
-- 220: DogDecreesModel.hearing(II)I
set_option maxRecDepth 100000 in
theorem k_220_0 {x1 : Int32} {x2 : Int32}
    (h1 : cS d 209 [(.ref 279), (.int x1)] (mkH hi hl sw kp) (am_ret (cW cd_220 d Q) 5 [some (.ref 279), some (.int x1), some (.int x2)] []))
    : cW cd_220 d Q 0 [some (.ref 279), some (.int x1), some (.int x2)] [] (mkH hi hl sw kp) :=
  cW.run (am_in [5, 82, 94]) 3 (cC.of (h1))
theorem e_220 {x1 : Int32} {x2 : Int32}
    (h1 : cS d 209 [(.ref 279), (.int x1)] (mkH hi hl sw kp) (am_ret (cW cd_220 d Q) 5 [some (.ref 279), some (.int x1), some (.int x2)] []))
    : cS (d + 1) 220 [(.ref 279), (.int x1), (.int x2)] (mkH hi hl sw kp) Q := cS.of rfl (k_220_0 h1)
set_option maxRecDepth 100000 in
theorem k_220_5 {x1 : Int32} {x2 : Int32} {s0 : Int32}
    (h1 : s0 = 0 → Q (some (.int (-1000000))) (mkH hi hl sw kp))
    (h2 : ¬ (s0 = 0) → x2 = 0 → vp_in ((8) + x1) 82)
    (h3 : ¬ (s0 = 0) → x2 = 0 → Q (some (.int (hi 299 ((8) + x1).toNatClampNeg))) (mkH hi hl sw kp))
    (h4 : ¬ (s0 = 0) → ¬ x2 = 0 → x2 = 1 → vp_in x1 4)
    (h5 : ¬ (s0 = 0) → ¬ x2 = 0 → x2 = 1 → Q (some (.int (hi 297 x1.toNatClampNeg))) (mkH hi hl sw kp))
    (h6 : ¬ (s0 = 0) → ¬ x2 = 0 → ¬ x2 = 1 → x2 = 2 → vp_in ((12) + x1) 82)
    (h7 : ¬ (s0 = 0) → ¬ x2 = 0 → ¬ x2 = 1 → x2 = 2 → Q (some (.int (hi 299 ((12) + x1).toNatClampNeg))) (mkH hi hl sw kp))
    (h8 : ¬ (s0 = 0) → ¬ x2 = 0 → ¬ x2 = 1 → ¬ x2 = 2 → x2 = 3 → cS d 218 [(.ref 279), (.int (hi 299 17))] (mkH hi hl sw kp) (am_ret (cW cd_220 d Q) 82 [some (.ref 279), some (.int x1), some (.int x2)] []))
    (h9 : ¬ (s0 = 0) → ¬ x2 = 0 → ¬ x2 = 1 → ¬ x2 = 2 → ¬ x2 = 3 → Q (some (.int (-1000000))) (mkH hi hl sw kp))
    : cW cd_220 d Q 5 [some (.ref 279), some (.int x1), some (.int x2)] [(.int s0)] (mkH hi hl sw kp) :=
  cW.run (am_in [5, 82, 94]) 10 (And.intro (fun c1 => (cQ.of (h1 c1))) (fun c2 => (And.intro (fun c3 => (And.intro (h2 c2 c3) (cQ.of (h3 c2 c3)))) (fun c4 => (And.intro (fun c5 => (And.intro (h4 c2 c4 c5) (cQ.of (h5 c2 c4 c5)))) (fun c6 => (And.intro (fun c7 => (And.intro (h6 c2 c4 c6 c7) (cQ.of (h7 c2 c4 c6 c7)))) (fun c8 => (And.intro (fun c9 => (And.intro (show vp_in 17 82 from vin_l (by decide +kernel)) (cC.of (h8 c2 c4 c6 c8 c9)))) (fun c10 => (cQ.of (h9 c2 c4 c6 c8 c10))))))))))))
set_option maxRecDepth 100000 in
theorem k_220_82 {x1 : Int32} {x2 : Int32} {s0 : Int32}
    (h1 : s0 = x1 → cS d 194 [(.int (1))] (mkH hi hl sw kp) (am_ret (cW cd_220 d Q) 94 [some (.ref 279), some (.int x1), some (.int x2)] []))
    (h2 : ¬ (s0 = x1) → cS d 194 [(.int (0))] (mkH hi hl sw kp) (am_ret (cW cd_220 d Q) 94 [some (.ref 279), some (.int x1), some (.int x2)] []))
    : cW cd_220 d Q 82 [some (.ref 279), some (.int x1), some (.int x2)] [(.int s0)] (mkH hi hl sw kp) :=
  cW.run (am_in [5, 82, 94]) 5 (And.intro (fun c1 => (cC.of (h1 c1))) (fun c2 => (cC.of (h2 c2))))
set_option maxRecDepth 100000 in
theorem k_220_94 {x1 : Int32} {x2 : Int32} {s0 : Int32}
    (h1 : Q (some (.int s0)) (mkH hi hl sw kp))
    : cW cd_220 d Q 94 [some (.ref 279), some (.int x1), some (.int x2)] [(.int s0)] (mkH hi hl sw kp) :=
  cW.run (am_in [5, 82, 94]) 1 (cQ.of (h1))
-- 221: DogDecreesModel.table(II)I
set_option maxRecDepth 100000 in
theorem k_221_0 {x1 : Int32} {x2 : Int32}
    (h1 : cS d 210 [(.ref 279), (.int x1)] (mkH hi hl sw kp) (am_ret (cW cd_221 d Q) 5 [some (.ref 279), some (.int x1), some (.int x2)] []))
    : cW cd_221 d Q 0 [some (.ref 279), some (.int x1), some (.int x2)] [] (mkH hi hl sw kp) :=
  cW.run (am_in [5, 13]) 3 (cC.of (h1))
theorem e_221 {x1 : Int32} {x2 : Int32}
    (h1 : cS d 210 [(.ref 279), (.int x1)] (mkH hi hl sw kp) (am_ret (cW cd_221 d Q) 5 [some (.ref 279), some (.int x1), some (.int x2)] []))
    : cS (d + 1) 221 [(.ref 279), (.int x1), (.int x2)] (mkH hi hl sw kp) Q := cS.of rfl (k_221_0 h1)
set_option maxRecDepth 100000 in
theorem k_221_5 {x1 : Int32} {x2 : Int32} {s0 : Int32}
    (h1 : s0 = 0 → Q (some (.int (-1000000))) (mkH hi hl sw kp))
    (h2 : ¬ (s0 = 0) → cS d 209 [(.ref 279), (.int x2)] (mkH hi hl sw kp) (am_ret (cW cd_221 d Q) 13 [some (.ref 279), some (.int x1), some (.int x2)] []))
    : cW cd_221 d Q 5 [some (.ref 279), some (.int x1), some (.int x2)] [(.int s0)] (mkH hi hl sw kp) :=
  cW.run (am_in [5, 13]) 4 (And.intro (fun c1 => (cQ.of (h1 c1))) (fun c2 => (cC.of (h2 c2))))
set_option maxRecDepth 100000 in
theorem k_221_13 {x1 : Int32} {x2 : Int32} {s0 : Int32}
    (h1 : s0 = 0 → Q (some (.int (-1000000))) (mkH hi hl sw kp))
    (h2 : ¬ (s0 = 0) → vp_in (((4) * x1) + x2) 16)
    (h3 : ¬ (s0 = 0) → Q (some (.int (hi 298 (((4) * x1) + x2).toNatClampNeg))) (mkH hi hl sw kp))
    : cW cd_221 d Q 13 [some (.ref 279), some (.int x1), some (.int x2)] [(.int s0)] (mkH hi hl sw kp) :=
  cW.run (am_in [5, 13]) 11 (And.intro (fun c1 => (cQ.of (h1 c1))) (fun c2 => (And.intro (h2 c2) (cQ.of (h3 c2)))))
-- 222: DogDecreesModel.draws(I)I
set_option maxRecDepth 100000 in
theorem k_222_0 {x1 : Int32}
    (h1 : cS d 208 [(.ref 279), (.int x1)] (mkH hi hl sw kp) (am_ret (cW cd_222 d Q) 5 [some (.ref 279), some (.int x1)] []))
    : cW cd_222 d Q 0 [some (.ref 279), some (.int x1)] [] (mkH hi hl sw kp) :=
  cW.run (am_in [5, 14, 18]) 3 (cC.of (h1))
theorem e_222 {x1 : Int32}
    (h1 : cS d 208 [(.ref 279), (.int x1)] (mkH hi hl sw kp) (am_ret (cW cd_222 d Q) 5 [some (.ref 279), some (.int x1)] []))
    : cS (d + 1) 222 [(.ref 279), (.int x1)] (mkH hi hl sw kp) Q := cS.of rfl (k_222_0 h1)
set_option maxRecDepth 100000 in
theorem k_222_5 {x1 : Int32} {s0 : Int32}
    (h1 : s0 = 0 → Q (some (.int (-1))) (mkH hi hl sw kp))
    (h2 : ¬ (s0 = 0) → cS d 211 [(.ref 279)] (mkH hi hl sw kp) (am_ret (cW cd_222 d Q) 14 [some (.ref 279), some (.int x1)] []))
    : cW cd_222 d Q 5 [some (.ref 279), some (.int x1)] [(.int s0)] (mkH hi hl sw kp) :=
  cW.run (am_in [5, 14, 18]) 3 (And.intro (fun c1 => (cQ.of (h1 c1))) (fun c2 => (cC.of (h2 c2))))
set_option maxRecDepth 100000 in
theorem k_222_14 {x1 : Int32}
    (h1 : cS d 217 [(.ref 279)] (mkH hi hl sw kp) (am_ret (cW cd_222 d Q) 18 [some (.ref 279), some (.int x1)] []))
    : cW cd_222 d Q 14 [some (.ref 279), some (.int x1)] [] (mkH hi hl sw kp) :=
  cW.run (am_in [5, 14, 18]) 2 (cC.of (h1))
set_option maxRecDepth 100000 in
theorem k_222_18 {x1 : Int32}
    (h1 : vp_in (((8) * (hi 299 16)) + x1) 64)
    (h2 : Q (some (.int (hi 302 (((8) * (hi 299 16)) + x1).toNatClampNeg))) (mkH hi hl sw kp))
    : cW cd_222 d Q 18 [some (.ref 279), some (.int x1)] [] (mkH hi hl sw kp) :=
  cW.run (am_in [5, 14, 18]) 12 (And.intro (show vp_in 16 82 from vin_l (by decide +kernel)) (And.intro (h1) (cQ.of (h2))))
-- 223: DogDecreesModel.act()V
set_option maxRecDepth 100000 in
theorem k_223_0
    (h1 : (hi 279 66) = (40) → cW cd_223 d Q 11 [some (.ref 279), some (.int (0))] [] (mkH hi hl sw kp))
    (h2 : ¬ ((hi 279 66) = (40)) → cW cd_223 d Q 51 [some (.ref 279), some (.int (0))] [] (mkH hi hl sw kp))
    : cW cd_223 d Q 0 [some (.ref 279), none] [] (mkH hi hl sw kp) :=
  cW.run (am_in [11, 51]) 6 (And.intro (fun c1 => (And.intro (Nat.le_of_ble_eq_true rfl) (h1 c1))) (fun c2 => (And.intro (Nat.le_of_ble_eq_true rfl) (h2 c2))))
theorem e_223
    (h1 : (hi 279 66) = (40) → cW cd_223 d Q 11 [some (.ref 279), some (.int (0))] [] (mkH hi hl sw kp))
    (h2 : ¬ ((hi 279 66) = (40)) → cW cd_223 d Q 51 [some (.ref 279), some (.int (0))] [] (mkH hi hl sw kp))
    : cS (d + 1) 223 [(.ref 279)] (mkH hi hl sw kp) Q := cS.of rfl (k_223_0 h1 h2)
set_option maxRecDepth 100000 in
theorem k_223_11 {x1 : Int32}
    (h1 : (3198) ≤ x1 → cW cd_223 d Q 51 [some (.ref 279), some (.int (0))] [] (mkH (u2 hi 279 66 ((hi 279 66) - (1))) hl sw kp))
    (h2 : ¬ ((3198) ≤ x1) → vp_in ((82) + x1) 3280)
    (h3 : ¬ ((3198) ≤ x1) → vp_in x1 3280)
    (h4 : ¬ ((3198) ≤ x1) → cW cd_223 d Q 11 [some (.ref 279), some (.int (x1 + (1)))] [] (mkH (u2 hi 303 x1.toNatClampNeg (hi 303 ((82) + x1).toNatClampNeg)) hl sw kp))
    : cW cd_223 d Q 11 [some (.ref 279), some (.int x1)] [] (mkH hi hl sw kp) :=
  cW.run (am_in [11, 51]) 15 (And.intro (fun c1 => (And.intro rfl (And.intro (Nat.le_of_ble_eq_true rfl) (h1 c1)))) (fun c2 => (And.intro (h2 c2) (And.intro (h3 c2) (And.intro (Nat.le_of_ble_eq_true rfl) (h4 c2))))))
set_option maxRecDepth 100000 in
theorem k_223_51 {x1 : Int32}
    (h1 : (81) ≤ x1 → Q none (mkH (u2 (u2 hi 279 66 ((hi 279 66) + (1))) 279 67 (0)) hl sw kp))
    (h2 : ¬ ((81) ≤ x1) → vp_in x1 82)
    (h3 : ¬ ((81) ≤ x1) → vp_in (((82) * (hi 279 66)) + x1) 3280)
    (h4 : ¬ ((81) ≤ x1) → cW cd_223 d Q 51 [some (.ref 279), some (.int (x1 + (1)))] [] (mkH (u2 hi 303 (((82) * (hi 279 66)) + x1).toNatClampNeg (hi 299 x1.toNatClampNeg)) hl sw kp))
    : cW cd_223 d Q 51 [some (.ref 279), some (.int x1)] [] (mkH hi hl sw kp) :=
  cW.run (am_in [11, 51]) 18 (And.intro (fun c1 => (And.intro rfl (cQ.of (h1 c1)))) (fun c2 => (And.intro (h2 c2) (And.intro (h3 c2) (And.intro (Nat.le_of_ble_eq_true rfl) (h4 c2))))))
-- 224: DogDecreesModel.exchange(I)V
set_option maxRecDepth 100000 in
theorem k_224_0 {x1 : Int32}
    (h1 : cW cd_224 d Q 2 [some (.ref 279), some (.int x1), some (.int (0)), none] [] (mkH hi hl sw kp))
    : cW cd_224 d Q 0 [some (.ref 279), some (.int x1), none, none] [] (mkH hi hl sw kp) :=
  cW.run (am_in [2]) 2 (And.intro (Nat.le_of_ble_eq_true rfl) (h1))
theorem e_224 {x1 : Int32}
    (h1 : cW cd_224 d Q 2 [some (.ref 279), some (.int x1), some (.int (0)), none] [] (mkH hi hl sw kp))
    : cS (d + 1) 224 [(.ref 279), (.int x1)] (mkH hi hl sw kp) Q := cS.of rfl (k_224_0 h1)
set_option maxRecDepth 100000 in
theorem k_224_2 {x1 : Int32} {x2 : Int32} {o3 : Option Value}
    (h1 : (81) ≤ x2 → Q none (mkH hi hl sw kp))
    (h2 : ¬ ((81) ≤ x2) → vp_in (x1 + x2) 3280)
    (h3 : ¬ ((81) ≤ x2) → vp_in x2 82)
    (h4 : ¬ ((81) ≤ x2) → vp_in (x1 + x2) 3280)
    (h5 : ¬ ((81) ≤ x2) → vp_in x2 82)
    (h6 : ¬ ((81) ≤ x2) → cW cd_224 d Q 2 [some (.ref 279), some (.int x1), some (.int (x2 + (1))), some (.int (hi 303 (x1 + x2).toNatClampNeg))] [] (mkH (u2 (u2 hi 303 (x1 + x2).toNatClampNeg (hi 299 x2.toNatClampNeg)) 299 x2.toNatClampNeg (hi 303 (x1 + x2).toNatClampNeg)) hl sw kp))
    : cW cd_224 d Q 2 [some (.ref 279), some (.int x1), some (.int x2), o3] [] (mkH hi hl sw kp) :=
  cW.run (am_in [2]) 27 (And.intro (fun c1 => (cQ.of (h1 c1))) (fun c2 => (And.intro (h2 c2) (And.intro (Nat.le_of_ble_eq_true rfl) (And.intro (h3 c2) (And.intro (h4 c2) (And.intro (h5 c2) (And.intro (Nat.le_of_ble_eq_true rfl) (h6 c2)))))))))
-- 225: DogDecreesModel.decree(I)V
set_option maxRecDepth 100000 in
theorem k_225_0 {x1 : Int32}
    (h1 : cS d 218 [(.ref 279), (.int (hi 299 17))] (mkH hi hl sw kp) (am_ret (cW cd_225 d Q) 11 [some (.ref 279), some (.int x1), none] []))
    : cW cd_225 d Q 0 [some (.ref 279), some (.int x1), none] [] (mkH hi hl sw kp) :=
  cW.run (am_in [11]) 6 (And.intro (show vp_in 17 82 from vin_l (by decide +kernel)) (cC.of (h1)))
theorem e_225 {x1 : Int32}
    (h1 : cS d 218 [(.ref 279), (.int (hi 299 17))] (mkH hi hl sw kp) (am_ret (cW cd_225 d Q) 11 [some (.ref 279), some (.int x1), none] []))
    : cS (d + 1) 225 [(.ref 279), (.int x1)] (mkH hi hl sw kp) Q := cS.of rfl (k_225_0 h1)
set_option maxRecDepth 100000 in
theorem k_225_11 {x1 : Int32} {s0 : Int32}
    (h1 : s0 < 0 → Q none (mkH hi hl sw kp))
    (h2 : ¬ (s0 < 0) → vp_in ((12) + s0) 82)
    (h3 : ¬ (s0 < 0) → (hi 299 ((12) + s0).toNatClampNeg) ≤ 0 → vp_in ((8) + s0) 82)
    (h4 : ¬ (s0 < 0) → (hi 299 ((12) + s0).toNatClampNeg) ≤ 0 → vp_in (((4) * x1) + s0) 16)
    (h5 : ¬ (s0 < 0) → (hi 299 ((12) + s0).toNatClampNeg) ≤ 0 → vp_in ((8) + s0) 82)
    (h6 : ¬ (s0 < 0) → (hi 299 ((12) + s0).toNatClampNeg) ≤ 0 → vp_in ((8) + s0) 82)
    (h7 : ¬ (s0 < 0) → (hi 299 ((12) + s0).toNatClampNeg) ≤ 0 → vp_in s0 4)
    (h8 : ¬ (s0 < 0) → (hi 299 ((12) + s0).toNatClampNeg) ≤ 0 → ((u2 hi 299 ((8) + s0).toNatClampNeg ((hi 299 ((8) + s0).toNatClampNeg) + (hi 298 (((4) * x1) + s0).toNatClampNeg))) 299 ((8) + s0).toNatClampNeg) < (hi 297 s0.toNatClampNeg) → vp_in ((8) + s0) 82)
    (h9 : ¬ (s0 < 0) → (hi 299 ((12) + s0).toNatClampNeg) ≤ 0 → ((u2 hi 299 ((8) + s0).toNatClampNeg ((hi 299 ((8) + s0).toNatClampNeg) + (hi 298 (((4) * x1) + s0).toNatClampNeg))) 299 ((8) + s0).toNatClampNeg) < (hi 297 s0.toNatClampNeg) → vp_in s0 4)
    (h10 : ¬ (s0 < 0) → (hi 299 ((12) + s0).toNatClampNeg) ≤ 0 → ((u2 hi 299 ((8) + s0).toNatClampNeg ((hi 299 ((8) + s0).toNatClampNeg) + (hi 298 (((4) * x1) + s0).toNatClampNeg))) 299 ((8) + s0).toNatClampNeg) < (hi 297 s0.toNatClampNeg) → (-(hi 297 s0.toNatClampNeg)) < ((u2 hi 299 ((8) + s0).toNatClampNeg ((hi 299 ((8) + s0).toNatClampNeg) + (hi 298 (((4) * x1) + s0).toNatClampNeg))) 299 ((8) + s0).toNatClampNeg) → vp_in ((12) + s0) 82)
    (h11 : ¬ (s0 < 0) → (hi 299 ((12) + s0).toNatClampNeg) ≤ 0 → ((u2 hi 299 ((8) + s0).toNatClampNeg ((hi 299 ((8) + s0).toNatClampNeg) + (hi 298 (((4) * x1) + s0).toNatClampNeg))) 299 ((8) + s0).toNatClampNeg) < (hi 297 s0.toNatClampNeg) → (-(hi 297 s0.toNatClampNeg)) < ((u2 hi 299 ((8) + s0).toNatClampNeg ((hi 299 ((8) + s0).toNatClampNeg) + (hi 298 (((4) * x1) + s0).toNatClampNeg))) 299 ((8) + s0).toNatClampNeg) → Q none (mkH (u2 (u2 hi 299 ((8) + s0).toNatClampNeg ((hi 299 ((8) + s0).toNatClampNeg) + (hi 298 (((4) * x1) + s0).toNatClampNeg))) 299 ((12) + s0).toNatClampNeg (0)) hl sw kp))
    (h12 : ¬ (s0 < 0) → (hi 299 ((12) + s0).toNatClampNeg) ≤ 0 → ((u2 hi 299 ((8) + s0).toNatClampNeg ((hi 299 ((8) + s0).toNatClampNeg) + (hi 298 (((4) * x1) + s0).toNatClampNeg))) 299 ((8) + s0).toNatClampNeg) < (hi 297 s0.toNatClampNeg) → ¬ ((-(hi 297 s0.toNatClampNeg)) < ((u2 hi 299 ((8) + s0).toNatClampNeg ((hi 299 ((8) + s0).toNatClampNeg) + (hi 298 (((4) * x1) + s0).toNatClampNeg))) 299 ((8) + s0).toNatClampNeg)) → vp_in ((12) + s0) 82)
    (h13 : ¬ (s0 < 0) → (hi 299 ((12) + s0).toNatClampNeg) ≤ 0 → ((u2 hi 299 ((8) + s0).toNatClampNeg ((hi 299 ((8) + s0).toNatClampNeg) + (hi 298 (((4) * x1) + s0).toNatClampNeg))) 299 ((8) + s0).toNatClampNeg) < (hi 297 s0.toNatClampNeg) → ¬ ((-(hi 297 s0.toNatClampNeg)) < ((u2 hi 299 ((8) + s0).toNatClampNeg ((hi 299 ((8) + s0).toNatClampNeg) + (hi 298 (((4) * x1) + s0).toNatClampNeg))) 299 ((8) + s0).toNatClampNeg)) → Q none (mkH (u2 (u2 hi 299 ((8) + s0).toNatClampNeg ((hi 299 ((8) + s0).toNatClampNeg) + (hi 298 (((4) * x1) + s0).toNatClampNeg))) 299 ((12) + s0).toNatClampNeg (2)) hl sw kp))
    (h14 : ¬ (s0 < 0) → (hi 299 ((12) + s0).toNatClampNeg) ≤ 0 → ¬ (((u2 hi 299 ((8) + s0).toNatClampNeg ((hi 299 ((8) + s0).toNatClampNeg) + (hi 298 (((4) * x1) + s0).toNatClampNeg))) 299 ((8) + s0).toNatClampNeg) < (hi 297 s0.toNatClampNeg)) → vp_in ((12) + s0) 82)
    (h15 : ¬ (s0 < 0) → (hi 299 ((12) + s0).toNatClampNeg) ≤ 0 → ¬ (((u2 hi 299 ((8) + s0).toNatClampNeg ((hi 299 ((8) + s0).toNatClampNeg) + (hi 298 (((4) * x1) + s0).toNatClampNeg))) 299 ((8) + s0).toNatClampNeg) < (hi 297 s0.toNatClampNeg)) → Q none (mkH (u2 (u2 hi 299 ((8) + s0).toNatClampNeg ((hi 299 ((8) + s0).toNatClampNeg) + (hi 298 (((4) * x1) + s0).toNatClampNeg))) 299 ((12) + s0).toNatClampNeg (1)) hl sw kp))
    (h16 : ¬ (s0 < 0) → ¬ ((hi 299 ((12) + s0).toNatClampNeg) ≤ 0) → Q none (mkH hi hl sw kp))
    : cW cd_225 d Q 11 [some (.ref 279), some (.int x1), none] [(.int s0)] (mkH hi hl sw kp) :=
  cW.run (am_in [11]) 59 (And.intro (Nat.le_of_ble_eq_true rfl) (And.intro (fun c1 => (cQ.of (h1 c1))) (fun c2 => (And.intro (h2 c2) (And.intro (fun c3 => (And.intro rfl (And.intro rfl (And.intro (h3 c2 c3) (And.intro (h4 c2 c3) (And.intro (h5 c2 c3) (And.intro (h6 c2 c3) (And.intro (h7 c2 c3) (And.intro (fun c4 => (And.intro (h8 c2 c3 c4) (And.intro (h9 c2 c3 c4) (And.intro (fun c5 => (And.intro (h10 c2 c3 c4 c5) (cQ.of (h11 c2 c3 c4 c5)))) (fun c6 => (And.intro (h12 c2 c3 c4 c6) (cQ.of (h13 c2 c3 c4 c6)))))))) (fun c7 => (And.intro (h14 c2 c3 c7) (cQ.of (h15 c2 c3 c7))))))))))))) (fun c8 => (cQ.of (h16 c2 c8))))))))
-- 226: DogDecreesModel.walkTo(I)V
set_option maxRecDepth 100000 in
theorem k_226_0 {x1 : Int32}
    (h1 : (hi 299 20) = (60) → cW cd_226 d Q 14 [some (.ref 279), some (.int x1), some (.int (1))] [] (mkH hi hl sw kp))
    (h2 : ¬ ((hi 299 20) = (60)) → vp_in ((21) + (hi 299 20)) 82)
    (h3 : ¬ ((hi 299 20) = (60)) → Q none (mkH (u2 (u2 hi 299 ((21) + (hi 299 20)).toNatClampNeg x1) 299 20 (((u2 hi 299 ((21) + (hi 299 20)).toNatClampNeg x1) 299 20) + (1))) hl sw kp))
    : cW cd_226 d Q 0 [some (.ref 279), some (.int x1), none] [] (mkH hi hl sw kp) :=
  cW.run (am_in [14]) 25 (And.intro (show vp_in 20 82 from vin_l (by decide +kernel)) (And.intro (fun c1 => (And.intro (Nat.le_of_ble_eq_true rfl) (h1 c1))) (fun c2 => (And.intro (show vp_in 20 82 from vin_l (by decide +kernel)) (And.intro (h2 c2) (And.intro rfl (And.intro rfl (And.intro (show vp_in 20 82 from vin_l (by decide +kernel)) (And.intro (show vp_in 20 82 from vin_l (by decide +kernel)) (cQ.of (h3 c2)))))))))))
theorem e_226 {x1 : Int32}
    (h1 : (hi 299 20) = (60) → cW cd_226 d Q 14 [some (.ref 279), some (.int x1), some (.int (1))] [] (mkH hi hl sw kp))
    (h2 : ¬ ((hi 299 20) = (60)) → vp_in ((21) + (hi 299 20)) 82)
    (h3 : ¬ ((hi 299 20) = (60)) → Q none (mkH (u2 (u2 hi 299 ((21) + (hi 299 20)).toNatClampNeg x1) 299 20 (((u2 hi 299 ((21) + (hi 299 20)).toNatClampNeg x1) 299 20) + (1))) hl sw kp))
    : cS (d + 1) 226 [(.ref 279), (.int x1)] (mkH hi hl sw kp) Q := cS.of rfl (k_226_0 h1 h2 h3)
set_option maxRecDepth 100000 in
theorem k_226_14 {x1 : Int32} {x2 : Int32}
    (h1 : (60) ≤ x2 → vp_in ((21) + ((hi 299 20) - (1))) 82)
    (h2 : (60) ≤ x2 → Q none (mkH (u2 (u2 (u2 hi 299 20 ((hi 299 20) - (1))) 299 ((21) + ((hi 299 20) - (1))).toNatClampNeg x1) 299 20 (((u2 (u2 hi 299 20 ((hi 299 20) - (1))) 299 ((21) + ((hi 299 20) - (1))).toNatClampNeg x1) 299 20) + (1))) hl sw kp))
    (h3 : ¬ ((60) ≤ x2) → vp_in ((21) + x2) 82)
    (h4 : ¬ ((60) ≤ x2) → vp_in (((21) + x2) - (1)) 82)
    (h5 : ¬ ((60) ≤ x2) → cW cd_226 d Q 14 [some (.ref 279), some (.int x1), some (.int (x2 + (1)))] [] (mkH (u2 hi 299 (((21) + x2) - (1)).toNatClampNeg (hi 299 ((21) + x2).toNatClampNeg)) hl sw kp))
    : cW cd_226 d Q 14 [some (.ref 279), some (.int x1), some (.int x2)] [] (mkH hi hl sw kp) :=
  cW.run (am_in [14]) 30 (And.intro (fun c1 => (And.intro rfl (And.intro rfl (And.intro (show vp_in 20 82 from vin_l (by decide +kernel)) (And.intro (show vp_in 20 82 from vin_l (by decide +kernel)) (And.intro (show vp_in 20 82 from vin_l (by decide +kernel)) (And.intro (h1 c1) (And.intro rfl (And.intro rfl (And.intro (show vp_in 20 82 from vin_l (by decide +kernel)) (And.intro (show vp_in 20 82 from vin_l (by decide +kernel)) (cQ.of (h2 c1))))))))))))) (fun c2 => (And.intro (h3 c2) (And.intro (h4 c2) (And.intro (Nat.le_of_ble_eq_true rfl) (h5 c2))))))
-- 227: DogDecreesModel.hour()I
set_option maxRecDepth 100000 in
theorem k_227_0
    (h1 : (hi 299 17) = (2000) → Q (some (.int (-1))) (mkH hi hl sw kp))
    (h2 : ¬ ((hi 299 17) = (2000)) → (hi 279 46) = 0 → Q (some (.int (-1))) (mkH hi hl sw kp))
    (h3 : ¬ ((hi 299 17) = (2000)) → ¬ ((hi 279 46) = 0) → cS d 223 [(.ref 279)] (mkH hi hl sw kp) (am_ret (cW cd_227 d Q) 26 [some (.ref 279), none, none] []))
    : cW cd_227 d Q 0 [some (.ref 279), none, none] [] (mkH hi hl sw kp) :=
  cW.run (am_in [26, 30, 84, 87, 101, 111, 115, 117]) 11 (And.intro (show vp_in 17 82 from vin_l (by decide +kernel)) (And.intro (fun c1 => (cQ.of (h1 c1))) (fun c2 => (And.intro (fun c3 => (cQ.of (h2 c2 c3))) (fun c4 => (cC.of (h3 c2 c4)))))))
theorem e_227
    (h1 : (hi 299 17) = (2000) → Q (some (.int (-1))) (mkH hi hl sw kp))
    (h2 : ¬ ((hi 299 17) = (2000)) → (hi 279 46) = 0 → Q (some (.int (-1))) (mkH hi hl sw kp))
    (h3 : ¬ ((hi 299 17) = (2000)) → ¬ ((hi 279 46) = 0) → cS d 223 [(.ref 279)] (mkH hi hl sw kp) (am_ret (cW cd_227 d Q) 26 [some (.ref 279), none, none] []))
    : cS (d + 1) 227 [(.ref 279)] (mkH hi hl sw kp) Q := cS.of rfl (k_227_0 h1 h2 h3)
set_option maxRecDepth 100000 in
theorem k_227_26
    (h1 : cS d 211 [(.ref 279)] (mkH hi hl sw kp) (am_ret (cW cd_227 d Q) 30 [some (.ref 279), none, none] []))
    : cW cd_227 d Q 26 [some (.ref 279), none, none] [] (mkH hi hl sw kp) :=
  cW.run (am_in [26, 30, 84, 87, 101, 111, 115, 117]) 2 (cC.of (h1))
set_option maxRecDepth 100000 in
theorem k_227_30
    (h1 : cS d 215 [(.ref 279), (.int (hi 299 16))] (mkH (u2 hi 299 19 ((((hi 299 19) * (137)) + (71)) - (((hi 299 19) * (137)) + (71)) / (1000) * (1000))) hl sw kp) (am_ret (cW cd_227 d Q) 84 [some (.ref 279), none, none] [(.int (((((hi 299 19) * (137)) + (71)) - (((hi 299 19) * (137)) + (71)) / (1000) * (1000)) - ((((hi 299 19) * (137)) + (71)) - (((hi 299 19) * (137)) + (71)) / (1000) * (1000)) / (60) * (60))), (.int (hi 299 16)), (.ref 279)]))
    : cW cd_227 d Q 30 [some (.ref 279), none, none] [] (mkH hi hl sw kp) :=
  cW.run (am_in [26, 30, 84, 87, 101, 111, 115, 117]) 31 (And.intro (show vp_in 19 82 from vin_l (by decide +kernel)) (And.intro (show ¬ ((1000) : Int32) = 0 by decide +kernel) (And.intro (show vp_in 19 82 from vin_l (by decide +kernel)) (And.intro (show vp_in 16 82 from vin_l (by decide +kernel)) (And.intro (show vp_in 19 82 from vin_l (by decide +kernel)) (And.intro (show ¬ ((60) : Int32) = 0 by decide +kernel) (And.intro (show vp_in 16 82 from vin_l (by decide +kernel)) (cC.of (h1)))))))))
set_option maxRecDepth 100000 in
theorem k_227_84 {s1 : Int32} {s2 : Int32} {s3 : Int32}
    (h1 : cS d 216 [(.ref 279), (.int s1), (.int s2), (.int s3)] (mkH hi hl sw kp) (am_ret (cW cd_227 d Q) 87 [some (.ref 279), none, none] []))
    : cW cd_227 d Q 84 [some (.ref 279), none, none] [(.int s3), (.int s2), (.int s1), (.ref 279)] (mkH hi hl sw kp) :=
  cW.run (am_in [26, 30, 84, 87, 101, 111, 115, 117]) 1 (cC.of (h1))
set_option maxRecDepth 100000 in
theorem k_227_87 {s0 : Int32}
    (h1 : cS d 226 [(.ref 279), (.int s0)] (mkH (u2 hi 299 16 s0) hl sw kp) (am_ret (cW cd_227 d Q) 101 [some (.ref 279), some (.int s0), none] []))
    : cW cd_227 d Q 87 [some (.ref 279), none, none] [(.int s0)] (mkH hi hl sw kp) :=
  cW.run (am_in [26, 30, 84, 87, 101, 111, 115, 117]) 9 (And.intro (Nat.le_of_ble_eq_true rfl) (And.intro (show vp_in 16 82 from vin_l (by decide +kernel)) (cC.of (h1))))
set_option maxRecDepth 100000 in
theorem k_227_101 {x1 : Int32}
    (h1 : vp_in x1 8)
    (h2 : cS d 225 [(.ref 279), (.int (hi 295 x1.toNatClampNeg))] (mkH hi hl sw kp) (am_ret (cW cd_227 d Q) 111 [some (.ref 279), some (.int x1), none] []))
    : cW cd_227 d Q 101 [some (.ref 279), some (.int x1), none] [] (mkH hi hl sw kp) :=
  cW.run (am_in [26, 30, 84, 87, 101, 111, 115, 117]) 6 (And.intro (h1) (cC.of (h2)))
set_option maxRecDepth 100000 in
theorem k_227_111 {x1 : Int32}
    (h1 : cS d 212 [(.ref 279)] (mkH hi hl sw kp) (am_ret (cW cd_227 d Q) 115 [some (.ref 279), some (.int x1), none] []))
    : cW cd_227 d Q 111 [some (.ref 279), some (.int x1), none] [] (mkH hi hl sw kp) :=
  cW.run (am_in [26, 30, 84, 87, 101, 111, 115, 117]) 2 (cC.of (h1))
set_option maxRecDepth 100000 in
theorem k_227_115 {x1 : Int32}
    (h1 : cW cd_227 d Q 117 [some (.ref 279), some (.int x1), some (.int (0))] [] (mkH hi hl sw kp))
    : cW cd_227 d Q 115 [some (.ref 279), some (.int x1), none] [] (mkH hi hl sw kp) :=
  cW.run (am_in [26, 30, 84, 87, 101, 111, 115, 117]) 2 (And.intro (Nat.le_of_ble_eq_true rfl) (h1))
set_option maxRecDepth 100000 in
theorem k_227_117 {x1 : Int32} {x2 : Int32}
    (h1 : (8) ≤ x2 → Q (some (.int x1)) (mkH (u2 (u2 hi 299 17 (hi 279 61)) 299 18 (hi 279 62)) hl sw kp))
    (h2 : ¬ ((8) ≤ x2) → vp_in x2 8)
    (h3 : ¬ ((8) ≤ x2) → vp_in ((0) + x2) 82)
    (h4 : ¬ ((8) ≤ x2) → cW cd_227 d Q 117 [some (.ref 279), some (.int x1), some (.int (x2 + (1)))] [] (mkH (u2 hi 299 ((0) + x2).toNatClampNeg (hi 300 x2.toNatClampNeg)) hl sw kp))
    : cW cd_227 d Q 117 [some (.ref 279), some (.int x1), some (.int x2)] [] (mkH hi hl sw kp) :=
  cW.run (am_in [26, 30, 84, 87, 101, 111, 115, 117]) 17 (And.intro (fun c1 => (And.intro (show vp_in 17 82 from vin_l (by decide +kernel)) (And.intro (show vp_in 18 82 from vin_l (by decide +kernel)) (cQ.of (h1 c1))))) (fun c2 => (And.intro (h2 c2) (And.intro (h3 c2) (And.intro (Nat.le_of_ble_eq_true rfl) (h4 c2))))))
-- 228: DogDecreesModel.lay(I)I
set_option maxRecDepth 100000 in
theorem k_228_0 {x1 : Int32}
    (h1 : cS d 208 [(.ref 279), (.int x1)] (mkH hi hl sw kp) (am_ret (cW cd_228 d Q) 5 [some (.ref 279), some (.int x1)] []))
    : cW cd_228 d Q 0 [some (.ref 279), some (.int x1)] [] (mkH hi hl sw kp) :=
  cW.run (am_in [5, 27]) 3 (cC.of (h1))
theorem e_228 {x1 : Int32}
    (h1 : cS d 208 [(.ref 279), (.int x1)] (mkH hi hl sw kp) (am_ret (cW cd_228 d Q) 5 [some (.ref 279), some (.int x1)] []))
    : cS (d + 1) 228 [(.ref 279), (.int x1)] (mkH hi hl sw kp) Q := cS.of rfl (k_228_0 h1)
set_option maxRecDepth 100000 in
theorem k_228_5 {x1 : Int32} {s0 : Int32}
    (h1 : s0 = 0 → Q (some (.int (-1))) (mkH hi hl sw kp))
    (h2 : ¬ (s0 = 0) → vp_in ((0) + x1) 82)
    (h3 : ¬ (s0 = 0) → (hi 299 ((0) + x1).toNatClampNeg) = (9) → Q (some (.int (-1))) (mkH hi hl sw kp))
    (h4 : ¬ (s0 = 0) → ¬ ((hi 299 ((0) + x1).toNatClampNeg) = (9)) → cS d 223 [(.ref 279)] (mkH hi hl sw kp) (am_ret (cW cd_228 d Q) 27 [some (.ref 279), some (.int x1)] []))
    : cW cd_228 d Q 5 [some (.ref 279), some (.int x1)] [(.int s0)] (mkH hi hl sw kp) :=
  cW.run (am_in [5, 27]) 11 (And.intro (fun c1 => (cQ.of (h1 c1))) (fun c2 => (And.intro (h2 c2) (And.intro (fun c3 => (cQ.of (h3 c2 c3))) (fun c4 => (cC.of (h4 c2 c4)))))))
set_option maxRecDepth 100000 in
theorem k_228_27 {x1 : Int32}
    (h1 : vp_in ((0) + x1) 82)
    (h2 : vp_in ((0) + x1) 82)
    (h3 : vp_in ((0) + x1) 82)
    (h4 : Q (some (.int ((u2 hi 299 ((0) + x1).toNatClampNeg ((hi 299 ((0) + x1).toNatClampNeg) + (1))) 299 ((0) + x1).toNatClampNeg))) (mkH (u2 hi 299 ((0) + x1).toNatClampNeg ((hi 299 ((0) + x1).toNatClampNeg) + (1))) hl sw kp))
    : cW cd_228 d Q 27 [some (.ref 279), some (.int x1)] [] (mkH hi hl sw kp) :=
  cW.run (am_in [5, 27]) 17 (And.intro rfl (And.intro rfl (And.intro (h1) (And.intro (h2) (And.intro (h3) (cQ.of (h4)))))))
-- 229: DogDecreesModel.take(I)I
set_option maxRecDepth 100000 in
theorem k_229_0 {x1 : Int32}
    (h1 : cS d 208 [(.ref 279), (.int x1)] (mkH hi hl sw kp) (am_ret (cW cd_229 d Q) 5 [some (.ref 279), some (.int x1)] []))
    : cW cd_229 d Q 0 [some (.ref 279), some (.int x1)] [] (mkH hi hl sw kp) :=
  cW.run (am_in [5, 25]) 3 (cC.of (h1))
theorem e_229 {x1 : Int32}
    (h1 : cS d 208 [(.ref 279), (.int x1)] (mkH hi hl sw kp) (am_ret (cW cd_229 d Q) 5 [some (.ref 279), some (.int x1)] []))
    : cS (d + 1) 229 [(.ref 279), (.int x1)] (mkH hi hl sw kp) Q := cS.of rfl (k_229_0 h1)
set_option maxRecDepth 100000 in
theorem k_229_5 {x1 : Int32} {s0 : Int32}
    (h1 : s0 = 0 → Q (some (.int (-1))) (mkH hi hl sw kp))
    (h2 : ¬ (s0 = 0) → vp_in ((0) + x1) 82)
    (h3 : ¬ (s0 = 0) → (hi 299 ((0) + x1).toNatClampNeg) = 0 → Q (some (.int (-1))) (mkH hi hl sw kp))
    (h4 : ¬ (s0 = 0) → ¬ ((hi 299 ((0) + x1).toNatClampNeg) = 0) → cS d 223 [(.ref 279)] (mkH hi hl sw kp) (am_ret (cW cd_229 d Q) 25 [some (.ref 279), some (.int x1)] []))
    : cW cd_229 d Q 5 [some (.ref 279), some (.int x1)] [(.int s0)] (mkH hi hl sw kp) :=
  cW.run (am_in [5, 25]) 10 (And.intro (fun c1 => (cQ.of (h1 c1))) (fun c2 => (And.intro (h2 c2) (And.intro (fun c3 => (cQ.of (h3 c2 c3))) (fun c4 => (cC.of (h4 c2 c4)))))))
set_option maxRecDepth 100000 in
theorem k_229_25 {x1 : Int32}
    (h1 : vp_in ((0) + x1) 82)
    (h2 : vp_in ((0) + x1) 82)
    (h3 : vp_in ((0) + x1) 82)
    (h4 : Q (some (.int ((u2 hi 299 ((0) + x1).toNatClampNeg ((hi 299 ((0) + x1).toNatClampNeg) - (1))) 299 ((0) + x1).toNatClampNeg))) (mkH (u2 hi 299 ((0) + x1).toNatClampNeg ((hi 299 ((0) + x1).toNatClampNeg) - (1))) hl sw kp))
    : cW cd_229 d Q 25 [some (.ref 279), some (.int x1)] [] (mkH hi hl sw kp) :=
  cW.run (am_in [5, 25]) 17 (And.intro rfl (And.intro rfl (And.intro (h1) (And.intro (h2) (And.intro (h3) (cQ.of (h4)))))))
-- 230: DogDecreesModel.undo()Z
set_option maxRecDepth 100000 in
theorem k_230_0
    (h1 : (hi 279 66) = 0 → Q (some (.int (0))) (mkH hi hl sw kp))
    (h2 : ¬ ((hi 279 66) = 0) → cS d 224 [(.ref 279), (.int ((82) * ((hi 279 66) - (1))))] (mkH (u2 (u2 hi 279 66 ((hi 279 66) - (1))) 279 67 ((hi 279 67) + (1))) hl sw kp) (am_ret (cW cd_230 d Q) 40 [some (.ref 279)] []))
    : cW cd_230 d Q 0 [some (.ref 279)] [] (mkH hi hl sw kp) :=
  cW.run (am_in [40]) 21 (And.intro (fun c1 => (And.intro (Or.inl rfl) (cQ.of (h1 c1)))) (fun c2 => (And.intro rfl (And.intro rfl (cC.of (h2 c2))))))
theorem e_230
    (h1 : (hi 279 66) = 0 → Q (some (.int (0))) (mkH hi hl sw kp))
    (h2 : ¬ ((hi 279 66) = 0) → cS d 224 [(.ref 279), (.int ((82) * ((hi 279 66) - (1))))] (mkH (u2 (u2 hi 279 66 ((hi 279 66) - (1))) 279 67 ((hi 279 67) + (1))) hl sw kp) (am_ret (cW cd_230 d Q) 40 [some (.ref 279)] []))
    : cS (d + 1) 230 [(.ref 279)] (mkH hi hl sw kp) Q := cS.of rfl (k_230_0 h1 h2)
set_option maxRecDepth 100000 in
theorem k_230_40
    (h1 : Q (some (.int (1))) (mkH hi hl sw kp))
    : cW cd_230 d Q 40 [some (.ref 279)] [] (mkH hi hl sw kp) :=
  cW.run (am_in [40]) 2 (And.intro (Or.inr rfl) (cQ.of (h1)))
-- 231: DogDecreesModel.redo()Z
set_option maxRecDepth 100000 in
theorem k_231_0
    (h1 : (hi 279 67) = 0 → Q (some (.int (0))) (mkH hi hl sw kp))
    (h2 : ¬ ((hi 279 67) = 0) → cS d 224 [(.ref 279), (.int ((82) * (hi 279 66)))] (mkH hi hl sw kp) (am_ret (cW cd_231 d Q) 20 [some (.ref 279)] []))
    : cW cd_231 d Q 0 [some (.ref 279)] [] (mkH hi hl sw kp) :=
  cW.run (am_in [20]) 9 (And.intro (fun c1 => (And.intro (Or.inl rfl) (cQ.of (h1 c1)))) (fun c2 => (cC.of (h2 c2))))
theorem e_231
    (h1 : (hi 279 67) = 0 → Q (some (.int (0))) (mkH hi hl sw kp))
    (h2 : ¬ ((hi 279 67) = 0) → cS d 224 [(.ref 279), (.int ((82) * (hi 279 66)))] (mkH hi hl sw kp) (am_ret (cW cd_231 d Q) 20 [some (.ref 279)] []))
    : cS (d + 1) 231 [(.ref 279)] (mkH hi hl sw kp) Q := cS.of rfl (k_231_0 h1 h2)
set_option maxRecDepth 100000 in
theorem k_231_20
    (h1 : Q (some (.int (1))) (mkH (u2 (u2 hi 279 66 ((hi 279 66) + (1))) 279 67 ((hi 279 67) - (1))) hl sw kp))
    : cW cd_231 d Q 20 [some (.ref 279)] [] (mkH hi hl sw kp) :=
  cW.run (am_in [20]) 14 (And.intro rfl (And.intro rfl (And.intro (Or.inr rfl) (cQ.of (h1)))))
-- 232: DogDecreesModel.goOdds()V
set_option maxRecDepth 100000 in
theorem k_232_0
    (h1 : cS d 217 [(.ref 279)] (mkH hi hl sw kp) (am_ret (cW cd_232 d Q) 4 [some (.ref 279), none, none] []))
    : cW cd_232 d Q 0 [some (.ref 279), none, none] [] (mkH hi hl sw kp) :=
  cW.run (am_in [4, 6, 21, 71, 99]) 2 (cC.of (h1))
theorem e_232
    (h1 : cS d 217 [(.ref 279)] (mkH hi hl sw kp) (am_ret (cW cd_232 d Q) 4 [some (.ref 279), none, none] []))
    : cS (d + 1) 232 [(.ref 279)] (mkH hi hl sw kp) Q := cS.of rfl (k_232_0 h1)
set_option maxRecDepth 100000 in
theorem k_232_4
    (h1 : cW cd_232 d Q 6 [some (.ref 279), some (.int (0)), none] [] (mkH hi hl sw kp))
    : cW cd_232 d Q 4 [some (.ref 279), none, none] [] (mkH hi hl sw kp) :=
  cW.run (am_in [4, 6, 21, 71, 99]) 2 (And.intro (Nat.le_of_ble_eq_true rfl) (h1))
set_option maxRecDepth 100000 in
theorem k_232_6 {x1 : Int32} {o2 : Option Value}
    (h1 : (8) ≤ x1 → cW cd_232 d Q 71 [some (.ref 279), some (.int (0)), o2] [] (mkH hi hl sw kp))
    (h2 : ¬ ((8) ≤ x1) → vp_in x1 8)
    (h3 : ¬ ((8) ≤ x1) → cW cd_232 d Q 21 [some (.ref 279), some (.int x1), some (.int (0))] [] (mkH hi (u2 hl 305 x1.toNatClampNeg 0) sw kp))
    : cW cd_232 d Q 6 [some (.ref 279), some (.int x1), o2] [] (mkH hi hl sw kp) :=
  cW.run (am_in [4, 6, 21, 71, 99]) 10 (And.intro (fun c1 => (And.intro (Nat.le_of_ble_eq_true rfl) (h1 c1))) (fun c2 => (And.intro (h2 c2) (And.intro (Nat.le_of_ble_eq_true rfl) (h3 c2)))))
set_option maxRecDepth 100000 in
theorem k_232_21 {x1 : Int32} {x2 : Int32}
    (h1 : (hi 279 46) ≤ x2 → cW cd_232 d Q 6 [some (.ref 279), some (.int (x1 + (1))), some (.int x2)] [] (mkH hi hl sw kp))
    (h2 : ¬ ((hi 279 46) ≤ x2) → vp_in x1 8)
    (h3 : ¬ ((hi 279 46) ≤ x2) → vp_in x2 8)
    (h4 : ¬ ((hi 279 46) ≤ x2) → vp_in (((8) * x2) + x1) 64)
    (h5 : ¬ ((hi 279 46) ≤ x2) → vp_in x1 8)
    (h6 : ¬ ((hi 279 46) ≤ x2) → cW cd_232 d Q 21 [some (.ref 279), some (.int x1), some (.int (x2 + (1)))] [] (mkH hi (u2 hl 305 x1.toNatClampNeg ((hl 305 x1.toNatClampNeg) + ((hl 304 x2.toNatClampNeg) * ((hi 302 (((8) * x2) + x1).toNatClampNeg).toInt64)))) sw kp))
    : cW cd_232 d Q 21 [some (.ref 279), some (.int x1), some (.int x2)] [] (mkH hi hl sw kp) :=
  cW.run (am_in [4, 6, 21, 71, 99]) 27 (And.intro (fun c1 => (And.intro (Nat.le_of_ble_eq_true rfl) (h1 c1))) (fun c2 => (And.intro rfl (And.intro rfl (And.intro (h2 c2) (And.intro (h3 c2) (And.intro (h4 c2) (And.intro (h5 c2) (And.intro (Nat.le_of_ble_eq_true rfl) (h6 c2))))))))))
set_option maxRecDepth 100000 in
theorem k_232_71 {x1 : Int32} {o2 : Option Value}
    (h1 : (8) ≤ x1 → cS d 212 [(.ref 279)] (mkH hi hl sw kp) (am_ret (cW cd_232 d Q) 99 [some (.ref 279), some (.int x1), o2] []))
    (h2 : ¬ ((8) ≤ x1) → vp_in x1 8)
    (h3 : ¬ ((8) ≤ x1) → vp_in x1 8)
    (h4 : ¬ ((8) ≤ x1) → cW cd_232 d Q 71 [some (.ref 279), some (.int (x1 + (1))), o2] [] (mkH hi (u2 hl 304 x1.toNatClampNeg (hl 305 x1.toNatClampNeg)) sw kp))
    : cW cd_232 d Q 71 [some (.ref 279), some (.int x1), o2] [] (mkH hi hl sw kp) :=
  cW.run (am_in [4, 6, 21, 71, 99]) 13 (And.intro (fun c1 => (cC.of (h1 c1))) (fun c2 => (And.intro (h2 c2) (And.intro (h3 c2) (And.intro (Nat.le_of_ble_eq_true rfl) (h4 c2))))))
set_option maxRecDepth 100000 in
theorem k_232_99 {x1 : Int32} {o2 : Option Value}
    (h1 : Q none (mkH hi hl sw kp))
    : cW cd_232 d Q 99 [some (.ref 279), some (.int x1), o2] [] (mkH hi hl sw kp) :=
  cW.run (am_in [4, 6, 21, 71, 99]) 1 (cQ.of (h1))
-- 233: DogDecreesModel.layOdds(I)V
set_option maxRecDepth 100000 in
theorem k_233_0 {x1 : Int32}
    (h1 : cS d 211 [(.ref 279)] (mkH hi hl sw kp) (am_ret (cW cd_233 d Q) 4 [some (.ref 279), some (.int x1), none] []))
    : cW cd_233 d Q 0 [some (.ref 279), some (.int x1), none] [] (mkH hi hl sw kp) :=
  cW.run (am_in [4, 6, 42, 51]) 2 (cC.of (h1))
theorem e_233 {x1 : Int32}
    (h1 : cS d 211 [(.ref 279)] (mkH hi hl sw kp) (am_ret (cW cd_233 d Q) 4 [some (.ref 279), some (.int x1), none] []))
    : cS (d + 1) 233 [(.ref 279), (.int x1)] (mkH hi hl sw kp) Q := cS.of rfl (k_233_0 h1)
set_option maxRecDepth 100000 in
theorem k_233_4 {x1 : Int32}
    (h1 : cW cd_233 d Q 6 [some (.ref 279), some (.int x1), some (.int (0))] [] (mkH hi hl sw kp))
    : cW cd_233 d Q 4 [some (.ref 279), some (.int x1), none] [] (mkH hi hl sw kp) :=
  cW.run (am_in [4, 6, 42, 51]) 2 (And.intro (Nat.le_of_ble_eq_true rfl) (h1))
set_option maxRecDepth 100000 in
theorem k_233_6 {x1 : Int32} {x2 : Int32}
    (h1 : (8) ≤ x2 → cW cd_233 d Q 42 [some (.ref 279), some (.int x1), some (.int (0))] [] (mkH hi hl sw kp))
    (h2 : ¬ ((8) ≤ x2) → x2 = (hi 299 16) → vp_in x2 8)
    (h3 : ¬ ((8) ≤ x2) → x2 = (hi 299 16) → cW cd_233 d Q 6 [some (.ref 279), some (.int x1), some (.int (x2 + (1)))] [] (mkH hi (u2 hl 304 x2.toNatClampNeg 1) sw kp))
    (h4 : ¬ ((8) ≤ x2) → ¬ (x2 = (hi 299 16)) → vp_in x2 8)
    (h5 : ¬ ((8) ≤ x2) → ¬ (x2 = (hi 299 16)) → cW cd_233 d Q 6 [some (.ref 279), some (.int x1), some (.int (x2 + (1)))] [] (mkH hi (u2 hl 304 x2.toNatClampNeg 0) sw kp))
    : cW cd_233 d Q 6 [some (.ref 279), some (.int x1), some (.int x2)] [] (mkH hi hl sw kp) :=
  cW.run (am_in [4, 6, 42, 51]) 17 (And.intro (fun c1 => (And.intro (Nat.le_of_ble_eq_true rfl) (h1 c1))) (fun c2 => (And.intro (show vp_in 16 82 from vin_l (by decide +kernel)) (And.intro (fun c3 => (And.intro (h2 c2 c3) (And.intro (Nat.le_of_ble_eq_true rfl) (h3 c2 c3)))) (fun c4 => (And.intro (h4 c2 c4) (And.intro (Nat.le_of_ble_eq_true rfl) (h5 c2 c4))))))))
set_option maxRecDepth 100000 in
theorem k_233_42 {x1 : Int32} {x2 : Int32}
    (h1 : x1 ≤ x2 → Q none (mkH hi hl sw kp))
    (h2 : ¬ (x1 ≤ x2) → cS d 232 [(.ref 279)] (mkH hi hl sw kp) (am_ret (cW cd_233 d Q) 51 [some (.ref 279), some (.int x1), some (.int x2)] []))
    : cW cd_233 d Q 42 [some (.ref 279), some (.int x1), some (.int x2)] [] (mkH hi hl sw kp) :=
  cW.run (am_in [4, 6, 42, 51]) 5 (And.intro (fun c1 => (cQ.of (h1 c1))) (fun c2 => (cC.of (h2 c2))))
set_option maxRecDepth 100000 in
theorem k_233_51 {x1 : Int32} {x2 : Int32}
    (h1 : cW cd_233 d Q 42 [some (.ref 279), some (.int x1), some (.int (x2 + (1)))] [] (mkH hi hl sw kp))
    : cW cd_233 d Q 51 [some (.ref 279), some (.int x1), some (.int x2)] [] (mkH hi hl sw kp) :=
  cW.run (am_in [4, 6, 42, 51]) 2 (And.intro (Nat.le_of_ble_eq_true rfl) (h1))
-- 234: DogDecreesModel.allOf(I)J
set_option maxRecDepth 100000 in
theorem k_234_0 {x0 : Int32}
    (h1 : cW cd_234 d Q 4 [some (.int x0), some (.long 1), none, some (.int (0))] [] (mkH hi hl sw kp))
    : cW cd_234 d Q 0 [some (.int x0), none, none, none] [] (mkH hi hl sw kp) :=
  cW.run (am_in [4]) 4 (And.intro (Nat.le_of_ble_eq_true rfl) (And.intro (Nat.le_of_ble_eq_true rfl) (h1)))
theorem e_234 {x0 : Int32}
    (h1 : cW cd_234 d Q 4 [some (.int x0), some (.long 1), none, some (.int (0))] [] (mkH hi hl sw kp))
    : cS (d + 1) 234 [(.int x0)] (mkH hi hl sw kp) Q := cS.of rfl (k_234_0 h1)
set_option maxRecDepth 100000 in
theorem k_234_4 {x0 : Int32} {x1 : Int64} {x3 : Int32}
    (h1 : x0 ≤ x3 → Q (some (.long x1)) (mkH hi hl sw kp))
    (h2 : ¬ (x0 ≤ x3) → cW cd_234 d Q 4 [some (.int x0), some (.long (x1 * (60))), none, some (.int (x3 + (1)))] [] (mkH hi hl sw kp))
    : cW cd_234 d Q 4 [some (.int x0), some (.long x1), none, some (.int x3)] [] (mkH hi hl sw kp) :=
  cW.run (am_in [4]) 9 (And.intro (fun c1 => (cQ.of (h1 c1))) (fun c2 => (And.intro (Nat.le_of_ble_eq_true rfl) (And.intro (Nat.le_of_ble_eq_true rfl) (h2 c2)))))
-- 235: DogDecreesModel.common(JJ)J
set_option maxRecDepth 100000 in
theorem k_235_0 {x0 : Int64} {x2 : Int64}
    (h1 : cW cd_235 d Q 6 [some (.long x0), none, some (.long x2), none, some (.long x0), none, some (.long x2), none, none, none] [] (mkH hi hl sw kp))
    : cW cd_235 d Q 0 [some (.long x0), none, some (.long x2), none, none, none, none, none, none, none] [] (mkH hi hl sw kp) :=
  cW.run (am_in [6]) 4 (And.intro (Nat.le_of_ble_eq_true rfl) (And.intro (Nat.le_of_ble_eq_true rfl) (h1)))
theorem e_235 {x0 : Int64} {x2 : Int64}
    (h1 : cW cd_235 d Q 6 [some (.long x0), none, some (.long x2), none, some (.long x0), none, some (.long x2), none, none, none] [] (mkH hi hl sw kp))
    : cS (d + 1) 235 [(.long x0), (.long x2)] (mkH hi hl sw kp) Q := cS.of rfl (k_235_0 h1)
set_option maxRecDepth 100000 in
theorem k_235_6 {x0 : Int64} {x2 : Int64} {x4 : Int64} {x6 : Int64} {o8 : Option Value}
    (h1 : (lg_cmp x6 0) ≤ 0 → Q (some (.long x4)) (mkH hi hl sw kp))
    (h2 : ¬ ((lg_cmp x6 0) ≤ 0) → ¬ x6 = 0)
    (h3 : ¬ ((lg_cmp x6 0) ≤ 0) → cW cd_235 d Q 6 [some (.long x0), none, some (.long x2), none, some (.long x6), none, some (.long (x4 - x4 / x6 * x6)), none, some (.long (x4 - x4 / x6 * x6)), none] [] (mkH hi hl sw kp))
    : cW cd_235 d Q 6 [some (.long x0), none, some (.long x2), none, some (.long x4), none, some (.long x6), none, o8, none] [] (mkH hi hl sw kp) :=
  cW.run (am_in [6]) 13 (And.intro (fun c1 => (cQ.of (h1 c1))) (fun c2 => (And.intro (h2 c2) (And.intro (Nat.le_of_ble_eq_true rfl) (And.intro (Nat.le_of_ble_eq_true rfl) (And.intro (Nat.le_of_ble_eq_true rfl) (h3 c2)))))))
-- 236: DogDecreesModel.partOf(JJI)J
set_option maxRecDepth 100000 in
theorem k_236_0 {x0 : Int64} {x2 : Int64} {x4 : Int32}
    (h1 : cS d 235 [(.long x2), (.long x0)] (mkH hi hl sw kp) (am_ret (cW cd_236 d Q) 5 [some (.long x0), none, some (.long x2), none, some (.int x4), none, none] []))
    : cW cd_236 d Q 0 [some (.long x0), none, some (.long x2), none, some (.int x4), none, none] [] (mkH hi hl sw kp) :=
  cW.run (am_in [5]) 3 (cC.of (h1))
theorem e_236 {x0 : Int64} {x2 : Int64} {x4 : Int32}
    (h1 : cS d 235 [(.long x2), (.long x0)] (mkH hi hl sw kp) (am_ret (cW cd_236 d Q) 5 [some (.long x0), none, some (.long x2), none, some (.int x4), none, none] []))
    : cS (d + 1) 236 [(.long x0), (.long x2), (.int x4)] (mkH hi hl sw kp) Q := cS.of rfl (k_236_0 h1)
set_option maxRecDepth 100000 in
theorem k_236_5 {x0 : Int64} {x2 : Int64} {x4 : Int32} {s0 : Int64}
    (h1 : x4 = 0 → ¬ s0 = 0)
    (h2 : x4 = 0 → Q (some (.long (x0 / s0))) (mkH hi hl sw kp))
    (h3 : ¬ (x4 = 0) → ¬ s0 = 0)
    (h4 : ¬ (x4 = 0) → Q (some (.long (x2 / s0))) (mkH hi hl sw kp))
    : cW cd_236 d Q 5 [some (.long x0), none, some (.long x2), none, some (.int x4), none, none] [(.long s0)] (mkH hi hl sw kp) :=
  cW.run (am_in [5]) 8 (And.intro (Nat.le_of_ble_eq_true rfl) (And.intro (fun c1 => (And.intro (h1 c1) (cQ.of (h2 c1)))) (fun c2 => (And.intro (h3 c2) (cQ.of (h4 c2))))))
-- 237: DogDecreesModel.where(III)J
set_option maxRecDepth 100000 in
theorem k_237_0 {x1 : Int32} {x2 : Int32} {x3 : Int32}
    (h1 : cS d 208 [(.ref 279), (.int x1)] (mkH hi hl sw kp) (am_ret (cW cd_237 d Q) 5 [some (.ref 279), some (.int x1), some (.int x2), some (.int x3)] []))
    : cW cd_237 d Q 0 [some (.ref 279), some (.int x1), some (.int x2), some (.int x3)] [] (mkH hi hl sw kp) :=
  cW.run (am_in [5, 15, 24, 36, 46, 50]) 3 (cC.of (h1))
theorem e_237 {x1 : Int32} {x2 : Int32} {x3 : Int32}
    (h1 : cS d 208 [(.ref 279), (.int x1)] (mkH hi hl sw kp) (am_ret (cW cd_237 d Q) 5 [some (.ref 279), some (.int x1), some (.int x2), some (.int x3)] []))
    : cS (d + 1) 237 [(.ref 279), (.int x1), (.int x2), (.int x3)] (mkH hi hl sw kp) Q := cS.of rfl (k_237_0 h1)
set_option maxRecDepth 100000 in
theorem k_237_5 {x1 : Int32} {x2 : Int32} {x3 : Int32} {s0 : Int32}
    (h1 : s0 = 0 → Q (some (.long (-1))) (mkH hi hl sw kp))
    (h2 : ¬ (s0 = 0) → cS d 207 [(.int x2), (.int (0)), (.int (8))] (mkH hi hl sw kp) (am_ret (cW cd_237 d Q) 15 [some (.ref 279), some (.int x1), some (.int x2), some (.int x3)] []))
    : cW cd_237 d Q 5 [some (.ref 279), some (.int x1), some (.int x2), some (.int x3)] [(.int s0)] (mkH hi hl sw kp) :=
  cW.run (am_in [5, 15, 24, 36, 46, 50]) 5 (And.intro (fun c1 => (cQ.of (h1 c1))) (fun c2 => (cC.of (h2 c2))))
set_option maxRecDepth 100000 in
theorem k_237_15 {x1 : Int32} {x2 : Int32} {x3 : Int32} {s0 : Int32}
    (h1 : s0 = 0 → Q (some (.long (-1))) (mkH hi hl sw kp))
    (h2 : ¬ (s0 = 0) → cS d 207 [(.int x3), (.int (0)), (.int (1))] (mkH hi hl sw kp) (am_ret (cW cd_237 d Q) 24 [some (.ref 279), some (.int x1), some (.int x2), some (.int x3)] []))
    : cW cd_237 d Q 15 [some (.ref 279), some (.int x1), some (.int x2), some (.int x3)] [(.int s0)] (mkH hi hl sw kp) :=
  cW.run (am_in [5, 15, 24, 36, 46, 50]) 5 (And.intro (fun c1 => (cQ.of (h1 c1))) (fun c2 => (cC.of (h2 c2))))
set_option maxRecDepth 100000 in
theorem k_237_24 {x1 : Int32} {x2 : Int32} {x3 : Int32} {s0 : Int32}
    (h1 : s0 = 0 → Q (some (.long (-1))) (mkH hi hl sw kp))
    (h2 : ¬ (s0 = 0) → cS d 233 [(.ref 279), (.int x2)] (mkH hi hl sw kp) (am_ret (cW cd_237 d Q) 36 [some (.ref 279), some (.int x1), some (.int x2), some (.int x3)] []))
    : cW cd_237 d Q 24 [some (.ref 279), some (.int x1), some (.int x2), some (.int x3)] [(.int s0)] (mkH hi hl sw kp) :=
  cW.run (am_in [5, 15, 24, 36, 46, 50]) 4 (And.intro (fun c1 => (cQ.of (h1 c1))) (fun c2 => (cC.of (h2 c2))))
set_option maxRecDepth 100000 in
theorem k_237_36 {x1 : Int32} {x2 : Int32} {x3 : Int32}
    (h1 : vp_in x1 8)
    (h2 : cS d 234 [(.int x2)] (mkH hi hl sw kp) (am_ret (cW cd_237 d Q) 46 [some (.ref 279), some (.int x1), some (.int x2), some (.int x3)] [(.long (hl 304 x1.toNatClampNeg))]))
    : cW cd_237 d Q 36 [some (.ref 279), some (.int x1), some (.int x2), some (.int x3)] [] (mkH hi hl sw kp) :=
  cW.run (am_in [5, 15, 24, 36, 46, 50]) 6 (And.intro (h1) (cC.of (h2)))
set_option maxRecDepth 100000 in
theorem k_237_46 {x1 : Int32} {x2 : Int32} {x3 : Int32} {s0 : Int64} {s1 : Int64}
    (h1 : cS d 236 [(.long s0), (.long s1), (.int x3)] (mkH hi hl sw kp) (am_ret (cW cd_237 d Q) 50 [some (.ref 279), some (.int x1), some (.int x2), some (.int x3)] []))
    : cW cd_237 d Q 46 [some (.ref 279), some (.int x1), some (.int x2), some (.int x3)] [(.long s1), (.long s0)] (mkH hi hl sw kp) :=
  cW.run (am_in [5, 15, 24, 36, 46, 50]) 2 (cC.of (h1))
set_option maxRecDepth 100000 in
theorem k_237_50 {x1 : Int32} {x2 : Int32} {x3 : Int32} {s0 : Int64}
    (h1 : Q (some (.long s0)) (mkH hi hl sw kp))
    : cW cd_237 d Q 50 [some (.ref 279), some (.int x1), some (.int x2), some (.int x3)] [(.long s0)] (mkH hi hl sw kp) :=
  cW.run (am_in [5, 15, 24, 36, 46, 50]) 1 (cQ.of (h1))
-- 238: DogDecreesModel.likely(I)I
set_option maxRecDepth 100000 in
theorem k_238_0 {x1 : Int32}
    (h1 : (hi 279 46) = 0 → Q (some (.int (-1))) (mkH hi hl sw kp))
    (h2 : ¬ ((hi 279 46) = 0) → cS d 207 [(.int x1), (.int (0)), (.int (8))] (mkH hi hl sw kp) (am_ret (cW cd_238 d Q) 14 [some (.ref 279), some (.int x1), none, none] []))
    : cW cd_238 d Q 0 [some (.ref 279), some (.int x1), none, none] [] (mkH hi hl sw kp) :=
  cW.run (am_in [14, 24, 28]) 7 (And.intro (fun c1 => (cQ.of (h1 c1))) (fun c2 => (cC.of (h2 c2))))
theorem e_238 {x1 : Int32}
    (h1 : (hi 279 46) = 0 → Q (some (.int (-1))) (mkH hi hl sw kp))
    (h2 : ¬ ((hi 279 46) = 0) → cS d 207 [(.int x1), (.int (0)), (.int (8))] (mkH hi hl sw kp) (am_ret (cW cd_238 d Q) 14 [some (.ref 279), some (.int x1), none, none] []))
    : cS (d + 1) 238 [(.ref 279), (.int x1)] (mkH hi hl sw kp) Q := cS.of rfl (k_238_0 h1 h2)
set_option maxRecDepth 100000 in
theorem k_238_14 {x1 : Int32} {s0 : Int32}
    (h1 : s0 = 0 → Q (some (.int (-1))) (mkH hi hl sw kp))
    (h2 : ¬ (s0 = 0) → cS d 233 [(.ref 279), (.int x1)] (mkH hi hl sw kp) (am_ret (cW cd_238 d Q) 24 [some (.ref 279), some (.int x1), none, none] []))
    : cW cd_238 d Q 14 [some (.ref 279), some (.int x1), none, none] [(.int s0)] (mkH hi hl sw kp) :=
  cW.run (am_in [14, 24, 28]) 4 (And.intro (fun c1 => (cQ.of (h1 c1))) (fun c2 => (cC.of (h2 c2))))
set_option maxRecDepth 100000 in
theorem k_238_24 {x1 : Int32}
    (h1 : cW cd_238 d Q 28 [some (.ref 279), some (.int x1), some (.int (0)), some (.int (1))] [] (mkH hi hl sw kp))
    : cW cd_238 d Q 24 [some (.ref 279), some (.int x1), none, none] [] (mkH hi hl sw kp) :=
  cW.run (am_in [14, 24, 28]) 4 (And.intro (Nat.le_of_ble_eq_true rfl) (And.intro (Nat.le_of_ble_eq_true rfl) (h1)))
set_option maxRecDepth 100000 in
theorem k_238_28 {x1 : Int32} {x2 : Int32} {x3 : Int32}
    (h1 : (hi 279 46) ≤ x3 → Q (some (.int x2)) (mkH hi hl sw kp))
    (h2 : ¬ ((hi 279 46) ≤ x3) → vp_in x3 8)
    (h3 : ¬ ((hi 279 46) ≤ x3) → vp_in x2 8)
    (h4 : ¬ ((hi 279 46) ≤ x3) → (lg_cmp (hl 304 x3.toNatClampNeg) (hl 304 x2.toNatClampNeg)) ≤ 0 → cW cd_238 d Q 28 [some (.ref 279), some (.int x1), some (.int x2), some (.int (x3 + (1)))] [] (mkH hi hl sw kp))
    (h5 : ¬ ((hi 279 46) ≤ x3) → ¬ ((lg_cmp (hl 304 x3.toNatClampNeg) (hl 304 x2.toNatClampNeg)) ≤ 0) → cW cd_238 d Q 28 [some (.ref 279), some (.int x1), some (.int x3), some (.int (x3 + (1)))] [] (mkH hi hl sw kp))
    : cW cd_238 d Q 28 [some (.ref 279), some (.int x1), some (.int x2), some (.int x3)] [] (mkH hi hl sw kp) :=
  cW.run (am_in [14, 24, 28]) 19 (And.intro (fun c1 => (cQ.of (h1 c1))) (fun c2 => (And.intro (h2 c2) (And.intro (h3 c2) (And.intro (fun c3 => (And.intro (Nat.le_of_ble_eq_true rfl) (And.intro (Nat.le_of_ble_eq_true rfl) (h4 c2 c3)))) (fun c4 => (And.intro (Nat.le_of_ble_eq_true rfl) (And.intro (Nat.le_of_ble_eq_true rfl) (h5 c2 c4)))))))))
-- 239: DogDecreesModel.scoreBy(III)I
set_option maxRecDepth 100000 in
theorem k_239_0 {x1 : Int32} {x2 : Int32} {x3 : Int32}
    (h1 : vp_in x3 8)
    (h2 : vp_in (((4) * (hi 295 x3.toNatClampNeg)) + x1) 16)
    (h3 : vp_in x1 4)
    (h4 : ((x2 - (15)) + (hi 298 (((4) * (hi 295 x3.toNatClampNeg)) + x1).toNatClampNeg)) < (hi 297 x1.toNatClampNeg) → vp_in x1 4)
    (h5 : ((x2 - (15)) + (hi 298 (((4) * (hi 295 x3.toNatClampNeg)) + x1).toNatClampNeg)) < (hi 297 x1.toNatClampNeg) → (-(hi 297 x1.toNatClampNeg)) < ((x2 - (15)) + (hi 298 (((4) * (hi 295 x3.toNatClampNeg)) + x1).toNatClampNeg)) → Q (some (.int (((x2 - (15)) + (hi 298 (((4) * (hi 295 x3.toNatClampNeg)) + x1).toNatClampNeg)) + (15)))) (mkH hi hl sw kp))
    (h6 : ((x2 - (15)) + (hi 298 (((4) * (hi 295 x3.toNatClampNeg)) + x1).toNatClampNeg)) < (hi 297 x1.toNatClampNeg) → ¬ ((-(hi 297 x1.toNatClampNeg)) < ((x2 - (15)) + (hi 298 (((4) * (hi 295 x3.toNatClampNeg)) + x1).toNatClampNeg))) → Q (some (.int (-1))) (mkH hi hl sw kp))
    (h7 : ¬ (((x2 - (15)) + (hi 298 (((4) * (hi 295 x3.toNatClampNeg)) + x1).toNatClampNeg)) < (hi 297 x1.toNatClampNeg)) → Q (some (.int (31))) (mkH hi hl sw kp))
    : cW cd_239 d Q 0 [some (.ref 279), some (.int x1), some (.int x2), some (.int x3), none] [] (mkH hi hl sw kp) :=
  cW.run (am_in []) 33 (And.intro (h1) (And.intro (h2) (And.intro (Nat.le_of_ble_eq_true rfl) (And.intro (h3) (And.intro (fun c1 => (And.intro (h4 c1) (And.intro (fun c2 => (cQ.of (h5 c1 c2))) (fun c3 => (cQ.of (h6 c1 c3)))))) (fun c4 => (cQ.of (h7 c4))))))))
theorem e_239 {x1 : Int32} {x2 : Int32} {x3 : Int32}
    (h1 : vp_in x3 8)
    (h2 : vp_in (((4) * (hi 295 x3.toNatClampNeg)) + x1) 16)
    (h3 : vp_in x1 4)
    (h4 : ((x2 - (15)) + (hi 298 (((4) * (hi 295 x3.toNatClampNeg)) + x1).toNatClampNeg)) < (hi 297 x1.toNatClampNeg) → vp_in x1 4)
    (h5 : ((x2 - (15)) + (hi 298 (((4) * (hi 295 x3.toNatClampNeg)) + x1).toNatClampNeg)) < (hi 297 x1.toNatClampNeg) → (-(hi 297 x1.toNatClampNeg)) < ((x2 - (15)) + (hi 298 (((4) * (hi 295 x3.toNatClampNeg)) + x1).toNatClampNeg)) → Q (some (.int (((x2 - (15)) + (hi 298 (((4) * (hi 295 x3.toNatClampNeg)) + x1).toNatClampNeg)) + (15)))) (mkH hi hl sw kp))
    (h6 : ((x2 - (15)) + (hi 298 (((4) * (hi 295 x3.toNatClampNeg)) + x1).toNatClampNeg)) < (hi 297 x1.toNatClampNeg) → ¬ ((-(hi 297 x1.toNatClampNeg)) < ((x2 - (15)) + (hi 298 (((4) * (hi 295 x3.toNatClampNeg)) + x1).toNatClampNeg))) → Q (some (.int (-1))) (mkH hi hl sw kp))
    (h7 : ¬ (((x2 - (15)) + (hi 298 (((4) * (hi 295 x3.toNatClampNeg)) + x1).toNatClampNeg)) < (hi 297 x1.toNatClampNeg)) → Q (some (.int (31))) (mkH hi hl sw kp))
    : cS (d + 1) 239 [(.ref 279), (.int x1), (.int x2), (.int x3)] (mkH hi hl sw kp) Q := cS.of rfl (k_239_0 h1 h2 h3 h4 h5 h6 h7)
-- 240: DogDecreesModel.goScores(I)V
set_option maxRecDepth 100000 in
theorem k_240_0 {x1 : Int32}
    (h1 : cS d 217 [(.ref 279)] (mkH hi hl sw kp) (am_ret (cW cd_240 d Q) 4 [some (.ref 279), some (.int x1), none, none, none, none, none, none, none] []))
    : cW cd_240 d Q 0 [some (.ref 279), some (.int x1), none, none, none, none, none, none, none] [] (mkH hi hl sw kp) :=
  cW.run (am_in [4, 12, 24, 46, 86, 135, 187, 216]) 2 (cC.of (h1))
theorem e_240 {x1 : Int32}
    (h1 : cS d 217 [(.ref 279)] (mkH hi hl sw kp) (am_ret (cW cd_240 d Q) 4 [some (.ref 279), some (.int x1), none, none, none, none, none, none, none] []))
    : cS (d + 1) 240 [(.ref 279), (.int x1)] (mkH hi hl sw kp) Q := cS.of rfl (k_240_0 h1)
set_option maxRecDepth 100000 in
theorem k_240_4 {x1 : Int32}
    (h1 : cS d 218 [(.ref 279), (.int (hi 279 61))] (mkH hi hl sw kp) (am_ret (cW cd_240 d Q) 12 [some (.ref 279), some (.int x1), none, none, none, none, none, none, none] []))
    : cW cd_240 d Q 4 [some (.ref 279), some (.int x1), none, none, none, none, none, none, none] [] (mkH hi hl sw kp) :=
  cW.run (am_in [4, 12, 24, 46, 86, 135, 187, 216]) 4 (cC.of (h1))
set_option maxRecDepth 100000 in
theorem k_240_12 {x1 : Int32} {s0 : Int32}
    (h1 : s0 = x1 → cW cd_240 d Q 24 [some (.ref 279), some (.int x1), some (.int (1)), some (.int (0)), none, none, none, none, none] [] (mkH hi hl sw kp))
    (h2 : ¬ (s0 = x1) → cW cd_240 d Q 24 [some (.ref 279), some (.int x1), some (.int (0)), some (.int (0)), none, none, none, none, none] [] (mkH hi hl sw kp))
    : cW cd_240 d Q 12 [some (.ref 279), some (.int x1), none, none, none, none, none, none, none] [(.int s0)] (mkH hi hl sw kp) :=
  cW.run (am_in [4, 12, 24, 46, 86, 135, 187, 216]) 7 (And.intro (fun c1 => (And.intro (Nat.le_of_ble_eq_true rfl) (And.intro (Nat.le_of_ble_eq_true rfl) (h1 c1)))) (fun c2 => (And.intro (Nat.le_of_ble_eq_true rfl) (And.intro (Nat.le_of_ble_eq_true rfl) (h2 c2)))))
set_option maxRecDepth 100000 in
theorem k_240_24 {x1 : Int32} {x2 : Int32} {x3 : Int32}
    (h1 : (256) ≤ x3 → cW cd_240 d Q 46 [some (.ref 279), some (.int x1), some (.int x2), some (.int (0)), none, none, none, none, none] [] (mkH hi hl sw kp))
    (h2 : ¬ ((256) ≤ x3) → vp_in x3 256)
    (h3 : ¬ ((256) ≤ x3) → cW cd_240 d Q 24 [some (.ref 279), some (.int x1), some (.int x2), some (.int (x3 + (1))), none, none, none, none, none] [] (mkH hi (u2 hl 307 x3.toNatClampNeg 0) sw kp))
    : cW cd_240 d Q 24 [some (.ref 279), some (.int x1), some (.int x2), some (.int x3), none, none, none, none, none] [] (mkH hi hl sw kp) :=
  cW.run (am_in [4, 12, 24, 46, 86, 135, 187, 216]) 10 (And.intro (fun c1 => (And.intro (Nat.le_of_ble_eq_true rfl) (h1 c1))) (fun c2 => (And.intro (h2 c2) (And.intro (Nat.le_of_ble_eq_true rfl) (h3 c2)))))
set_option maxRecDepth 100000 in
theorem k_240_46 {x1 : Int32} {x2 : Int32} {x3 : Int32} {o4 : Option Value} {o5 : Option Value} {o6 : Option Value} {o7 : Option Value} {o8 : Option Value}
    (h1 : ((32) * (hi 279 46)) ≤ x3 → cW cd_240 d Q 187 [some (.ref 279), some (.int x1), some (.int x2), some (.int (0)), o4, o5, o6, o7, o8] [] (mkH hi hl sw kp))
    (h2 : ¬ (((32) * (hi 279 46)) ≤ x3) → vp_in x3 256)
    (h3 : ¬ (((32) * (hi 279 46)) ≤ x3) → (lg_cmp (hl 306 x3.toNatClampNeg) 0) = 0 → cW cd_240 d Q 46 [some (.ref 279), some (.int x1), some (.int x2), some (.int (x3 + (1))), o4, o5, o6, o7, o8] [] (mkH hi hl sw kp))
    (h4 : ¬ (((32) * (hi 279 46)) ≤ x3) → ¬ ((lg_cmp (hl 306 x3.toNatClampNeg) 0) = 0) → cW cd_240 d Q 86 [some (.ref 279), some (.int x1), some (.int x2), some (.int x3), some (.int (x3 / (32))), some (.int (x3 - x3 / (32) * (32))), some (.int (0)), o7, o8] [] (mkH hi hl sw kp))
    : cW cd_240 d Q 46 [some (.ref 279), some (.int x1), some (.int x2), some (.int x3), o4, o5, o6, o7, o8] [] (mkH hi hl sw kp) :=
  cW.run (am_in [4, 12, 24, 46, 86, 135, 187, 216]) 23 (And.intro (fun c1 => (And.intro (Nat.le_of_ble_eq_true rfl) (h1 c1))) (fun c2 => (And.intro (h2 c2) (And.intro (fun c3 => (And.intro (Nat.le_of_ble_eq_true rfl) (h3 c2 c3))) (fun c4 => (And.intro (show ¬ ((32) : Int32) = 0 by decide +kernel) (And.intro (Nat.le_of_ble_eq_true rfl) (And.intro (show ¬ ((32) : Int32) = 0 by decide +kernel) (And.intro (Nat.le_of_ble_eq_true rfl) (And.intro (Nat.le_of_ble_eq_true rfl) (h4 c2 c4)))))))))))
set_option maxRecDepth 100000 in
theorem k_240_86 {x1 : Int32} {x2 : Int32} {x3 : Int32} {x4 : Int32} {x5 : Int32} {x6 : Int32} {o7 : Option Value} {o8 : Option Value}
    (h1 : (hi 279 46) ≤ x6 → cW cd_240 d Q 46 [some (.ref 279), some (.int x1), some (.int x2), some (.int (x3 + (1))), some (.int x4), some (.int x5), some (.int x6), o7, o8] [] (mkH hi hl sw kp))
    (h2 : ¬ ((hi 279 46) ≤ x6) → vp_in (((8) * x4) + x6) 64)
    (h3 : ¬ ((hi 279 46) ≤ x6) → x5 = (31) → cW cd_240 d Q 135 [some (.ref 279), some (.int x1), some (.int x2), some (.int x3), some (.int x4), some (.int x5), some (.int x6), some (.int (hi 302 (((8) * x4) + x6).toNatClampNeg)), o8] [(.int x5)] (mkH hi hl sw kp))
    (h4 : ¬ ((hi 279 46) ≤ x6) → ¬ (x5 = (31)) → x2 = 0 → cW cd_240 d Q 135 [some (.ref 279), some (.int x1), some (.int x2), some (.int x3), some (.int x4), some (.int x5), some (.int x6), some (.int (hi 302 (((8) * x4) + x6).toNatClampNeg)), o8] [(.int x5)] (mkH hi hl sw kp))
    (h5 : ¬ ((hi 279 46) ≤ x6) → ¬ (x5 = (31)) → ¬ (x2 = 0) → cS d 239 [(.ref 279), (.int x1), (.int x5), (.int x6)] (mkH hi hl sw kp) (am_ret (cW cd_240 d Q) 135 [some (.ref 279), some (.int x1), some (.int x2), some (.int x3), some (.int x4), some (.int x5), some (.int x6), some (.int (hi 302 (((8) * x4) + x6).toNatClampNeg)), o8] []))
    : cW cd_240 d Q 86 [some (.ref 279), some (.int x1), some (.int x2), some (.int x3), some (.int x4), some (.int x5), some (.int x6), o7, o8] [] (mkH hi hl sw kp) :=
  cW.run (am_in [4, 12, 24, 46, 86, 135, 187, 216]) 23 (And.intro (fun c1 => (And.intro (Nat.le_of_ble_eq_true rfl) (h1 c1))) (fun c2 => (And.intro (h2 c2) (And.intro (Nat.le_of_ble_eq_true rfl) (And.intro (fun c3 => (h3 c2 c3)) (fun c4 => (And.intro (fun c5 => (h4 c2 c4 c5)) (fun c6 => (cC.of (h5 c2 c4 c6))))))))))
set_option maxRecDepth 100000 in
theorem k_240_135 {x1 : Int32} {x2 : Int32} {x3 : Int32} {x4 : Int32} {x5 : Int32} {x6 : Int32} {x7 : Int32} {o8 : Option Value} {s0 : Int32}
    (h1 : x7 ≤ 0 → cW cd_240 d Q 86 [some (.ref 279), some (.int x1), some (.int x2), some (.int x3), some (.int x4), some (.int x5), some (.int (x6 + (1))), some (.int x7), some (.int s0)] [] (mkH hi hl sw kp))
    (h2 : ¬ (x7 ≤ 0) → s0 < 0 → cW cd_240 d Q 86 [some (.ref 279), some (.int x1), some (.int x2), some (.int x3), some (.int x4), some (.int x5), some (.int (x6 + (1))), some (.int x7), some (.int s0)] [] (mkH hi hl sw kp))
    (h3 : ¬ (x7 ≤ 0) → ¬ (s0 < 0) → vp_in (((32) * x6) + s0) 256)
    (h4 : ¬ (x7 ≤ 0) → ¬ (s0 < 0) → vp_in x3 256)
    (h5 : ¬ (x7 ≤ 0) → ¬ (s0 < 0) → vp_in (((32) * x6) + s0) 256)
    (h6 : ¬ (x7 ≤ 0) → ¬ (s0 < 0) → cW cd_240 d Q 86 [some (.ref 279), some (.int x1), some (.int x2), some (.int x3), some (.int x4), some (.int x5), some (.int (x6 + (1))), some (.int x7), some (.int s0)] [] (mkH hi (u2 hl 307 (((32) * x6) + s0).toNatClampNeg ((hl 307 (((32) * x6) + s0).toNatClampNeg) + ((hl 306 x3.toNatClampNeg) * x7.toInt64))) sw kp))
    : cW cd_240 d Q 135 [some (.ref 279), some (.int x1), some (.int x2), some (.int x3), some (.int x4), some (.int x5), some (.int x6), some (.int x7), o8] [(.int s0)] (mkH hi hl sw kp) :=
  cW.run (am_in [4, 12, 24, 46, 86, 135, 187, 216]) 25 (And.intro (Nat.le_of_ble_eq_true rfl) (And.intro (fun c1 => (And.intro (Nat.le_of_ble_eq_true rfl) (h1 c1))) (fun c2 => (And.intro (fun c3 => (And.intro (Nat.le_of_ble_eq_true rfl) (h2 c2 c3))) (fun c4 => (And.intro rfl (And.intro rfl (And.intro (h3 c2 c4) (And.intro (h4 c2 c4) (And.intro (h5 c2 c4) (And.intro (Nat.le_of_ble_eq_true rfl) (h6 c2 c4))))))))))))
set_option maxRecDepth 100000 in
theorem k_240_187 {x1 : Int32} {x2 : Int32} {x3 : Int32} {o4 : Option Value} {o5 : Option Value} {o6 : Option Value} {o7 : Option Value} {o8 : Option Value}
    (h1 : (256) ≤ x3 → cS d 212 [(.ref 279)] (mkH hi hl sw kp) (am_ret (cW cd_240 d Q) 216 [some (.ref 279), some (.int x1), some (.int x2), some (.int x3), o4, o5, o6, o7, o8] []))
    (h2 : ¬ ((256) ≤ x3) → vp_in x3 256)
    (h3 : ¬ ((256) ≤ x3) → vp_in x3 256)
    (h4 : ¬ ((256) ≤ x3) → cW cd_240 d Q 187 [some (.ref 279), some (.int x1), some (.int x2), some (.int (x3 + (1))), o4, o5, o6, o7, o8] [] (mkH hi (u2 hl 306 x3.toNatClampNeg (hl 307 x3.toNatClampNeg)) sw kp))
    : cW cd_240 d Q 187 [some (.ref 279), some (.int x1), some (.int x2), some (.int x3), o4, o5, o6, o7, o8] [] (mkH hi hl sw kp) :=
  cW.run (am_in [4, 12, 24, 46, 86, 135, 187, 216]) 13 (And.intro (fun c1 => (cC.of (h1 c1))) (fun c2 => (And.intro (h2 c2) (And.intro (h3 c2) (And.intro (Nat.le_of_ble_eq_true rfl) (h4 c2))))))
set_option maxRecDepth 100000 in
theorem k_240_216 {x1 : Int32} {x2 : Int32} {x3 : Int32} {o4 : Option Value} {o5 : Option Value} {o6 : Option Value} {o7 : Option Value} {o8 : Option Value}
    (h1 : Q none (mkH hi hl sw kp))
    : cW cd_240 d Q 216 [some (.ref 279), some (.int x1), some (.int x2), some (.int x3), o4, o5, o6, o7, o8] [] (mkH hi hl sw kp) :=
  cW.run (am_in [4, 12, 24, 46, 86, 135, 187, 216]) 1 (cQ.of (h1))
-- 241: DogDecreesModel.beginScores(II)V
set_option maxRecDepth 100000 in
theorem k_241_0 {x1 : Int32} {x2 : Int32}
    (h1 : cW cd_241 d Q 24 [some (.ref 279), some (.int x1), some (.int x2), some (.int (0))] [] (mkH (u2 (u2 hi 279 61 (hi 299 17)) 279 62 (hi 299 18)) hl sw kp))
    : cW cd_241 d Q 0 [some (.ref 279), some (.int x1), some (.int x2), none] [] (mkH hi hl sw kp) :=
  cW.run (am_in [24]) 14 (And.intro (show vp_in 17 82 from vin_l (by decide +kernel)) (And.intro (show vp_in 18 82 from vin_l (by decide +kernel)) (And.intro (Nat.le_of_ble_eq_true rfl) (h1))))
theorem e_241 {x1 : Int32} {x2 : Int32}
    (h1 : cW cd_241 d Q 24 [some (.ref 279), some (.int x1), some (.int x2), some (.int (0))] [] (mkH (u2 (u2 hi 279 61 (hi 299 17)) 279 62 (hi 299 18)) hl sw kp))
    : cS (d + 1) 241 [(.ref 279), (.int x1), (.int x2)] (mkH hi hl sw kp) Q := cS.of rfl (k_241_0 h1)
set_option maxRecDepth 100000 in
theorem k_241_24 {x1 : Int32} {x2 : Int32} {x3 : Int32}
    (h1 : (256) ≤ x3 → vp_in ((12) + x1) 82)
    (h2 : (256) ≤ x3 → x2 < 0 → Q none (mkH hi hl sw kp))
    (h3 : (256) ≤ x3 → ¬ (x2 < 0) → (2) ≤ (hi 299 ((12) + x1).toNatClampNeg) → Q none (mkH hi hl sw kp))
    (h4 : (256) ≤ x3 → ¬ (x2 < 0) → ¬ ((2) ≤ (hi 299 ((12) + x1).toNatClampNeg)) → (hi 299 ((12) + x1).toNatClampNeg) = (1) → vp_in (((32) * x2) + (31)) 256)
    (h5 : (256) ≤ x3 → ¬ (x2 < 0) → ¬ ((2) ≤ (hi 299 ((12) + x1).toNatClampNeg)) → (hi 299 ((12) + x1).toNatClampNeg) = (1) → Q none (mkH hi (u2 hl 306 (((32) * x2) + (31)).toNatClampNeg 1) sw kp))
    (h6 : (256) ≤ x3 → ¬ (x2 < 0) → ¬ ((2) ≤ (hi 299 ((12) + x1).toNatClampNeg)) → ¬ ((hi 299 ((12) + x1).toNatClampNeg) = (1)) → vp_in ((8) + x1) 82)
    (h7 : (256) ≤ x3 → ¬ (x2 < 0) → ¬ ((2) ≤ (hi 299 ((12) + x1).toNatClampNeg)) → ¬ ((hi 299 ((12) + x1).toNatClampNeg) = (1)) → vp_in (((32) * x2) + ((hi 299 ((8) + x1).toNatClampNeg) + (15))) 256)
    (h8 : (256) ≤ x3 → ¬ (x2 < 0) → ¬ ((2) ≤ (hi 299 ((12) + x1).toNatClampNeg)) → ¬ ((hi 299 ((12) + x1).toNatClampNeg) = (1)) → Q none (mkH hi (u2 hl 306 (((32) * x2) + ((hi 299 ((8) + x1).toNatClampNeg) + (15))).toNatClampNeg 1) sw kp))
    (h9 : ¬ ((256) ≤ x3) → vp_in x3 256)
    (h10 : ¬ ((256) ≤ x3) → cW cd_241 d Q 24 [some (.ref 279), some (.int x1), some (.int x2), some (.int (x3 + (1)))] [] (mkH hi (u2 hl 306 x3.toNatClampNeg 0) sw kp))
    : cW cd_241 d Q 24 [some (.ref 279), some (.int x1), some (.int x2), some (.int x3)] [] (mkH hi hl sw kp) :=
  cW.run (am_in [24]) 35 (And.intro (fun c1 => (And.intro (h1 c1) (And.intro (Nat.le_of_ble_eq_true rfl) (And.intro (fun c2 => (cQ.of (h2 c1 c2))) (fun c3 => (And.intro (fun c4 => (cQ.of (h3 c1 c3 c4))) (fun c5 => (And.intro (fun c6 => (And.intro (h4 c1 c3 c5 c6) (cQ.of (h5 c1 c3 c5 c6)))) (fun c7 => (And.intro (h6 c1 c3 c5 c7) (And.intro (h7 c1 c3 c5 c7) (cQ.of (h8 c1 c3 c5 c7))))))))))))) (fun c8 => (And.intro (h9 c8) (And.intro (Nat.le_of_ble_eq_true rfl) (h10 c8)))))
-- 242: DogDecreesModel.passed()J
set_option maxRecDepth 100000 in
theorem k_242_0
    (h1 : cW cd_242 d Q 4 [some (.ref 279), some (.long 0), none, some (.int (0))] [] (mkH hi hl sw kp))
    : cW cd_242 d Q 0 [some (.ref 279), none, none, none] [] (mkH hi hl sw kp) :=
  cW.run (am_in [4]) 4 (And.intro (Nat.le_of_ble_eq_true rfl) (And.intro (Nat.le_of_ble_eq_true rfl) (h1)))
theorem e_242
    (h1 : cW cd_242 d Q 4 [some (.ref 279), some (.long 0), none, some (.int (0))] [] (mkH hi hl sw kp))
    : cS (d + 1) 242 [(.ref 279)] (mkH hi hl sw kp) Q := cS.of rfl (k_242_0 h1)
set_option maxRecDepth 100000 in
theorem k_242_4 {x1 : Int64} {x3 : Int32}
    (h1 : (hi 279 46) ≤ x3 → Q (some (.long x1)) (mkH hi hl sw kp))
    (h2 : ¬ ((hi 279 46) ≤ x3) → vp_in (((32) * x3) + (31)) 256)
    (h3 : ¬ ((hi 279 46) ≤ x3) → cW cd_242 d Q 4 [some (.ref 279), some (.long (x1 + (hl 306 (((32) * x3) + (31)).toNatClampNeg))), none, some (.int (x3 + (1)))] [] (mkH hi hl sw kp))
    : cW cd_242 d Q 4 [some (.ref 279), some (.long x1), none, some (.int x3)] [] (mkH hi hl sw kp) :=
  cW.run (am_in [4]) 17 (And.intro (fun c1 => (cQ.of (h1 c1))) (fun c2 => (And.intro (h2 c2) (And.intro (Nat.le_of_ble_eq_true rfl) (And.intro (Nat.le_of_ble_eq_true rfl) (h3 c2))))))
-- 243: DogDecreesModel.passIn(III)J
set_option maxRecDepth 100000 in
theorem k_243_0 {x1 : Int32} {x2 : Int32} {x3 : Int32}
    (h1 : cS d 241 [(.ref 279), (.int x1), (.int x3)] (mkH hi hl sw kp) (am_ret (cW cd_243 d Q) 6 [some (.ref 279), some (.int x1), some (.int x2), some (.int x3), none] []))
    : cW cd_243 d Q 0 [some (.ref 279), some (.int x1), some (.int x2), some (.int x3), none] [] (mkH hi hl sw kp) :=
  cW.run (am_in [6, 9, 20, 30]) 4 (cC.of (h1))
theorem e_243 {x1 : Int32} {x2 : Int32} {x3 : Int32}
    (h1 : cS d 241 [(.ref 279), (.int x1), (.int x3)] (mkH hi hl sw kp) (am_ret (cW cd_243 d Q) 6 [some (.ref 279), some (.int x1), some (.int x2), some (.int x3), none] []))
    : cS (d + 1) 243 [(.ref 279), (.int x1), (.int x2), (.int x3)] (mkH hi hl sw kp) Q := cS.of rfl (k_243_0 h1)
set_option maxRecDepth 100000 in
theorem k_243_6 {x1 : Int32} {x2 : Int32} {x3 : Int32}
    (h1 : cW cd_243 d Q 9 [some (.ref 279), some (.int x1), some (.int x2), some (.int x3), some (.int (0))] [] (mkH hi hl sw kp))
    : cW cd_243 d Q 6 [some (.ref 279), some (.int x1), some (.int x2), some (.int x3), none] [] (mkH hi hl sw kp) :=
  cW.run (am_in [6, 9, 20, 30]) 2 (And.intro (Nat.le_of_ble_eq_true rfl) (h1))
set_option maxRecDepth 100000 in
theorem k_243_9 {x1 : Int32} {x2 : Int32} {x3 : Int32} {x4 : Int32}
    (h1 : x2 ≤ x4 → cS d 242 [(.ref 279)] (mkH hi hl sw kp) (am_ret (cW cd_243 d Q) 30 [some (.ref 279), some (.int x1), some (.int x2), some (.int x3), some (.int x4)] []))
    (h2 : ¬ (x2 ≤ x4) → cS d 240 [(.ref 279), (.int x1)] (mkH hi hl sw kp) (am_ret (cW cd_243 d Q) 20 [some (.ref 279), some (.int x1), some (.int x2), some (.int x3), some (.int x4)] []))
    : cW cd_243 d Q 9 [some (.ref 279), some (.int x1), some (.int x2), some (.int x3), some (.int x4)] [] (mkH hi hl sw kp) :=
  cW.run (am_in [6, 9, 20, 30]) 6 (And.intro (fun c1 => (cC.of (h1 c1))) (fun c2 => (cC.of (h2 c2))))
set_option maxRecDepth 100000 in
theorem k_243_20 {x1 : Int32} {x2 : Int32} {x3 : Int32} {x4 : Int32}
    (h1 : cW cd_243 d Q 9 [some (.ref 279), some (.int x1), some (.int x2), some (.int x3), some (.int (x4 + (1)))] [] (mkH hi hl sw kp))
    : cW cd_243 d Q 20 [some (.ref 279), some (.int x1), some (.int x2), some (.int x3), some (.int x4)] [] (mkH hi hl sw kp) :=
  cW.run (am_in [6, 9, 20, 30]) 2 (And.intro (Nat.le_of_ble_eq_true rfl) (h1))
set_option maxRecDepth 100000 in
theorem k_243_30 {x1 : Int32} {x2 : Int32} {x3 : Int32} {x4 : Int32} {s0 : Int64}
    (h1 : Q (some (.long s0)) (mkH hi hl sw kp))
    : cW cd_243 d Q 30 [some (.ref 279), some (.int x1), some (.int x2), some (.int x3), some (.int x4)] [(.long s0)] (mkH hi hl sw kp) :=
  cW.run (am_in [6, 9, 20, 30]) 1 (cQ.of (h1))
-- 244: DogDecreesModel.isDone(I)Z
set_option maxRecDepth 100000 in
theorem k_244_0 {x1 : Int32}
    (h1 : vp_in ((12) + x1) 82)
    (h2 : (hi 299 ((12) + x1).toNatClampNeg) = (1) → Q (some (.int (1))) (mkH hi hl sw kp))
    (h3 : ¬ ((hi 299 ((12) + x1).toNatClampNeg) = (1)) → Q (some (.int (0))) (mkH hi hl sw kp))
    : cW cd_244 d Q 0 [some (.ref 279), some (.int x1)] [] (mkH hi hl sw kp) :=
  cW.run (am_in []) 11 (And.intro (h1) (And.intro (fun c1 => (And.intro (Or.inr rfl) (cQ.of (h2 c1)))) (fun c2 => (And.intro (Or.inl rfl) (cQ.of (h3 c2))))))
theorem e_244 {x1 : Int32}
    (h1 : vp_in ((12) + x1) 82)
    (h2 : (hi 299 ((12) + x1).toNatClampNeg) = (1) → Q (some (.int (1))) (mkH hi hl sw kp))
    (h3 : ¬ ((hi 299 ((12) + x1).toNatClampNeg) = (1)) → Q (some (.int (0))) (mkH hi hl sw kp))
    : cS (d + 1) 244 [(.ref 279), (.int x1)] (mkH hi hl sw kp) Q := cS.of rfl (k_244_0 h1 h2 h3)
-- 245: DogDecreesModel.passNow(III)J
set_option maxRecDepth 100000 in
theorem k_245_0 {x1 : Int32} {x2 : Int32} {x3 : Int32}
    (h1 : cS d 211 [(.ref 279)] (mkH hi hl sw kp) (am_ret (cW cd_245 d Q) 4 [some (.ref 279), some (.int x1), some (.int x2), some (.int x3)] []))
    : cW cd_245 d Q 0 [some (.ref 279), some (.int x1), some (.int x2), some (.int x3)] [] (mkH hi hl sw kp) :=
  cW.run (am_in [4, 9, 16, 26]) 2 (cC.of (h1))
theorem e_245 {x1 : Int32} {x2 : Int32} {x3 : Int32}
    (h1 : cS d 211 [(.ref 279)] (mkH hi hl sw kp) (am_ret (cW cd_245 d Q) 4 [some (.ref 279), some (.int x1), some (.int x2), some (.int x3)] []))
    : cS (d + 1) 245 [(.ref 279), (.int x1), (.int x2), (.int x3)] (mkH hi hl sw kp) Q := cS.of rfl (k_245_0 h1)
set_option maxRecDepth 100000 in
theorem k_245_4 {x1 : Int32} {x2 : Int32} {x3 : Int32}
    (h1 : cS d 244 [(.ref 279), (.int x1)] (mkH hi hl sw kp) (am_ret (cW cd_245 d Q) 9 [some (.ref 279), some (.int x1), some (.int x2), some (.int x3)] []))
    : cW cd_245 d Q 4 [some (.ref 279), some (.int x1), some (.int x2), some (.int x3)] [] (mkH hi hl sw kp) :=
  cW.run (am_in [4, 9, 16, 26]) 3 (cC.of (h1))
set_option maxRecDepth 100000 in
theorem k_245_9 {x1 : Int32} {x2 : Int32} {x3 : Int32} {s0 : Int32}
    (h1 : s0 = 0 → cS d 243 [(.ref 279), (.int x1), (.int x2), (.int x3)] (mkH hi hl sw kp) (am_ret (cW cd_245 d Q) 26 [some (.ref 279), some (.int x1), some (.int x2), some (.int x3)] []))
    (h2 : ¬ (s0 = 0) → cS d 234 [(.int x2)] (mkH hi hl sw kp) (am_ret (cW cd_245 d Q) 16 [some (.ref 279), some (.int x1), some (.int x2), some (.int x3)] []))
    : cW cd_245 d Q 9 [some (.ref 279), some (.int x1), some (.int x2), some (.int x3)] [(.int s0)] (mkH hi hl sw kp) :=
  cW.run (am_in [4, 9, 16, 26]) 6 (And.intro (fun c1 => (cC.of (h1 c1))) (fun c2 => (cC.of (h2 c2))))
set_option maxRecDepth 100000 in
theorem k_245_16 {x1 : Int32} {x2 : Int32} {x3 : Int32} {s0 : Int64}
    (h1 : cW cd_245 d Q 26 [some (.ref 279), some (.int x1), some (.int x2), some (.int x3)] [(.long s0)] (mkH hi hl sw kp))
    : cW cd_245 d Q 16 [some (.ref 279), some (.int x1), some (.int x2), some (.int x3)] [(.long s0)] (mkH hi hl sw kp) :=
  cW.run (am_in [4, 9, 16, 26]) 1 (h1)
set_option maxRecDepth 100000 in
theorem k_245_26 {x1 : Int32} {x2 : Int32} {x3 : Int32} {s0 : Int64}
    (h1 : Q (some (.long s0)) (mkH hi hl sw kp))
    : cW cd_245 d Q 26 [some (.ref 279), some (.int x1), some (.int x2), some (.int x3)] [(.long s0)] (mkH hi hl sw kp) :=
  cW.run (am_in [4, 9, 16, 26]) 1 (cQ.of (h1))
-- 246: DogDecreesModel.pass(III)J
set_option maxRecDepth 100000 in
theorem k_246_0 {x1 : Int32} {x2 : Int32} {x3 : Int32}
    (h1 : cS d 209 [(.ref 279), (.int x1)] (mkH hi hl sw kp) (am_ret (cW cd_246 d Q) 5 [some (.ref 279), some (.int x1), some (.int x2), some (.int x3)] []))
    : cW cd_246 d Q 0 [some (.ref 279), some (.int x1), some (.int x2), some (.int x3)] [] (mkH hi hl sw kp) :=
  cW.run (am_in [5, 15, 24, 40, 44, 48]) 3 (cC.of (h1))
theorem e_246 {x1 : Int32} {x2 : Int32} {x3 : Int32}
    (h1 : cS d 209 [(.ref 279), (.int x1)] (mkH hi hl sw kp) (am_ret (cW cd_246 d Q) 5 [some (.ref 279), some (.int x1), some (.int x2), some (.int x3)] []))
    : cS (d + 1) 246 [(.ref 279), (.int x1), (.int x2), (.int x3)] (mkH hi hl sw kp) Q := cS.of rfl (k_246_0 h1)
set_option maxRecDepth 100000 in
theorem k_246_5 {x1 : Int32} {x2 : Int32} {x3 : Int32} {s0 : Int32}
    (h1 : s0 = 0 → Q (some (.long (-1))) (mkH hi hl sw kp))
    (h2 : ¬ (s0 = 0) → cS d 207 [(.int x2), (.int (0)), (.int (8))] (mkH hi hl sw kp) (am_ret (cW cd_246 d Q) 15 [some (.ref 279), some (.int x1), some (.int x2), some (.int x3)] []))
    : cW cd_246 d Q 5 [some (.ref 279), some (.int x1), some (.int x2), some (.int x3)] [(.int s0)] (mkH hi hl sw kp) :=
  cW.run (am_in [5, 15, 24, 40, 44, 48]) 5 (And.intro (fun c1 => (cQ.of (h1 c1))) (fun c2 => (cC.of (h2 c2))))
set_option maxRecDepth 100000 in
theorem k_246_15 {x1 : Int32} {x2 : Int32} {x3 : Int32} {s0 : Int32}
    (h1 : s0 = 0 → Q (some (.long (-1))) (mkH hi hl sw kp))
    (h2 : ¬ (s0 = 0) → cS d 207 [(.int x3), (.int (0)), (.int (1))] (mkH hi hl sw kp) (am_ret (cW cd_246 d Q) 24 [some (.ref 279), some (.int x1), some (.int x2), some (.int x3)] []))
    : cW cd_246 d Q 15 [some (.ref 279), some (.int x1), some (.int x2), some (.int x3)] [(.int s0)] (mkH hi hl sw kp) :=
  cW.run (am_in [5, 15, 24, 40, 44, 48]) 5 (And.intro (fun c1 => (cQ.of (h1 c1))) (fun c2 => (cC.of (h2 c2))))
set_option maxRecDepth 100000 in
theorem k_246_24 {x1 : Int32} {x2 : Int32} {x3 : Int32} {s0 : Int32}
    (h1 : s0 = 0 → Q (some (.long (-1))) (mkH hi hl sw kp))
    (h2 : ¬ (s0 = 0) → cS d 245 [(.ref 279), (.int x1), (.int x2), (.int (hi 299 16))] (mkH hi hl sw kp) (am_ret (cW cd_246 d Q) 40 [some (.ref 279), some (.int x1), some (.int x2), some (.int x3)] []))
    : cW cd_246 d Q 24 [some (.ref 279), some (.int x1), some (.int x2), some (.int x3)] [(.int s0)] (mkH hi hl sw kp) :=
  cW.run (am_in [5, 15, 24, 40, 44, 48]) 9 (And.intro (fun c1 => (cQ.of (h1 c1))) (fun c2 => (And.intro (show vp_in 16 82 from vin_l (by decide +kernel)) (cC.of (h2 c2)))))
set_option maxRecDepth 100000 in
theorem k_246_40 {x1 : Int32} {x2 : Int32} {x3 : Int32} {s0 : Int64}
    (h1 : cS d 234 [(.int x2)] (mkH hi hl sw kp) (am_ret (cW cd_246 d Q) 44 [some (.ref 279), some (.int x1), some (.int x2), some (.int x3)] [(.long s0)]))
    : cW cd_246 d Q 40 [some (.ref 279), some (.int x1), some (.int x2), some (.int x3)] [(.long s0)] (mkH hi hl sw kp) :=
  cW.run (am_in [5, 15, 24, 40, 44, 48]) 2 (cC.of (h1))
set_option maxRecDepth 100000 in
theorem k_246_44 {x1 : Int32} {x2 : Int32} {x3 : Int32} {s0 : Int64} {s1 : Int64}
    (h1 : cS d 236 [(.long s0), (.long s1), (.int x3)] (mkH hi hl sw kp) (am_ret (cW cd_246 d Q) 48 [some (.ref 279), some (.int x1), some (.int x2), some (.int x3)] []))
    : cW cd_246 d Q 44 [some (.ref 279), some (.int x1), some (.int x2), some (.int x3)] [(.long s1), (.long s0)] (mkH hi hl sw kp) :=
  cW.run (am_in [5, 15, 24, 40, 44, 48]) 2 (cC.of (h1))
set_option maxRecDepth 100000 in
theorem k_246_48 {x1 : Int32} {x2 : Int32} {x3 : Int32} {s0 : Int64}
    (h1 : Q (some (.long s0)) (mkH hi hl sw kp))
    : cW cd_246 d Q 48 [some (.ref 279), some (.int x1), some (.int x2), some (.int x3)] [(.long s0)] (mkH hi hl sw kp) :=
  cW.run (am_in [5, 15, 24, 40, 44, 48]) 2 (cQ.of (h1))
-- 247: DogDecreesModel.isMost(JI)Z
set_option maxRecDepth 100000 in
theorem k_247_0 {x0 : Int64} {x2 : Int32}
    (h1 : cS d 234 [(.int x2)] (mkH hi hl sw kp) (am_ret (cW cd_247 d Q) 9 [some (.long x0), none, some (.int x2)] [(.long ((2) * x0))]))
    : cW cd_247 d Q 0 [some (.long x0), none, some (.int x2)] [] (mkH hi hl sw kp) :=
  cW.run (am_in [9]) 5 (cC.of (h1))
theorem e_247 {x0 : Int64} {x2 : Int32}
    (h1 : cS d 234 [(.int x2)] (mkH hi hl sw kp) (am_ret (cW cd_247 d Q) 9 [some (.long x0), none, some (.int x2)] [(.long ((2) * x0))]))
    : cS (d + 1) 247 [(.long x0), (.int x2)] (mkH hi hl sw kp) Q := cS.of rfl (k_247_0 h1)
set_option maxRecDepth 100000 in
theorem k_247_9 {x0 : Int64} {x2 : Int32} {s0 : Int64} {s1 : Int64}
    (h1 : (lg_cmp s0 s1) ≤ 0 → Q (some (.int (0))) (mkH hi hl sw kp))
    (h2 : ¬ ((lg_cmp s0 s1) ≤ 0) → Q (some (.int (1))) (mkH hi hl sw kp))
    : cW cd_247 d Q 9 [some (.long x0), none, some (.int x2)] [(.long s1), (.long s0)] (mkH hi hl sw kp) :=
  cW.run (am_in [9]) 5 (And.intro (fun c1 => (And.intro (Or.inl rfl) (cQ.of (h1 c1)))) (fun c2 => (And.intro (Or.inr rfl) (cQ.of (h2 c2)))))
-- 248: DogDecreesModel.soon(I)I
set_option maxRecDepth 100000 in
theorem k_248_0 {x1 : Int32}
    (h1 : cS d 209 [(.ref 279), (.int x1)] (mkH hi hl sw kp) (am_ret (cW cd_248 d Q) 5 [some (.ref 279), some (.int x1), none] []))
    : cW cd_248 d Q 0 [some (.ref 279), some (.int x1), none] [] (mkH hi hl sw kp) :=
  cW.run (am_in [5, 12, 31, 35]) 3 (cC.of (h1))
theorem e_248 {x1 : Int32}
    (h1 : cS d 209 [(.ref 279), (.int x1)] (mkH hi hl sw kp) (am_ret (cW cd_248 d Q) 5 [some (.ref 279), some (.int x1), none] []))
    : cS (d + 1) 248 [(.ref 279), (.int x1)] (mkH hi hl sw kp) Q := cS.of rfl (k_248_0 h1)
set_option maxRecDepth 100000 in
theorem k_248_5 {x1 : Int32} {s0 : Int32}
    (h1 : s0 = 0 → Q (some (.int (-1))) (mkH hi hl sw kp))
    (h2 : ¬ (s0 = 0) → cW cd_248 d Q 12 [some (.ref 279), some (.int x1), some (.int (0))] [] (mkH hi hl sw kp))
    : cW cd_248 d Q 5 [some (.ref 279), some (.int x1), none] [(.int s0)] (mkH hi hl sw kp) :=
  cW.run (am_in [5, 12, 31, 35]) 3 (And.intro (fun c1 => (cQ.of (h1 c1))) (fun c2 => (And.intro (Nat.le_of_ble_eq_true rfl) (h2 c2))))
set_option maxRecDepth 100000 in
theorem k_248_12 {x1 : Int32} {x2 : Int32}
    (h1 : (8) < x2 → Q (some (.int (-1))) (mkH hi hl sw kp))
    (h2 : ¬ ((8) < x2) → cS d 245 [(.ref 279), (.int x1), (.int x2), (.int (hi 299 16))] (mkH hi hl sw kp) (am_ret (cW cd_248 d Q) 31 [some (.ref 279), some (.int x1), some (.int x2)] []))
    : cW cd_248 d Q 12 [some (.ref 279), some (.int x1), some (.int x2)] [] (mkH hi hl sw kp) :=
  cW.run (am_in [5, 12, 31, 35]) 11 (And.intro (fun c1 => (cQ.of (h1 c1))) (fun c2 => (And.intro (show vp_in 16 82 from vin_l (by decide +kernel)) (cC.of (h2 c2)))))
set_option maxRecDepth 100000 in
theorem k_248_31 {x1 : Int32} {x2 : Int32} {s0 : Int64}
    (h1 : cS d 247 [(.long s0), (.int x2)] (mkH hi hl sw kp) (am_ret (cW cd_248 d Q) 35 [some (.ref 279), some (.int x1), some (.int x2)] []))
    : cW cd_248 d Q 31 [some (.ref 279), some (.int x1), some (.int x2)] [(.long s0)] (mkH hi hl sw kp) :=
  cW.run (am_in [5, 12, 31, 35]) 2 (cC.of (h1))
set_option maxRecDepth 100000 in
theorem k_248_35 {x1 : Int32} {x2 : Int32} {s0 : Int32}
    (h1 : s0 = 0 → cW cd_248 d Q 12 [some (.ref 279), some (.int x1), some (.int (x2 + (1)))] [] (mkH hi hl sw kp))
    (h2 : ¬ (s0 = 0) → Q (some (.int x2)) (mkH hi hl sw kp))
    : cW cd_248 d Q 35 [some (.ref 279), some (.int x1), some (.int x2)] [(.int s0)] (mkH hi hl sw kp) :=
  cW.run (am_in [5, 12, 31, 35]) 3 (And.intro (fun c1 => (And.intro (Nat.le_of_ble_eq_true rfl) (h1 c1))) (fun c2 => (cQ.of (h2 c2))))
-- 249: DogDecreesModel.loadMore()V
set_option maxRecDepth 100000 in
theorem k_249_0
    (h1 : cS d 211 [(.ref 279)] (mkH hi hl sw kp) (am_ret (cW cd_249 d Q) 4 [some (.ref 279), none] []))
    : cW cd_249 d Q 0 [some (.ref 279), none] [] (mkH hi hl sw kp) :=
  cW.run (am_in [4, 6]) 2 (cC.of (h1))
theorem e_249
    (h1 : cS d 211 [(.ref 279)] (mkH hi hl sw kp) (am_ret (cW cd_249 d Q) 4 [some (.ref 279), none] []))
    : cS (d + 1) 249 [(.ref 279)] (mkH hi hl sw kp) Q := cS.of rfl (k_249_0 h1)
set_option maxRecDepth 100000 in
theorem k_249_4
    (h1 : cW cd_249 d Q 6 [some (.ref 279), some (.int (0))] [] (mkH hi hl sw kp))
    : cW cd_249 d Q 4 [some (.ref 279), none] [] (mkH hi hl sw kp) :=
  cW.run (am_in [4, 6]) 2 (And.intro (Nat.le_of_ble_eq_true rfl) (h1))
set_option maxRecDepth 100000 in
theorem k_249_6 {x1 : Int32}
    (h1 : (hi 279 46) ≤ x1 → Q none (mkH hi hl sw kp))
    (h2 : ¬ ((hi 279 46) ≤ x1) → vp_in x1 8)
    (h3 : ¬ ((hi 279 46) ≤ x1) → vp_in x1 8)
    (h4 : ¬ ((hi 279 46) ≤ x1) → vp_in x1 8)
    (h5 : ¬ ((hi 279 46) ≤ x1) → cW cd_249 d Q 6 [some (.ref 279), some (.int (x1 + (1)))] [] (mkH (u2 hi 300 x1.toNatClampNeg ((hi 300 x1.toNatClampNeg) + (hi 308 x1.toNatClampNeg))) hl sw kp))
    : cW cd_249 d Q 6 [some (.ref 279), some (.int x1)] [] (mkH hi hl sw kp) :=
  cW.run (am_in [4, 6]) 17 (And.intro (fun c1 => (cQ.of (h1 c1))) (fun c2 => (And.intro rfl (And.intro rfl (And.intro (h2 c2) (And.intro (h3 c2) (And.intro (h4 c2) (And.intro (Nat.le_of_ble_eq_true rfl) (h5 c2)))))))))
-- 250: DogDecreesModel.canLay()Z
set_option maxRecDepth 100000 in
theorem k_250_0
    (h1 : cW cd_250 d Q 4 [some (.ref 279), some (.int (1)), some (.int (0))] [] (mkH hi hl sw kp))
    : cW cd_250 d Q 0 [some (.ref 279), none, none] [] (mkH hi hl sw kp) :=
  cW.run (am_in [4]) 4 (And.intro (Nat.le_of_ble_eq_true rfl) (And.intro (Nat.le_of_ble_eq_true rfl) (h1)))
theorem e_250
    (h1 : cW cd_250 d Q 4 [some (.ref 279), some (.int (1)), some (.int (0))] [] (mkH hi hl sw kp))
    : cS (d + 1) 250 [(.ref 279)] (mkH hi hl sw kp) Q := cS.of rfl (k_250_0 h1)
set_option maxRecDepth 100000 in
theorem k_250_4 {x1 : Int32} {x2 : Int32}
    (h1 : (hi 279 46) ≤ x2 → x1 = 0 ∨ x1 = 1)
    (h2 : (hi 279 46) ≤ x2 → Q (some (.int x1)) (mkH hi hl sw kp))
    (h3 : ¬ ((hi 279 46) ≤ x2) → x1 = 0 → cW cd_250 d Q 4 [some (.ref 279), some (.int (0)), some (.int (x2 + (1)))] [] (mkH hi hl sw kp))
    (h4 : ¬ ((hi 279 46) ≤ x2) → ¬ (x1 = 0) → vp_in ((0) + x2) 82)
    (h5 : ¬ ((hi 279 46) ≤ x2) → ¬ (x1 = 0) → vp_in x2 8)
    (h6 : ¬ ((hi 279 46) ≤ x2) → ¬ (x1 = 0) → (9) < ((hi 299 ((0) + x2).toNatClampNeg) + (hi 308 x2.toNatClampNeg)) → cW cd_250 d Q 4 [some (.ref 279), some (.int (0)), some (.int (x2 + (1)))] [] (mkH hi hl sw kp))
    (h7 : ¬ ((hi 279 46) ≤ x2) → ¬ (x1 = 0) → ¬ ((9) < ((hi 299 ((0) + x2).toNatClampNeg) + (hi 308 x2.toNatClampNeg))) → cW cd_250 d Q 4 [some (.ref 279), some (.int (1)), some (.int (x2 + (1)))] [] (mkH hi hl sw kp))
    : cW cd_250 d Q 4 [some (.ref 279), some (.int x1), some (.int x2)] [] (mkH hi hl sw kp) :=
  cW.run (am_in [4]) 24 (And.intro (fun c1 => (And.intro (h1 c1) (cQ.of (h2 c1)))) (fun c2 => (And.intro (fun c3 => (And.intro (Nat.le_of_ble_eq_true rfl) (And.intro (Nat.le_of_ble_eq_true rfl) (h3 c2 c3)))) (fun c4 => (And.intro (h4 c2 c4) (And.intro (h5 c2 c4) (And.intro (fun c5 => (And.intro (Nat.le_of_ble_eq_true rfl) (And.intro (Nat.le_of_ble_eq_true rfl) (h6 c2 c4 c5)))) (fun c6 => (And.intro (Nat.le_of_ble_eq_true rfl) (And.intro (Nat.le_of_ble_eq_true rfl) (h7 c2 c4 c6)))))))))))
-- 251: DogDecreesModel.nextRow()Z
set_option maxRecDepth 100000 in
theorem k_251_0
    (h1 : cW cd_251 d Q 7 [some (.ref 279), some (.int ((hi 279 46) - (2))), none, none] [] (mkH hi hl sw kp))
    : cW cd_251 d Q 0 [some (.ref 279), none, none, none] [] (mkH hi hl sw kp) :=
  cW.run (am_in [7, 38]) 5 (And.intro (Nat.le_of_ble_eq_true rfl) (h1))
theorem e_251
    (h1 : cW cd_251 d Q 7 [some (.ref 279), some (.int ((hi 279 46) - (2))), none, none] [] (mkH hi hl sw kp))
    : cS (d + 1) 251 [(.ref 279)] (mkH hi hl sw kp) Q := cS.of rfl (k_251_0 h1)
set_option maxRecDepth 100000 in
theorem k_251_7 {x1 : Int32}
    (h1 : x1 < 0 → 0 ≤ x1 → cW cd_251 d Q 38 [some (.ref 279), some (.int x1), some (.int (1)), some (.int (x1 + (1)))] [] (mkH hi hl sw kp))
    (h2 : x1 < 0 → ¬ (0 ≤ x1) → Q (some (.int (0))) (mkH hi hl sw kp))
    (h3 : ¬ (x1 < 0) → vp_in x1 8)
    (h4 : ¬ (x1 < 0) → (hi 308 x1.toNatClampNeg) = 0 → cW cd_251 d Q 7 [some (.ref 279), some (.int (x1 + (-1))), none, none] [] (mkH hi hl sw kp))
    (h5 : ¬ (x1 < 0) → ¬ ((hi 308 x1.toNatClampNeg) = 0) → 0 ≤ x1 → cW cd_251 d Q 38 [some (.ref 279), some (.int x1), some (.int (1)), some (.int (x1 + (1)))] [] (mkH hi hl sw kp))
    (h6 : ¬ (x1 < 0) → ¬ ((hi 308 x1.toNatClampNeg) = 0) → ¬ (0 ≤ x1) → Q (some (.int (0))) (mkH hi hl sw kp))
    : cW cd_251 d Q 7 [some (.ref 279), some (.int x1), none, none] [] (mkH hi hl sw kp) :=
  cW.run (am_in [7, 38]) 15 (And.intro (fun c1 => (And.intro (fun c2 => (And.intro (Nat.le_of_ble_eq_true rfl) (And.intro (Nat.le_of_ble_eq_true rfl) (h1 c1 c2)))) (fun c3 => (And.intro (Or.inl rfl) (cQ.of (h2 c1 c3)))))) (fun c4 => (And.intro (h3 c4) (And.intro (fun c5 => (And.intro (Nat.le_of_ble_eq_true rfl) (h4 c4 c5))) (fun c6 => (And.intro (fun c7 => (And.intro (Nat.le_of_ble_eq_true rfl) (And.intro (Nat.le_of_ble_eq_true rfl) (h5 c4 c6 c7)))) (fun c8 => (And.intro (Or.inl rfl) (cQ.of (h6 c4 c6 c8))))))))))
set_option maxRecDepth 100000 in
theorem k_251_38 {x1 : Int32} {x2 : Int32} {x3 : Int32}
    (h1 : (hi 279 46) ≤ x3 → vp_in x1 8)
    (h2 : (hi 279 46) ≤ x3 → vp_in x1 8)
    (h3 : (hi 279 46) ≤ x3 → vp_in (x1 + (1)) 8)
    (h4 : (hi 279 46) ≤ x3 → Q (some (.int (1))) (mkH (u2 (u2 hi 308 x1.toNatClampNeg ((hi 308 x1.toNatClampNeg) - (1))) 308 (x1 + (1)).toNatClampNeg x2) hl sw kp))
    (h5 : ¬ ((hi 279 46) ≤ x3) → vp_in x3 8)
    (h6 : ¬ ((hi 279 46) ≤ x3) → vp_in x3 8)
    (h7 : ¬ ((hi 279 46) ≤ x3) → cW cd_251 d Q 38 [some (.ref 279), some (.int x1), some (.int (x2 + (hi 308 x3.toNatClampNeg))), some (.int (x3 + (1)))] [] (mkH (u2 hi 308 x3.toNatClampNeg (0)) hl sw kp))
    : cW cd_251 d Q 38 [some (.ref 279), some (.int x1), some (.int x2), some (.int x3)] [] (mkH hi hl sw kp) :=
  cW.run (am_in [7, 38]) 21 (And.intro (fun c1 => (And.intro rfl (And.intro rfl (And.intro (h1 c1) (And.intro (h2 c1) (And.intro (h3 c1) (And.intro (Or.inr rfl) (cQ.of (h4 c1))))))))) (fun c2 => (And.intro (h5 c2) (And.intro (Nat.le_of_ble_eq_true rfl) (And.intro (h6 c2) (And.intro (Nat.le_of_ble_eq_true rfl) (h7 c2)))))))
-- 252: DogDecreesModel.bestLay(III)J
set_option maxRecDepth 100000 in
theorem k_252_0 {x1 : Int32} {x2 : Int32} {x3 : Int32}
    (h1 : cW cd_252 d Q 3 [some (.ref 279), some (.int x1), some (.int x2), some (.int x3), some (.int (0)), none, none, none, none, none] [] (mkH hi hl sw kp))
    : cW cd_252 d Q 0 [some (.ref 279), some (.int x1), some (.int x2), some (.int x3), none, none, none, none, none, none] [] (mkH hi hl sw kp) :=
  cW.run (am_in [3, 56, 65, 72, 77, 84, 100, 117, 148]) 2 (And.intro (Nat.le_of_ble_eq_true rfl) (h1))
theorem e_252 {x1 : Int32} {x2 : Int32} {x3 : Int32}
    (h1 : cW cd_252 d Q 3 [some (.ref 279), some (.int x1), some (.int x2), some (.int x3), some (.int (0)), none, none, none, none, none] [] (mkH hi hl sw kp))
    : cS (d + 1) 252 [(.ref 279), (.int x1), (.int x2), (.int x3)] (mkH hi hl sw kp) Q := cS.of rfl (k_252_0 h1)
set_option maxRecDepth 100000 in
theorem k_252_3 {x1 : Int32} {x2 : Int32} {x3 : Int32} {x4 : Int32}
    (h1 : (8) ≤ x4 → 0 < (hi 279 46) → cW cd_252 d Q 56 [some (.ref 279), some (.int x1), some (.int x2), some (.int x3), some (.long (-1)), none, some (.int (1)), none, none, none] [] (mkH hi hl sw kp))
    (h2 : (8) ≤ x4 → ¬ (0 < (hi 279 46)) → x3 = 0 → cW cd_252 d Q 56 [some (.ref 279), some (.int x1), some (.int x2), some (.int x3), some (.long (-1)), none, some (.int (1)), none, none, none] [] (mkH hi hl sw kp))
    (h3 : (8) ≤ x4 → ¬ (0 < (hi 279 46)) → ¬ (x3 = 0) → cW cd_252 d Q 56 [some (.ref 279), some (.int x1), some (.int x2), some (.int x3), some (.long (-1)), none, some (.int (0)), none, none, none] [] (mkH hi hl sw kp))
    (h4 : ¬ ((8) ≤ x4) → x4 = 0 → vp_in x4 8)
    (h5 : ¬ ((8) ≤ x4) → x4 = 0 → cW cd_252 d Q 3 [some (.ref 279), some (.int x1), some (.int x2), some (.int x3), some (.int (x4 + (1))), none, none, none, none, none] [] (mkH (u2 hi 308 x4.toNatClampNeg x3) hl sw kp))
    (h6 : ¬ ((8) ≤ x4) → ¬ (x4 = 0) → vp_in x4 8)
    (h7 : ¬ ((8) ≤ x4) → ¬ (x4 = 0) → cW cd_252 d Q 3 [some (.ref 279), some (.int x1), some (.int x2), some (.int x3), some (.int (x4 + (1))), none, none, none, none, none] [] (mkH (u2 hi 308 x4.toNatClampNeg (0)) hl sw kp))
    : cW cd_252 d Q 3 [some (.ref 279), some (.int x1), some (.int x2), some (.int x3), some (.int x4), none, none, none, none, none] [] (mkH hi hl sw kp) :=
  cW.run (am_in [3, 56, 65, 72, 77, 84, 100, 117, 148]) 13 (And.intro (fun c1 => (And.intro (Nat.le_of_ble_eq_true rfl) (And.intro (fun c2 => (And.intro (Nat.le_of_ble_eq_true rfl) (h1 c1 c2))) (fun c3 => (And.intro (fun c4 => (And.intro (Nat.le_of_ble_eq_true rfl) (h2 c1 c3 c4))) (fun c5 => (And.intro (Nat.le_of_ble_eq_true rfl) (h3 c1 c3 c5)))))))) (fun c6 => (And.intro (fun c7 => (And.intro (h4 c6 c7) (And.intro (Nat.le_of_ble_eq_true rfl) (h5 c6 c7)))) (fun c8 => (And.intro (h6 c6 c8) (And.intro (Nat.le_of_ble_eq_true rfl) (h7 c6 c8)))))))
set_option maxRecDepth 100000 in
theorem k_252_56 {x1 : Int32} {x2 : Int32} {x3 : Int32} {x4 : Int64} {x6 : Int32} {o7 : Option Value} {o9 : Option Value}
    (h1 : x6 = 0 → Q (some (.long x4)) (mkH hi hl sw kp))
    (h2 : ¬ (x6 = 0) → cS d 250 [(.ref 279)] (mkH hi hl sw kp) (am_ret (cW cd_252 d Q) 65 [some (.ref 279), some (.int x1), some (.int x2), some (.int x3), some (.long x4), none, some (.int x6), o7, none, o9] []))
    : cW cd_252 d Q 56 [some (.ref 279), some (.int x1), some (.int x2), some (.int x3), some (.long x4), none, some (.int x6), o7, none, o9] [] (mkH hi hl sw kp) :=
  cW.run (am_in [3, 56, 65, 72, 77, 84, 100, 117, 148]) 4 (And.intro (fun c1 => (cQ.of (h1 c1))) (fun c2 => (cC.of (h2 c2))))
set_option maxRecDepth 100000 in
theorem k_252_65 {x1 : Int32} {x2 : Int32} {x3 : Int32} {x4 : Int64} {x6 : Int32} {o7 : Option Value} {o9 : Option Value} {s0 : Int32}
    (h1 : s0 = 0 → cS d 251 [(.ref 279)] (mkH hi hl sw kp) (am_ret (cW cd_252 d Q) 148 [some (.ref 279), some (.int x1), some (.int x2), some (.int x3), some (.long x4), none, some (.int x6), o7, none, o9] []))
    (h2 : ¬ (s0 = 0) → cS d 249 [(.ref 279)] (mkH hi hl sw kp) (am_ret (cW cd_252 d Q) 72 [some (.ref 279), some (.int x1), some (.int x2), some (.int x3), some (.long x4), none, some (.int x6), o7, none, o9] []))
    : cW cd_252 d Q 65 [some (.ref 279), some (.int x1), some (.int x2), some (.int x3), some (.long x4), none, some (.int x6), o7, none, o9] [(.int s0)] (mkH hi hl sw kp) :=
  cW.run (am_in [3, 56, 65, 72, 77, 84, 100, 117, 148]) 3 (And.intro (fun c1 => (cC.of (h1 c1))) (fun c2 => (cC.of (h2 c2))))
set_option maxRecDepth 100000 in
theorem k_252_72 {x1 : Int32} {x2 : Int32} {x3 : Int32} {x4 : Int64} {x6 : Int32} {o7 : Option Value} {o9 : Option Value}
    (h1 : cS d 244 [(.ref 279), (.int x1)] (mkH hi hl sw kp) (am_ret (cW cd_252 d Q) 77 [some (.ref 279), some (.int x1), some (.int x2), some (.int x3), some (.long x4), none, some (.int x6), o7, none, o9] []))
    : cW cd_252 d Q 72 [some (.ref 279), some (.int x1), some (.int x2), some (.int x3), some (.long x4), none, some (.int x6), o7, none, o9] [] (mkH hi hl sw kp) :=
  cW.run (am_in [3, 56, 65, 72, 77, 84, 100, 117, 148]) 3 (cC.of (h1))
set_option maxRecDepth 100000 in
theorem k_252_77 {x1 : Int32} {x2 : Int32} {x3 : Int32} {x4 : Int64} {x6 : Int32} {o7 : Option Value} {o9 : Option Value} {s0 : Int32}
    (h1 : s0 = 0 → cS d 243 [(.ref 279), (.int x1), (.int x2), (.int (hi 299 16))] (mkH hi hl sw kp) (am_ret (cW cd_252 d Q) 100 [some (.ref 279), some (.int x1), some (.int x2), some (.int x3), some (.long x4), none, some (.int x6), o7, none, o9] []))
    (h2 : ¬ (s0 = 0) → cS d 234 [(.int x2)] (mkH hi hl sw kp) (am_ret (cW cd_252 d Q) 84 [some (.ref 279), some (.int x1), some (.int x2), some (.int x3), some (.long x4), none, some (.int x6), o7, none, o9] []))
    : cW cd_252 d Q 77 [some (.ref 279), some (.int x1), some (.int x2), some (.int x3), some (.long x4), none, some (.int x6), o7, none, o9] [(.int s0)] (mkH hi hl sw kp) :=
  cW.run (am_in [3, 56, 65, 72, 77, 84, 100, 117, 148]) 9 (And.intro (fun c1 => (And.intro (show vp_in 16 82 from vin_l (by decide +kernel)) (cC.of (h1 c1)))) (fun c2 => (cC.of (h2 c2))))
set_option maxRecDepth 100000 in
theorem k_252_84 {x1 : Int32} {x2 : Int32} {x3 : Int32} {x4 : Int64} {x6 : Int32} {o7 : Option Value} {o9 : Option Value} {s0 : Int64}
    (h1 : cW cd_252 d Q 100 [some (.ref 279), some (.int x1), some (.int x2), some (.int x3), some (.long x4), none, some (.int x6), o7, none, o9] [(.long s0)] (mkH hi hl sw kp))
    : cW cd_252 d Q 84 [some (.ref 279), some (.int x1), some (.int x2), some (.int x3), some (.long x4), none, some (.int x6), o7, none, o9] [(.long s0)] (mkH hi hl sw kp) :=
  cW.run (am_in [3, 56, 65, 72, 77, 84, 100, 117, 148]) 1 (h1)
set_option maxRecDepth 100000 in
theorem k_252_100 {x1 : Int32} {x2 : Int32} {x3 : Int32} {x4 : Int64} {x6 : Int32} {o7 : Option Value} {o9 : Option Value} {s0 : Int64}
    (h1 : (lg_cmp s0 x4) ≤ 0 → cS d 251 [(.ref 279)] (mkH hi hl sw kp) (am_ret (cW cd_252 d Q) 148 [some (.ref 279), some (.int x1), some (.int x2), some (.int x3), some (.long x4), none, some (.int x6), some (.long s0), none, o9] []))
    (h2 : ¬ ((lg_cmp s0 x4) ≤ 0) → cW cd_252 d Q 117 [some (.ref 279), some (.int x1), some (.int x2), some (.int x3), some (.long s0), none, some (.int x6), some (.long s0), none, some (.int (0))] [] (mkH hi hl sw kp))
    : cW cd_252 d Q 100 [some (.ref 279), some (.int x1), some (.int x2), some (.int x3), some (.long x4), none, some (.int x6), o7, none, o9] [(.long s0)] (mkH hi hl sw kp) :=
  cW.run (am_in [3, 56, 65, 72, 77, 84, 100, 117, 148]) 9 (And.intro (Nat.le_of_ble_eq_true rfl) (And.intro (fun c1 => (cC.of (h1 c1))) (fun c2 => (And.intro (Nat.le_of_ble_eq_true rfl) (And.intro (Nat.le_of_ble_eq_true rfl) (h2 c2))))))
set_option maxRecDepth 100000 in
theorem k_252_117 {x1 : Int32} {x2 : Int32} {x3 : Int32} {x4 : Int64} {x6 : Int32} {x7 : Int64} {x9 : Int32}
    (h1 : (8) ≤ x9 → cS d 251 [(.ref 279)] (mkH hi hl sw kp) (am_ret (cW cd_252 d Q) 148 [some (.ref 279), some (.int x1), some (.int x2), some (.int x3), some (.long x4), none, some (.int x6), some (.long x7), none, some (.int x9)] []))
    (h2 : ¬ ((8) ≤ x9) → vp_in x9 8)
    (h3 : ¬ ((8) ≤ x9) → vp_in x9 8)
    (h4 : ¬ ((8) ≤ x9) → cW cd_252 d Q 117 [some (.ref 279), some (.int x1), some (.int x2), some (.int x3), some (.long x4), none, some (.int x6), some (.long x7), none, some (.int (x9 + (1)))] [] (mkH (u2 hi 309 x9.toNatClampNeg (hi 308 x9.toNatClampNeg)) hl sw kp))
    : cW cd_252 d Q 117 [some (.ref 279), some (.int x1), some (.int x2), some (.int x3), some (.long x4), none, some (.int x6), some (.long x7), none, some (.int x9)] [] (mkH hi hl sw kp) :=
  cW.run (am_in [3, 56, 65, 72, 77, 84, 100, 117, 148]) 13 (And.intro (fun c1 => (cC.of (h1 c1))) (fun c2 => (And.intro (h2 c2) (And.intro (h3 c2) (And.intro (Nat.le_of_ble_eq_true rfl) (h4 c2))))))
set_option maxRecDepth 100000 in
theorem k_252_148 {x1 : Int32} {x2 : Int32} {x3 : Int32} {x4 : Int64} {x6 : Int32} {o7 : Option Value} {o9 : Option Value} {s0 : Int32}
    (h1 : cW cd_252 d Q 56 [some (.ref 279), some (.int x1), some (.int x2), some (.int x3), some (.long x4), none, some (.int s0), o7, none, o9] [] (mkH hi hl sw kp))
    : cW cd_252 d Q 148 [some (.ref 279), some (.int x1), some (.int x2), some (.int x3), some (.long x4), none, some (.int x6), o7, none, o9] [(.int s0)] (mkH hi hl sw kp) :=
  cW.run (am_in [3, 56, 65, 72, 77, 84, 100, 117, 148]) 2 (And.intro (Nat.le_of_ble_eq_true rfl) (h1))
-- 253: DogDecreesModel.putMore()V
set_option maxRecDepth 100000 in
theorem k_253_0
    (h1 : cW cd_253 d Q 2 [some (.ref 279), some (.int (0))] [] (mkH hi hl sw kp))
    : cW cd_253 d Q 0 [some (.ref 279), none] [] (mkH hi hl sw kp) :=
  cW.run (am_in [2]) 2 (And.intro (Nat.le_of_ble_eq_true rfl) (h1))
theorem e_253
    (h1 : cW cd_253 d Q 2 [some (.ref 279), some (.int (0))] [] (mkH hi hl sw kp))
    : cS (d + 1) 253 [(.ref 279)] (mkH hi hl sw kp) Q := cS.of rfl (k_253_0 h1)
set_option maxRecDepth 100000 in
theorem k_253_2 {x1 : Int32}
    (h1 : (hi 279 46) ≤ x1 → Q none (mkH (u2 hi 279 75 (hi 279 46)) hl sw kp))
    (h2 : ¬ ((hi 279 46) ≤ x1) → vp_in x1 8)
    (h3 : ¬ ((hi 279 46) ≤ x1) → vp_in x1 8)
    (h4 : ¬ ((hi 279 46) ≤ x1) → cW cd_253 d Q 2 [some (.ref 279), some (.int (x1 + (1)))] [] (mkH (u2 hi 310 x1.toNatClampNeg (hi 309 x1.toNatClampNeg)) hl sw kp))
    : cW cd_253 d Q 2 [some (.ref 279), some (.int x1)] [] (mkH hi hl sw kp) :=
  cW.run (am_in [2]) 14 (And.intro (fun c1 => (cQ.of (h1 c1))) (fun c2 => (And.intro (h2 c2) (And.intro (h3 c2) (And.intro (Nat.le_of_ble_eq_true rfl) (h4 c2))))))
-- 254: DogDecreesModel.best(IIII)J
set_option maxRecDepth 100000 in
theorem k_254_0 {x1 : Int32} {x2 : Int32} {x3 : Int32} {x4 : Int32}
    (h1 : cS d 209 [(.ref 279), (.int x1)] (mkH (u2 hi 279 75 (0)) hl sw kp) (am_ret (cW cd_254 d Q) 10 [some (.ref 279), some (.int x1), some (.int x2), some (.int x3), some (.int x4), none, none] []))
    : cW cd_254 d Q 0 [some (.ref 279), some (.int x1), some (.int x2), some (.int x3), some (.int x4), none, none] [] (mkH hi hl sw kp) :=
  cW.run (am_in [10, 20, 29, 39, 53, 70, 76, 81]) 6 (cC.of (h1))
theorem e_254 {x1 : Int32} {x2 : Int32} {x3 : Int32} {x4 : Int32}
    (h1 : cS d 209 [(.ref 279), (.int x1)] (mkH (u2 hi 279 75 (0)) hl sw kp) (am_ret (cW cd_254 d Q) 10 [some (.ref 279), some (.int x1), some (.int x2), some (.int x3), some (.int x4), none, none] []))
    : cS (d + 1) 254 [(.ref 279), (.int x1), (.int x2), (.int x3), (.int x4)] (mkH hi hl sw kp) Q := cS.of rfl (k_254_0 h1)
set_option maxRecDepth 100000 in
theorem k_254_10 {x1 : Int32} {x2 : Int32} {x3 : Int32} {x4 : Int32} {s0 : Int32}
    (h1 : s0 = 0 → Q (some (.long (-1))) (mkH hi hl sw kp))
    (h2 : ¬ (s0 = 0) → cS d 207 [(.int x2), (.int (1)), (.int (6))] (mkH hi hl sw kp) (am_ret (cW cd_254 d Q) 20 [some (.ref 279), some (.int x1), some (.int x2), some (.int x3), some (.int x4), none, none] []))
    : cW cd_254 d Q 10 [some (.ref 279), some (.int x1), some (.int x2), some (.int x3), some (.int x4), none, none] [(.int s0)] (mkH hi hl sw kp) :=
  cW.run (am_in [10, 20, 29, 39, 53, 70, 76, 81]) 5 (And.intro (fun c1 => (cQ.of (h1 c1))) (fun c2 => (cC.of (h2 c2))))
set_option maxRecDepth 100000 in
theorem k_254_20 {x1 : Int32} {x2 : Int32} {x3 : Int32} {x4 : Int32} {s0 : Int32}
    (h1 : s0 = 0 → Q (some (.long (-1))) (mkH hi hl sw kp))
    (h2 : ¬ (s0 = 0) → cS d 207 [(.int x3), (.int (0)), (.int (4))] (mkH hi hl sw kp) (am_ret (cW cd_254 d Q) 29 [some (.ref 279), some (.int x1), some (.int x2), some (.int x3), some (.int x4), none, none] []))
    : cW cd_254 d Q 20 [some (.ref 279), some (.int x1), some (.int x2), some (.int x3), some (.int x4), none, none] [(.int s0)] (mkH hi hl sw kp) :=
  cW.run (am_in [10, 20, 29, 39, 53, 70, 76, 81]) 5 (And.intro (fun c1 => (cQ.of (h1 c1))) (fun c2 => (cC.of (h2 c2))))
set_option maxRecDepth 100000 in
theorem k_254_29 {x1 : Int32} {x2 : Int32} {x3 : Int32} {x4 : Int32} {s0 : Int32}
    (h1 : s0 = 0 → Q (some (.long (-1))) (mkH hi hl sw kp))
    (h2 : ¬ (s0 = 0) → cS d 207 [(.int x4), (.int (0)), (.int (1))] (mkH hi hl sw kp) (am_ret (cW cd_254 d Q) 39 [some (.ref 279), some (.int x1), some (.int x2), some (.int x3), some (.int x4), none, none] []))
    : cW cd_254 d Q 29 [some (.ref 279), some (.int x1), some (.int x2), some (.int x3), some (.int x4), none, none] [(.int s0)] (mkH hi hl sw kp) :=
  cW.run (am_in [10, 20, 29, 39, 53, 70, 76, 81]) 5 (And.intro (fun c1 => (cQ.of (h1 c1))) (fun c2 => (cC.of (h2 c2))))
set_option maxRecDepth 100000 in
theorem k_254_39 {x1 : Int32} {x2 : Int32} {x3 : Int32} {x4 : Int32} {s0 : Int32}
    (h1 : s0 = 0 → Q (some (.long (-1))) (mkH hi hl sw kp))
    (h2 : ¬ (s0 = 0) → cS d 252 [(.ref 279), (.int x1), (.int x2), (.int x3)] (mkH hi hl sw kp) (am_ret (cW cd_254 d Q) 53 [some (.ref 279), some (.int x1), some (.int x2), some (.int x3), some (.int x4), none, none] []))
    : cW cd_254 d Q 39 [some (.ref 279), some (.int x1), some (.int x2), some (.int x3), some (.int x4), none, none] [(.int s0)] (mkH hi hl sw kp) :=
  cW.run (am_in [10, 20, 29, 39, 53, 70, 76, 81]) 6 (And.intro (fun c1 => (cQ.of (h1 c1))) (fun c2 => (cC.of (h2 c2))))
set_option maxRecDepth 100000 in
theorem k_254_53 {x1 : Int32} {x2 : Int32} {x3 : Int32} {x4 : Int32} {s0 : Int64}
    (h1 : 0 ≤ (lg_cmp s0 0) → cS d 253 [(.ref 279)] (mkH hi hl sw kp) (am_ret (cW cd_254 d Q) 70 [some (.ref 279), some (.int x1), some (.int x2), some (.int x3), some (.int x4), some (.long s0), none] []))
    (h2 : ¬ (0 ≤ (lg_cmp s0 0)) → Q (some (.long (-1))) (mkH hi hl sw kp))
    : cW cd_254 d Q 53 [some (.ref 279), some (.int x1), some (.int x2), some (.int x3), some (.int x4), none, none] [(.long s0)] (mkH hi hl sw kp) :=
  cW.run (am_in [10, 20, 29, 39, 53, 70, 76, 81]) 7 (And.intro (Nat.le_of_ble_eq_true rfl) (And.intro (fun c1 => (cC.of (h1 c1))) (fun c2 => (cQ.of (h2 c2)))))
set_option maxRecDepth 100000 in
theorem k_254_70 {x1 : Int32} {x2 : Int32} {x3 : Int32} {x4 : Int32} {x5 : Int64}
    (h1 : cS d 234 [(.int x2)] (mkH hi hl sw kp) (am_ret (cW cd_254 d Q) 76 [some (.ref 279), some (.int x1), some (.int x2), some (.int x3), some (.int x4), some (.long x5), none] [(.long x5)]))
    : cW cd_254 d Q 70 [some (.ref 279), some (.int x1), some (.int x2), some (.int x3), some (.int x4), some (.long x5), none] [] (mkH hi hl sw kp) :=
  cW.run (am_in [10, 20, 29, 39, 53, 70, 76, 81]) 3 (cC.of (h1))
set_option maxRecDepth 100000 in
theorem k_254_76 {x1 : Int32} {x2 : Int32} {x3 : Int32} {x4 : Int32} {x5 : Int64} {s0 : Int64} {s1 : Int64}
    (h1 : cS d 236 [(.long s0), (.long s1), (.int x4)] (mkH hi hl sw kp) (am_ret (cW cd_254 d Q) 81 [some (.ref 279), some (.int x1), some (.int x2), some (.int x3), some (.int x4), some (.long x5), none] []))
    : cW cd_254 d Q 76 [some (.ref 279), some (.int x1), some (.int x2), some (.int x3), some (.int x4), some (.long x5), none] [(.long s1), (.long s0)] (mkH hi hl sw kp) :=
  cW.run (am_in [10, 20, 29, 39, 53, 70, 76, 81]) 2 (cC.of (h1))
set_option maxRecDepth 100000 in
theorem k_254_81 {x1 : Int32} {x2 : Int32} {x3 : Int32} {x4 : Int32} {x5 : Int64} {s0 : Int64}
    (h1 : Q (some (.long s0)) (mkH hi hl sw kp))
    : cW cd_254 d Q 81 [some (.ref 279), some (.int x1), some (.int x2), some (.int x3), some (.int x4), some (.long x5), none] [(.long s0)] (mkH hi hl sw kp) :=
  cW.run (am_in [10, 20, 29, 39, 53, 70, 76, 81]) 1 (cQ.of (h1))
end BLK
