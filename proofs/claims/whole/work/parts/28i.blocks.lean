/-! ===== blocks of methods, by program ===== -/
section BLK
variable {d : Nat} {Q : am_Q} {hi : Nat → Nat → Int32} {hl : Nat → Nat → Int64} {sw : Bool} {kp : Nat → Nat}
-- 56: DogDecrees$PullTelling.tellOr(I)Z
set_option maxRecDepth 100000 in
theorem k_56_0 {x1 : Int32}
    (h1 : cS d 57 [(.ref 18), (.int x1)] (mkH hi hl sw kp) (am_ret (cW cd_56 d Q) 5 [some (.ref 18), some (.int x1), none] []))
    : cW cd_56 d Q 0 [some (.ref 18), some (.int x1), none] [] (mkH hi hl sw kp) :=
  cW.run (am_in [5, 12, 39, 44, 59]) 3 (cC.of (h1))
theorem e_56 {x1 : Int32}
    (h1 : cS d 57 [(.ref 18), (.int x1)] (mkH hi hl sw kp) (am_ret (cW cd_56 d Q) 5 [some (.ref 18), some (.int x1), none] []))
    : cS (d + 1) 56 [(.ref 18), (.int x1)] (mkH hi hl sw kp) Q := cS.of rfl (k_56_0 h1)
set_option maxRecDepth 100000 in
theorem k_56_5 {x1 : Int32} {s0 : Int32}
    (h1 : s0 = 0 → Q (some (.int (0))) (mkH hi hl sw kp))
    (h2 : ¬ (s0 = 0) → cW cd_56 d Q 12 [some (.ref 18), some (.int x1), some (.int (0))] [] (mkH hi hl sw kp))
    : cW cd_56 d Q 5 [some (.ref 18), some (.int x1), none] [(.int s0)] (mkH hi hl sw kp) :=
  cW.run (am_in [5, 12, 39, 44, 59]) 3 (And.intro (fun c1 => (And.intro (Or.inl rfl) (cQ.of (h1 c1)))) (fun c2 => (And.intro (Nat.le_of_ble_eq_true rfl) (h2 c2))))
set_option maxRecDepth 100000 in
theorem k_56_12 {x1 : Int32} {x2 : Int32}
    (h1 : (1600) ≤ x2 → Q (some (.int (1))) (mkH hi hl sw kp))
    (h2 : ¬ ((1600) ≤ x2) → (hi 3 2) = (215) → cS d 67 [(.ref 3)] (mkH hi hl sw kp) (am_ret (cW cd_56 d Q) 39 [some (.ref 18), some (.int x1), some (.int x2)] []))
    (h3 : ¬ ((1600) ≤ x2) → ¬ ((hi 3 2) = (215)) → Q (some (.int (1))) (mkH hi hl sw kp))
    : cW cd_56 d Q 12 [some (.ref 18), some (.int x1), some (.int x2)] [] (mkH hi hl sw kp) :=
  cW.run (am_in [5, 12, 39, 44, 59]) 11 (And.intro (fun c1 => (And.intro (Or.inr rfl) (cQ.of (h1 c1)))) (fun c2 => (And.intro (fun c3 => (cC.of (h2 c2 c3))) (fun c4 => (And.intro (Or.inr rfl) (cQ.of (h3 c2 c4)))))))
set_option maxRecDepth 100000 in
theorem k_56_39 {x1 : Int32} {x2 : Int32}
    (h1 : cS d 57 [(.ref 18), (.int x1)] (mkH hi hl sw kp) (am_ret (cW cd_56 d Q) 44 [some (.ref 18), some (.int x1), some (.int x2)] []))
    : cW cd_56 d Q 39 [some (.ref 18), some (.int x1), some (.int x2)] [] (mkH hi hl sw kp) :=
  cW.run (am_in [5, 12, 39, 44, 59]) 3 (cC.of (h1))
set_option maxRecDepth 100000 in
theorem k_56_44 {x1 : Int32} {x2 : Int32} {s0 : Int32}
    (h1 : s0 = 0 → Q (some (.int (0))) (mkH hi hl sw kp))
    (h2 : ¬ (s0 = 0) → cS d 8 [(.ref 11), (.int (-215))] (mkH hi hl sw kp) (am_ret (cW cd_56 d Q) 59 [some (.ref 18), some (.int x1), some (.int x2)] []))
    : cW cd_56 d Q 44 [some (.ref 18), some (.int x1), some (.int x2)] [(.int s0)] (mkH hi hl sw kp) :=
  cW.run (am_in [5, 12, 39, 44, 59]) 5 (And.intro (fun c1 => (And.intro (Or.inl rfl) (cQ.of (h1 c1)))) (fun c2 => (cC.of (h2 c2))))
set_option maxRecDepth 100000 in
theorem k_56_59 {x1 : Int32} {x2 : Int32}
    (h1 : cW cd_56 d Q 12 [some (.ref 18), some (.int x1), some (.int (x2 + (1)))] [] (mkH hi hl sw kp))
    : cW cd_56 d Q 59 [some (.ref 18), some (.int x1), some (.int x2)] [] (mkH hi hl sw kp) :=
  cW.run (am_in [5, 12, 39, 44, 59]) 2 (And.intro (Nat.le_of_ble_eq_true rfl) (h1))
-- 237: DogDecreesModel.where(III)J
set_option maxRecDepth 100000 in
theorem k_237_0 {x1 : Int32} {x2 : Int32} {x3 : Int32}
    (h1 : (g_208 hi x1) = 0 → Q (some (.long (-1))) (mkH hi hl sw kp))
    (h2 : ¬ ((g_208 hi x1) = 0) → (g_207 x2 (0 : Int32) (8 : Int32)) = 0 → Q (some (.long (-1))) (mkH hi hl sw kp))
    (h3 : ¬ ((g_208 hi x1) = 0) → ¬ ((g_207 x2 (0 : Int32) (8 : Int32)) = 0) → (g_207 x3 (0 : Int32) (1 : Int32)) = 0 → Q (some (.long (-1))) (mkH hi hl sw kp))
    (h4 : ¬ ((g_208 hi x1) = 0) → ¬ ((g_207 x2 (0 : Int32) (8 : Int32)) = 0) → ¬ ((g_207 x3 (0 : Int32) (1 : Int32)) = 0) → cS (d + 2) 233 [(.ref 279), (.int x2)] (mkH hi hl sw kp) (am_ret (cW cd_237 (d + 2) Q) 36 [some (.ref 279), some (.int x1), some (.int x2), some (.int x3)] []))
    : cW cd_237 (d + 2) Q 0 [some (.ref 279), some (.int x1), some (.int x2), some (.int x3)] [] (mkH hi hl sw kp) :=
  cW.run (am_in [36, 46, 50]) 17 (cC.of (s_208 (And.intro (fun c1 => (cQ.of (h1 c1))) (fun c2 => (cC.of (s_207 (And.intro (fun c3 => (cQ.of (h2 c2 c3))) (fun c4 => (cC.of (s_207 (And.intro (fun c5 => (cQ.of (h3 c2 c4 c5))) (fun c6 => (cC.of (h4 c2 c4 c6))))))))))))))
theorem e_237 {x1 : Int32} {x2 : Int32} {x3 : Int32}
    (h1 : (g_208 hi x1) = 0 → Q (some (.long (-1))) (mkH hi hl sw kp))
    (h2 : ¬ ((g_208 hi x1) = 0) → (g_207 x2 (0 : Int32) (8 : Int32)) = 0 → Q (some (.long (-1))) (mkH hi hl sw kp))
    (h3 : ¬ ((g_208 hi x1) = 0) → ¬ ((g_207 x2 (0 : Int32) (8 : Int32)) = 0) → (g_207 x3 (0 : Int32) (1 : Int32)) = 0 → Q (some (.long (-1))) (mkH hi hl sw kp))
    (h4 : ¬ ((g_208 hi x1) = 0) → ¬ ((g_207 x2 (0 : Int32) (8 : Int32)) = 0) → ¬ ((g_207 x3 (0 : Int32) (1 : Int32)) = 0) → cS (d + 2) 233 [(.ref 279), (.int x2)] (mkH hi hl sw kp) (am_ret (cW cd_237 (d + 2) Q) 36 [some (.ref 279), some (.int x1), some (.int x2), some (.int x3)] []))
    : cS ((d + 2) + 1) 237 [(.ref 279), (.int x1), (.int x2), (.int x3)] (mkH hi hl sw kp) Q := cS.of rfl (k_237_0 h1 h2 h3 h4)
set_option maxRecDepth 100000 in
theorem k_237_36 {x1 : Int32} {x2 : Int32} {x3 : Int32}
    (h1 : vp_in x1 8)
    (h2 : cS (d + 2) 234 [(.int x2)] (mkH hi hl sw kp) (am_ret (cW cd_237 (d + 2) Q) 46 [some (.ref 279), some (.int x1), some (.int x2), some (.int x3)] [(.long (hl 304 x1.toNatClampNeg))]))
    : cW cd_237 (d + 2) Q 36 [some (.ref 279), some (.int x1), some (.int x2), some (.int x3)] [] (mkH hi hl sw kp) :=
  cW.run (am_in [36, 46, 50]) 6 (And.intro (h1) (cC.of (h2)))
set_option maxRecDepth 100000 in
theorem k_237_46 {x1 : Int32} {x2 : Int32} {x3 : Int32} {s0 : Int64} {s1 : Int64}
    (h1 : cS (d + 2) 236 [(.long s0), (.long s1), (.int x3)] (mkH hi hl sw kp) (am_ret (cW cd_237 (d + 2) Q) 50 [some (.ref 279), some (.int x1), some (.int x2), some (.int x3)] []))
    : cW cd_237 (d + 2) Q 46 [some (.ref 279), some (.int x1), some (.int x2), some (.int x3)] [(.long s1), (.long s0)] (mkH hi hl sw kp) :=
  cW.run (am_in [36, 46, 50]) 2 (cC.of (h1))
set_option maxRecDepth 100000 in
theorem k_237_50 {x1 : Int32} {x2 : Int32} {x3 : Int32} {s0 : Int64}
    (h1 : Q (some (.long s0)) (mkH hi hl sw kp))
    : cW cd_237 (d + 2) Q 50 [some (.ref 279), some (.int x1), some (.int x2), some (.int x3)] [(.long s0)] (mkH hi hl sw kp) :=
  cW.run (am_in [36, 46, 50]) 1 (cQ.of (h1))
-- 238: DogDecreesModel.likely(I)I
set_option maxRecDepth 100000 in
theorem k_238_0 {x1 : Int32}
    (h1 : (hi 279 46) = 0 → Q (some (.int (-1))) (mkH hi hl sw kp))
    (h2 : ¬ ((hi 279 46) = 0) → (g_207 x1 (0 : Int32) (8 : Int32)) = 0 → Q (some (.int (-1))) (mkH hi hl sw kp))
    (h3 : ¬ ((hi 279 46) = 0) → ¬ ((g_207 x1 (0 : Int32) (8 : Int32)) = 0) → cS (d + 1) 233 [(.ref 279), (.int x1)] (mkH hi hl sw kp) (am_ret (cW cd_238 (d + 1) Q) 24 [some (.ref 279), some (.int x1), none, none] []))
    : cW cd_238 (d + 1) Q 0 [some (.ref 279), some (.int x1), none, none] [] (mkH hi hl sw kp) :=
  cW.run (am_in [24, 28]) 11 (And.intro (fun c1 => (cQ.of (h1 c1))) (fun c2 => (cC.of (s_207 (And.intro (fun c3 => (cQ.of (h2 c2 c3))) (fun c4 => (cC.of (h3 c2 c4))))))))
theorem e_238 {x1 : Int32}
    (h1 : (hi 279 46) = 0 → Q (some (.int (-1))) (mkH hi hl sw kp))
    (h2 : ¬ ((hi 279 46) = 0) → (g_207 x1 (0 : Int32) (8 : Int32)) = 0 → Q (some (.int (-1))) (mkH hi hl sw kp))
    (h3 : ¬ ((hi 279 46) = 0) → ¬ ((g_207 x1 (0 : Int32) (8 : Int32)) = 0) → cS (d + 1) 233 [(.ref 279), (.int x1)] (mkH hi hl sw kp) (am_ret (cW cd_238 (d + 1) Q) 24 [some (.ref 279), some (.int x1), none, none] []))
    : cS ((d + 1) + 1) 238 [(.ref 279), (.int x1)] (mkH hi hl sw kp) Q := cS.of rfl (k_238_0 h1 h2 h3)
set_option maxRecDepth 100000 in
theorem k_238_24 {x1 : Int32}
    (h1 : cW cd_238 (d + 1) Q 28 [some (.ref 279), some (.int x1), some (.int (0)), some (.int (1))] [] (mkH hi hl sw kp))
    : cW cd_238 (d + 1) Q 24 [some (.ref 279), some (.int x1), none, none] [] (mkH hi hl sw kp) :=
  cW.run (am_in [24, 28]) 4 (And.intro (Nat.le_of_ble_eq_true rfl) (And.intro (Nat.le_of_ble_eq_true rfl) (h1)))
set_option maxRecDepth 100000 in
theorem k_238_28 {x1 : Int32} {x2 : Int32} {x3 : Int32}
    (h1 : (hi 279 46) ≤ x3 → Q (some (.int x2)) (mkH hi hl sw kp))
    (h2 : ¬ ((hi 279 46) ≤ x3) → vp_in x3 8)
    (h3 : ¬ ((hi 279 46) ≤ x3) → vp_in x2 8)
    (h4 : ¬ ((hi 279 46) ≤ x3) → (lg_cmp (hl 304 x3.toNatClampNeg) (hl 304 x2.toNatClampNeg)) ≤ 0 → cW cd_238 (d + 1) Q 28 [some (.ref 279), some (.int x1), some (.int x2), some (.int (x3 + (1)))] [] (mkH hi hl sw kp))
    (h5 : ¬ ((hi 279 46) ≤ x3) → ¬ ((lg_cmp (hl 304 x3.toNatClampNeg) (hl 304 x2.toNatClampNeg)) ≤ 0) → cW cd_238 (d + 1) Q 28 [some (.ref 279), some (.int x1), some (.int x3), some (.int (x3 + (1)))] [] (mkH hi hl sw kp))
    : cW cd_238 (d + 1) Q 28 [some (.ref 279), some (.int x1), some (.int x2), some (.int x3)] [] (mkH hi hl sw kp) :=
  cW.run (am_in [24, 28]) 19 (And.intro (fun c1 => (cQ.of (h1 c1))) (fun c2 => (And.intro (h2 c2) (And.intro (h3 c2) (And.intro (fun c3 => (And.intro (Nat.le_of_ble_eq_true rfl) (And.intro (Nat.le_of_ble_eq_true rfl) (h4 c2 c3)))) (fun c4 => (And.intro (Nat.le_of_ble_eq_true rfl) (And.intro (Nat.le_of_ble_eq_true rfl) (h5 c2 c4)))))))))
-- 245: DogDecreesModel.passNow(III)J
set_option maxRecDepth 100000 in
theorem k_245_0 {x1 : Int32} {x2 : Int32} {x3 : Int32}
    (h1 : cS (d + 1) 211 [(.ref 279)] (mkH hi hl sw kp) (am_ret (cW cd_245 (d + 1) Q) 4 [some (.ref 279), some (.int x1), some (.int x2), some (.int x3)] []))
    : cW cd_245 (d + 1) Q 0 [some (.ref 279), some (.int x1), some (.int x2), some (.int x3)] [] (mkH hi hl sw kp) :=
  cW.run (am_in [4, 16, 26]) 2 (cC.of (h1))
theorem e_245 {x1 : Int32} {x2 : Int32} {x3 : Int32}
    (h1 : cS (d + 1) 211 [(.ref 279)] (mkH hi hl sw kp) (am_ret (cW cd_245 (d + 1) Q) 4 [some (.ref 279), some (.int x1), some (.int x2), some (.int x3)] []))
    : cS ((d + 1) + 1) 245 [(.ref 279), (.int x1), (.int x2), (.int x3)] (mkH hi hl sw kp) Q := cS.of rfl (k_245_0 h1)
set_option maxRecDepth 100000 in
theorem k_245_4 {x1 : Int32} {x2 : Int32} {x3 : Int32}
    (h1 : vp_in ((12) + x1) 82)
    (h2 : (g_244 hi x1) = 0 → cS (d + 1) 243 [(.ref 279), (.int x1), (.int x2), (.int x3)] (mkH hi hl sw kp) (am_ret (cW cd_245 (d + 1) Q) 26 [some (.ref 279), some (.int x1), some (.int x2), some (.int x3)] []))
    (h3 : ¬ ((g_244 hi x1) = 0) → cS (d + 1) 234 [(.int x2)] (mkH hi hl sw kp) (am_ret (cW cd_245 (d + 1) Q) 16 [some (.ref 279), some (.int x1), some (.int x2), some (.int x3)] []))
    : cW cd_245 (d + 1) Q 4 [some (.ref 279), some (.int x1), some (.int x2), some (.int x3)] [] (mkH hi hl sw kp) :=
  cW.run (am_in [4, 16, 26]) 9 (cC.of (s_244 (h1) (And.intro (fun c1 => (cC.of (h2 c1))) (fun c2 => (cC.of (h3 c2))))))
set_option maxRecDepth 100000 in
theorem k_245_16 {x1 : Int32} {x2 : Int32} {x3 : Int32} {s0 : Int64}
    (h1 : cW cd_245 (d + 1) Q 26 [some (.ref 279), some (.int x1), some (.int x2), some (.int x3)] [(.long s0)] (mkH hi hl sw kp))
    : cW cd_245 (d + 1) Q 16 [some (.ref 279), some (.int x1), some (.int x2), some (.int x3)] [(.long s0)] (mkH hi hl sw kp) :=
  cW.run (am_in [4, 16, 26]) 1 (h1)
set_option maxRecDepth 100000 in
theorem k_245_26 {x1 : Int32} {x2 : Int32} {x3 : Int32} {s0 : Int64}
    (h1 : Q (some (.long s0)) (mkH hi hl sw kp))
    : cW cd_245 (d + 1) Q 26 [some (.ref 279), some (.int x1), some (.int x2), some (.int x3)] [(.long s0)] (mkH hi hl sw kp) :=
  cW.run (am_in [4, 16, 26]) 1 (cQ.of (h1))
-- 252: DogDecreesModel.bestLay(III)J
set_option maxRecDepth 100000 in
theorem k_252_0 {x1 : Int32} {x2 : Int32} {x3 : Int32}
    (h1 : cW cd_252 (d + 1) Q 3 [some (.ref 279), some (.int x1), some (.int x2), some (.int x3), some (.int (0)), none, none, none, none, none] [] (mkH hi hl sw kp))
    : cW cd_252 (d + 1) Q 0 [some (.ref 279), some (.int x1), some (.int x2), some (.int x3), none, none, none, none, none, none] [] (mkH hi hl sw kp) :=
  cW.run (am_in [3, 56, 65, 72, 84, 100, 117, 148]) 2 (And.intro (Nat.le_of_ble_eq_true rfl) (h1))
theorem e_252 {x1 : Int32} {x2 : Int32} {x3 : Int32}
    (h1 : cW cd_252 (d + 1) Q 3 [some (.ref 279), some (.int x1), some (.int x2), some (.int x3), some (.int (0)), none, none, none, none, none] [] (mkH hi hl sw kp))
    : cS ((d + 1) + 1) 252 [(.ref 279), (.int x1), (.int x2), (.int x3)] (mkH hi hl sw kp) Q := cS.of rfl (k_252_0 h1)
set_option maxRecDepth 100000 in
theorem k_252_3 {x1 : Int32} {x2 : Int32} {x3 : Int32} {x4 : Int32}
    (h1 : (8) ≤ x4 → 0 < (hi 279 46) → cW cd_252 (d + 1) Q 56 [some (.ref 279), some (.int x1), some (.int x2), some (.int x3), some (.long (-1)), none, some (.int (1)), none, none, none] [] (mkH hi hl sw kp))
    (h2 : (8) ≤ x4 → ¬ (0 < (hi 279 46)) → x3 = 0 → cW cd_252 (d + 1) Q 56 [some (.ref 279), some (.int x1), some (.int x2), some (.int x3), some (.long (-1)), none, some (.int (1)), none, none, none] [] (mkH hi hl sw kp))
    (h3 : (8) ≤ x4 → ¬ (0 < (hi 279 46)) → ¬ (x3 = 0) → cW cd_252 (d + 1) Q 56 [some (.ref 279), some (.int x1), some (.int x2), some (.int x3), some (.long (-1)), none, some (.int (0)), none, none, none] [] (mkH hi hl sw kp))
    (h4 : ¬ ((8) ≤ x4) → x4 = 0 → vp_in x4 8)
    (h5 : ¬ ((8) ≤ x4) → x4 = 0 → cW cd_252 (d + 1) Q 3 [some (.ref 279), some (.int x1), some (.int x2), some (.int x3), some (.int (x4 + (1))), none, none, none, none, none] [] (mkH (u2 hi 308 x4.toNatClampNeg x3) hl sw kp))
    (h6 : ¬ ((8) ≤ x4) → ¬ (x4 = 0) → vp_in x4 8)
    (h7 : ¬ ((8) ≤ x4) → ¬ (x4 = 0) → cW cd_252 (d + 1) Q 3 [some (.ref 279), some (.int x1), some (.int x2), some (.int x3), some (.int (x4 + (1))), none, none, none, none, none] [] (mkH (u2 hi 308 x4.toNatClampNeg (0)) hl sw kp))
    : cW cd_252 (d + 1) Q 3 [some (.ref 279), some (.int x1), some (.int x2), some (.int x3), some (.int x4), none, none, none, none, none] [] (mkH hi hl sw kp) :=
  cW.run (am_in [3, 56, 65, 72, 84, 100, 117, 148]) 13 (And.intro (fun c1 => (And.intro (Nat.le_of_ble_eq_true rfl) (And.intro (fun c2 => (And.intro (Nat.le_of_ble_eq_true rfl) (h1 c1 c2))) (fun c3 => (And.intro (fun c4 => (And.intro (Nat.le_of_ble_eq_true rfl) (h2 c1 c3 c4))) (fun c5 => (And.intro (Nat.le_of_ble_eq_true rfl) (h3 c1 c3 c5)))))))) (fun c6 => (And.intro (fun c7 => (And.intro (h4 c6 c7) (And.intro (Nat.le_of_ble_eq_true rfl) (h5 c6 c7)))) (fun c8 => (And.intro (h6 c6 c8) (And.intro (Nat.le_of_ble_eq_true rfl) (h7 c6 c8)))))))
set_option maxRecDepth 100000 in
theorem k_252_56 {x1 : Int32} {x2 : Int32} {x3 : Int32} {x4 : Int64} {x6 : Int32} {o7 : Option Value} {o9 : Option Value}
    (h1 : x6 = 0 → Q (some (.long x4)) (mkH hi hl sw kp))
    (h2 : ¬ (x6 = 0) → cS (d + 1) 250 [(.ref 279)] (mkH hi hl sw kp) (am_ret (cW cd_252 (d + 1) Q) 65 [some (.ref 279), some (.int x1), some (.int x2), some (.int x3), some (.long x4), none, some (.int x6), o7, none, o9] []))
    : cW cd_252 (d + 1) Q 56 [some (.ref 279), some (.int x1), some (.int x2), some (.int x3), some (.long x4), none, some (.int x6), o7, none, o9] [] (mkH hi hl sw kp) :=
  cW.run (am_in [3, 56, 65, 72, 84, 100, 117, 148]) 4 (And.intro (fun c1 => (cQ.of (h1 c1))) (fun c2 => (cC.of (h2 c2))))
set_option maxRecDepth 100000 in
theorem k_252_65 {x1 : Int32} {x2 : Int32} {x3 : Int32} {x4 : Int64} {x6 : Int32} {o7 : Option Value} {o9 : Option Value} {s0 : Int32}
    (h1 : s0 = 0 → cS (d + 1) 251 [(.ref 279)] (mkH hi hl sw kp) (am_ret (cW cd_252 (d + 1) Q) 148 [some (.ref 279), some (.int x1), some (.int x2), some (.int x3), some (.long x4), none, some (.int x6), o7, none, o9] []))
    (h2 : ¬ (s0 = 0) → cS (d + 1) 249 [(.ref 279)] (mkH hi hl sw kp) (am_ret (cW cd_252 (d + 1) Q) 72 [some (.ref 279), some (.int x1), some (.int x2), some (.int x3), some (.long x4), none, some (.int x6), o7, none, o9] []))
    : cW cd_252 (d + 1) Q 65 [some (.ref 279), some (.int x1), some (.int x2), some (.int x3), some (.long x4), none, some (.int x6), o7, none, o9] [(.int s0)] (mkH hi hl sw kp) :=
  cW.run (am_in [3, 56, 65, 72, 84, 100, 117, 148]) 3 (And.intro (fun c1 => (cC.of (h1 c1))) (fun c2 => (cC.of (h2 c2))))
set_option maxRecDepth 100000 in
theorem k_252_72 {x1 : Int32} {x2 : Int32} {x3 : Int32} {x4 : Int64} {x6 : Int32} {o7 : Option Value} {o9 : Option Value}
    (h1 : vp_in ((12) + x1) 82)
    (h2 : (g_244 hi x1) = 0 → cS (d + 1) 243 [(.ref 279), (.int x1), (.int x2), (.int (hi 299 16))] (mkH hi hl sw kp) (am_ret (cW cd_252 (d + 1) Q) 100 [some (.ref 279), some (.int x1), some (.int x2), some (.int x3), some (.long x4), none, some (.int x6), o7, none, o9] []))
    (h3 : ¬ ((g_244 hi x1) = 0) → cS (d + 1) 234 [(.int x2)] (mkH hi hl sw kp) (am_ret (cW cd_252 (d + 1) Q) 84 [some (.ref 279), some (.int x1), some (.int x2), some (.int x3), some (.long x4), none, some (.int x6), o7, none, o9] []))
    : cW cd_252 (d + 1) Q 72 [some (.ref 279), some (.int x1), some (.int x2), some (.int x3), some (.long x4), none, some (.int x6), o7, none, o9] [] (mkH hi hl sw kp) :=
  cW.run (am_in [3, 56, 65, 72, 84, 100, 117, 148]) 12 (cC.of (s_244 (h1) (And.intro (fun c1 => (And.intro (show vp_in 16 82 from vin_l (by decide +kernel)) (cC.of (h2 c1)))) (fun c2 => (cC.of (h3 c2))))))
set_option maxRecDepth 100000 in
theorem k_252_84 {x1 : Int32} {x2 : Int32} {x3 : Int32} {x4 : Int64} {x6 : Int32} {o7 : Option Value} {o9 : Option Value} {s0 : Int64}
    (h1 : cW cd_252 (d + 1) Q 100 [some (.ref 279), some (.int x1), some (.int x2), some (.int x3), some (.long x4), none, some (.int x6), o7, none, o9] [(.long s0)] (mkH hi hl sw kp))
    : cW cd_252 (d + 1) Q 84 [some (.ref 279), some (.int x1), some (.int x2), some (.int x3), some (.long x4), none, some (.int x6), o7, none, o9] [(.long s0)] (mkH hi hl sw kp) :=
  cW.run (am_in [3, 56, 65, 72, 84, 100, 117, 148]) 1 (h1)
set_option maxRecDepth 100000 in
theorem k_252_100 {x1 : Int32} {x2 : Int32} {x3 : Int32} {x4 : Int64} {x6 : Int32} {o7 : Option Value} {o9 : Option Value} {s0 : Int64}
    (h1 : (lg_cmp s0 x4) ≤ 0 → cS (d + 1) 251 [(.ref 279)] (mkH hi hl sw kp) (am_ret (cW cd_252 (d + 1) Q) 148 [some (.ref 279), some (.int x1), some (.int x2), some (.int x3), some (.long x4), none, some (.int x6), some (.long s0), none, o9] []))
    (h2 : ¬ ((lg_cmp s0 x4) ≤ 0) → cW cd_252 (d + 1) Q 117 [some (.ref 279), some (.int x1), some (.int x2), some (.int x3), some (.long s0), none, some (.int x6), some (.long s0), none, some (.int (0))] [] (mkH hi hl sw kp))
    : cW cd_252 (d + 1) Q 100 [some (.ref 279), some (.int x1), some (.int x2), some (.int x3), some (.long x4), none, some (.int x6), o7, none, o9] [(.long s0)] (mkH hi hl sw kp) :=
  cW.run (am_in [3, 56, 65, 72, 84, 100, 117, 148]) 9 (And.intro (Nat.le_of_ble_eq_true rfl) (And.intro (fun c1 => (cC.of (h1 c1))) (fun c2 => (And.intro (Nat.le_of_ble_eq_true rfl) (And.intro (Nat.le_of_ble_eq_true rfl) (h2 c2))))))
set_option maxRecDepth 100000 in
theorem k_252_117 {x1 : Int32} {x2 : Int32} {x3 : Int32} {x4 : Int64} {x6 : Int32} {x7 : Int64} {x9 : Int32}
    (h1 : (8) ≤ x9 → cS (d + 1) 251 [(.ref 279)] (mkH hi hl sw kp) (am_ret (cW cd_252 (d + 1) Q) 148 [some (.ref 279), some (.int x1), some (.int x2), some (.int x3), some (.long x4), none, some (.int x6), some (.long x7), none, some (.int x9)] []))
    (h2 : ¬ ((8) ≤ x9) → vp_in x9 8)
    (h3 : ¬ ((8) ≤ x9) → cW cd_252 (d + 1) Q 117 [some (.ref 279), some (.int x1), some (.int x2), some (.int x3), some (.long x4), none, some (.int x6), some (.long x7), none, some (.int (x9 + (1)))] [] (mkH (u2 hi 309 x9.toNatClampNeg (hi 308 x9.toNatClampNeg)) hl sw kp))
    : cW cd_252 (d + 1) Q 117 [some (.ref 279), some (.int x1), some (.int x2), some (.int x3), some (.long x4), none, some (.int x6), some (.long x7), none, some (.int x9)] [] (mkH hi hl sw kp) :=
  cW.run (am_in [3, 56, 65, 72, 84, 100, 117, 148]) 13 (And.intro (fun c1 => (cC.of (h1 c1))) (fun c2 => (And.intro (h2 c2) (And.intro (h2 c2) (And.intro (Nat.le_of_ble_eq_true rfl) (h3 c2))))))
set_option maxRecDepth 100000 in
theorem k_252_148 {x1 : Int32} {x2 : Int32} {x3 : Int32} {x4 : Int64} {x6 : Int32} {o7 : Option Value} {o9 : Option Value} {s0 : Int32}
    (h1 : cW cd_252 (d + 1) Q 56 [some (.ref 279), some (.int x1), some (.int x2), some (.int x3), some (.long x4), none, some (.int s0), o7, none, o9] [] (mkH hi hl sw kp))
    : cW cd_252 (d + 1) Q 148 [some (.ref 279), some (.int x1), some (.int x2), some (.int x3), some (.long x4), none, some (.int x6), o7, none, o9] [(.int s0)] (mkH hi hl sw kp) :=
  cW.run (am_in [3, 56, 65, 72, 84, 100, 117, 148]) 2 (And.intro (Nat.le_of_ble_eq_true rfl) (h1))
-- 256: DogDecreesModel.leastBehind(III)J
set_option maxRecDepth 100000 in
theorem k_256_0 {x1 : Int32} {x2 : Int32} {x3 : Int32}
    (h1 : cW cd_256 (d + 1) Q 13 [some (.ref 279), some (.int x1), some (.int x2), some (.int x3), some (.long (-1)), none, some (.int (0)), none, none] [] (mkH (u2 hi 279 76 (-1)) hl sw kp))
    : cW cd_256 (d + 1) Q 0 [some (.ref 279), some (.int x1), some (.int x2), some (.int x3), none, none, none, none, none] [] (mkH hi hl sw kp) :=
  cW.run (am_in [13, 25, 79, 89, 101, 117]) 7 (And.intro (Nat.le_of_ble_eq_true rfl) (And.intro (Nat.le_of_ble_eq_true rfl) (h1)))
theorem e_256 {x1 : Int32} {x2 : Int32} {x3 : Int32}
    (h1 : cW cd_256 (d + 1) Q 13 [some (.ref 279), some (.int x1), some (.int x2), some (.int x3), some (.long (-1)), none, some (.int (0)), none, none] [] (mkH (u2 hi 279 76 (-1)) hl sw kp))
    : cS ((d + 1) + 1) 256 [(.ref 279), (.int x1), (.int x2), (.int x3)] (mkH hi hl sw kp) Q := cS.of rfl (k_256_0 h1)
set_option maxRecDepth 100000 in
theorem k_256_13 {x1 : Int32} {x2 : Int32} {x3 : Int32} {x4 : Int64} {x6 : Int32} {o7 : Option Value}
    (h1 : (hi 279 46) ≤ x6 → Q (some (.long x4)) (mkH hi hl sw kp))
    (h2 : ¬ ((hi 279 46) ≤ x6) → cW cd_256 (d + 1) Q 25 [some (.ref 279), some (.int x1), some (.int x2), some (.int x3), some (.long x4), none, some (.int x6), some (.int (0)), none] [] (mkH hi hl sw kp))
    : cW cd_256 (d + 1) Q 13 [some (.ref 279), some (.int x1), some (.int x2), some (.int x3), some (.long x4), none, some (.int x6), o7, none] [] (mkH hi hl sw kp) :=
  cW.run (am_in [13, 25, 79, 89, 101, 117]) 6 (And.intro (fun c1 => (cQ.of (h1 c1))) (fun c2 => (And.intro (Nat.le_of_ble_eq_true rfl) (h2 c2))))
set_option maxRecDepth 100000 in
theorem k_256_25 {x1 : Int32} {x2 : Int32} {x3 : Int32} {x4 : Int64} {x6 : Int32} {x7 : Int32}
    (h1 : (8) ≤ x7 → cS (d + 1) 250 [(.ref 279)] (mkH hi hl sw kp) (am_ret (cW cd_256 (d + 1) Q) 79 [some (.ref 279), some (.int x1), some (.int x2), some (.int x3), some (.long x4), none, some (.int x6), some (.int x7), none] []))
    (h2 : ¬ ((8) ≤ x7) → x7 = x3 → x7 = x6 → vp_in x7 8)
    (h3 : ¬ ((8) ≤ x7) → x7 = x3 → x7 = x6 → cW cd_256 (d + 1) Q 25 [some (.ref 279), some (.int x1), some (.int x2), some (.int x3), some (.long x4), none, some (.int x6), some (.int (x7 + (1))), none] [] (mkH (u2 hi 308 x7.toNatClampNeg ((g_194 (1 : Int32)) + (g_194 (1 : Int32)))) hl sw kp))
    (h4 : ¬ ((8) ≤ x7) → x7 = x3 → ¬ (x7 = x6) → vp_in x7 8)
    (h5 : ¬ ((8) ≤ x7) → x7 = x3 → ¬ (x7 = x6) → cW cd_256 (d + 1) Q 25 [some (.ref 279), some (.int x1), some (.int x2), some (.int x3), some (.long x4), none, some (.int x6), some (.int (x7 + (1))), none] [] (mkH (u2 hi 308 x7.toNatClampNeg ((g_194 (1 : Int32)) + (g_194 (0 : Int32)))) hl sw kp))
    (h6 : ¬ ((8) ≤ x7) → ¬ (x7 = x3) → x7 = x6 → vp_in x7 8)
    (h7 : ¬ ((8) ≤ x7) → ¬ (x7 = x3) → x7 = x6 → cW cd_256 (d + 1) Q 25 [some (.ref 279), some (.int x1), some (.int x2), some (.int x3), some (.long x4), none, some (.int x6), some (.int (x7 + (1))), none] [] (mkH (u2 hi 308 x7.toNatClampNeg ((g_194 (0 : Int32)) + (g_194 (1 : Int32)))) hl sw kp))
    (h8 : ¬ ((8) ≤ x7) → ¬ (x7 = x3) → ¬ (x7 = x6) → vp_in x7 8)
    (h9 : ¬ ((8) ≤ x7) → ¬ (x7 = x3) → ¬ (x7 = x6) → cW cd_256 (d + 1) Q 25 [some (.ref 279), some (.int x1), some (.int x2), some (.int x3), some (.long x4), none, some (.int x6), some (.int (x7 + (1))), none] [] (mkH (u2 hi 308 x7.toNatClampNeg ((g_194 (0 : Int32)) + (g_194 (0 : Int32)))) hl sw kp))
    : cW cd_256 (d + 1) Q 25 [some (.ref 279), some (.int x1), some (.int x2), some (.int x3), some (.long x4), none, some (.int x6), some (.int x7), none] [] (mkH hi hl sw kp) :=
  cW.run (am_in [13, 25, 79, 89, 101, 117]) 22 (And.intro (fun c1 => (cC.of (h1 c1))) (fun c2 => (And.intro (fun c3 => (cC.of (s_194 (And.intro (fun c4 => (cC.of (s_194 (And.intro (h2 c2 c3 c4) (And.intro (Nat.le_of_ble_eq_true rfl) (h3 c2 c3 c4)))))) (fun c5 => (cC.of (s_194 (And.intro (h4 c2 c3 c5) (And.intro (Nat.le_of_ble_eq_true rfl) (h5 c2 c3 c5)))))))))) (fun c6 => (cC.of (s_194 (And.intro (fun c7 => (cC.of (s_194 (And.intro (h6 c2 c6 c7) (And.intro (Nat.le_of_ble_eq_true rfl) (h7 c2 c6 c7)))))) (fun c8 => (cC.of (s_194 (And.intro (h8 c2 c6 c8) (And.intro (Nat.le_of_ble_eq_true rfl) (h9 c2 c6 c8)))))))))))))
set_option maxRecDepth 100000 in
theorem k_256_79 {x1 : Int32} {x2 : Int32} {x3 : Int32} {x4 : Int64} {x6 : Int32} {x7 : Int32} {s0 : Int32}
    (h1 : s0 = 0 → cW cd_256 (d + 1) Q 13 [some (.ref 279), some (.int x1), some (.int x2), some (.int x3), some (.long x4), none, some (.int (x6 + (1))), some (.int x7), none] [] (mkH hi hl sw kp))
    (h2 : ¬ (s0 = 0) → cS (d + 1) 249 [(.ref 279)] (mkH hi hl sw kp) (am_ret (cW cd_256 (d + 1) Q) 89 [some (.ref 279), some (.int x1), some (.int x2), some (.int x3), some (.long x4), none, some (.int x6), some (.int x7), none] []))
    : cW cd_256 (d + 1) Q 79 [some (.ref 279), some (.int x1), some (.int x2), some (.int x3), some (.long x4), none, some (.int x6), some (.int x7), none] [(.int s0)] (mkH hi hl sw kp) :=
  cW.run (am_in [13, 25, 79, 89, 101, 117]) 4 (And.intro (fun c1 => (And.intro (Nat.le_of_ble_eq_true rfl) (h1 c1))) (fun c2 => (cC.of (h2 c2))))
set_option maxRecDepth 100000 in
theorem k_256_89 {x1 : Int32} {x2 : Int32} {x3 : Int32} {x4 : Int64} {x6 : Int32} {x7 : Int32}
    (h1 : vp_in ((12) + x1) 82)
    (h2 : (g_244 hi x1) = 0 → cS (d + 1) 243 [(.ref 279), (.int x1), (.int x2), (.int (hi 299 16))] (mkH hi hl sw kp) (am_ret (cW cd_256 (d + 1) Q) 117 [some (.ref 279), some (.int x1), some (.int x2), some (.int x3), some (.long x4), none, some (.int x6), some (.int x7), none] []))
    (h3 : ¬ ((g_244 hi x1) = 0) → cS (d + 1) 234 [(.int x2)] (mkH hi hl sw kp) (am_ret (cW cd_256 (d + 1) Q) 101 [some (.ref 279), some (.int x1), some (.int x2), some (.int x3), some (.long x4), none, some (.int x6), some (.int x7), none] []))
    : cW cd_256 (d + 1) Q 89 [some (.ref 279), some (.int x1), some (.int x2), some (.int x3), some (.long x4), none, some (.int x6), some (.int x7), none] [] (mkH hi hl sw kp) :=
  cW.run (am_in [13, 25, 79, 89, 101, 117]) 12 (cC.of (s_244 (h1) (And.intro (fun c1 => (And.intro (show vp_in 16 82 from vin_l (by decide +kernel)) (cC.of (h2 c1)))) (fun c2 => (cC.of (h3 c2))))))
set_option maxRecDepth 100000 in
theorem k_256_101 {x1 : Int32} {x2 : Int32} {x3 : Int32} {x4 : Int64} {x6 : Int32} {x7 : Int32} {s0 : Int64}
    (h1 : cW cd_256 (d + 1) Q 117 [some (.ref 279), some (.int x1), some (.int x2), some (.int x3), some (.long x4), none, some (.int x6), some (.int x7), none] [(.long s0)] (mkH hi hl sw kp))
    : cW cd_256 (d + 1) Q 101 [some (.ref 279), some (.int x1), some (.int x2), some (.int x3), some (.long x4), none, some (.int x6), some (.int x7), none] [(.long s0)] (mkH hi hl sw kp) :=
  cW.run (am_in [13, 25, 79, 89, 101, 117]) 1 (h1)
set_option maxRecDepth 100000 in
theorem k_256_117 {x1 : Int32} {x2 : Int32} {x3 : Int32} {x4 : Int64} {x6 : Int32} {x7 : Int32} {s0 : Int64}
    (h1 : (lg_cmp x4 0) < 0 → cW cd_256 (d + 1) Q 13 [some (.ref 279), some (.int x1), some (.int x2), some (.int x3), some (.long s0), none, some (.int (x6 + (1))), some (.long s0), none] [] (mkH (u2 hi 279 76 x6) hl sw kp))
    (h2 : ¬ ((lg_cmp x4 0) < 0) → (lg_cmp s0 x4) < 0 → cW cd_256 (d + 1) Q 13 [some (.ref 279), some (.int x1), some (.int x2), some (.int x3), some (.long s0), none, some (.int (x6 + (1))), some (.long s0), none] [] (mkH (u2 hi 279 76 x6) hl sw kp))
    (h3 : ¬ ((lg_cmp x4 0) < 0) → ¬ ((lg_cmp s0 x4) < 0) → cW cd_256 (d + 1) Q 13 [some (.ref 279), some (.int x1), some (.int x2), some (.int x3), some (.long x4), none, some (.int (x6 + (1))), some (.long s0), none] [] (mkH hi hl sw kp))
    : cW cd_256 (d + 1) Q 117 [some (.ref 279), some (.int x1), some (.int x2), some (.int x3), some (.long x4), none, some (.int x6), some (.int x7), none] [(.long s0)] (mkH hi hl sw kp) :=
  cW.run (am_in [13, 25, 79, 89, 101, 117]) 16 (And.intro (Nat.le_of_ble_eq_true rfl) (And.intro (fun c1 => (And.intro (Nat.le_of_ble_eq_true rfl) (And.intro (Nat.le_of_ble_eq_true rfl) (h1 c1)))) (fun c2 => (And.intro (fun c3 => (And.intro (Nat.le_of_ble_eq_true rfl) (And.intro (Nat.le_of_ble_eq_true rfl) (h2 c2 c3)))) (fun c4 => (And.intro (Nat.le_of_ble_eq_true rfl) (h3 c2 c4)))))))
-- 259: DogDecreesModel.haunt()I
set_option maxRecDepth 100000 in
theorem k_259_0
    (h1 : (hi 279 46) = 0 → Q (some (.int (-1))) (mkH hi hl sw kp))
    (h2 : ¬ ((hi 279 46) = 0) → cW cd_259 d Q 11 [some (.ref 279), some (.int (0)), none] [] (mkH hi hl sw kp))
    : cW cd_259 d Q 0 [some (.ref 279), none, none] [] (mkH hi hl sw kp) :=
  cW.run (am_in [11, 35, 37, 47, 49, 77, 96]) 5 (And.intro (fun c1 => (cQ.of (h1 c1))) (fun c2 => (And.intro (Nat.le_of_ble_eq_true rfl) (h2 c2))))
theorem e_259
    (h1 : (hi 279 46) = 0 → Q (some (.int (-1))) (mkH hi hl sw kp))
    (h2 : ¬ ((hi 279 46) = 0) → cW cd_259 d Q 11 [some (.ref 279), some (.int (0)), none] [] (mkH hi hl sw kp))
    : cS (d + 1) 259 [(.ref 279)] (mkH hi hl sw kp) Q := cS.of rfl (k_259_0 h1 h2)
set_option maxRecDepth 100000 in
theorem k_259_11 {x1 : Int32}
    (h1 : (8) ≤ x1 → cS d 233 [(.ref 279), (.int (0))] (mkH hi hl sw kp) (am_ret (cW cd_259 d Q) 35 [some (.ref 279), some (.int x1), none] []))
    (h2 : ¬ ((8) ≤ x1) → vp_in x1 8)
    (h3 : ¬ ((8) ≤ x1) → cW cd_259 d Q 11 [some (.ref 279), some (.int (x1 + (1))), none] [] (mkH hi (u2 hl 311 x1.toNatClampNeg 0) sw kp))
    : cW cd_259 d Q 11 [some (.ref 279), some (.int x1), none] [] (mkH hi hl sw kp) :=
  cW.run (am_in [11, 35, 37, 47, 49, 77, 96]) 10 (And.intro (fun c1 => (cC.of (h1 c1))) (fun c2 => (And.intro (h2 c2) (And.intro (Nat.le_of_ble_eq_true rfl) (h3 c2)))))
set_option maxRecDepth 100000 in
theorem k_259_35 {x1 : Int32}
    (h1 : cW cd_259 d Q 37 [some (.ref 279), some (.int (1)), none] [] (mkH hi hl sw kp))
    : cW cd_259 d Q 35 [some (.ref 279), some (.int x1), none] [] (mkH hi hl sw kp) :=
  cW.run (am_in [11, 35, 37, 47, 49, 77, 96]) 2 (And.intro (Nat.le_of_ble_eq_true rfl) (h1))
set_option maxRecDepth 100000 in
theorem k_259_37 {x1 : Int32} {o2 : Option Value}
    (h1 : (8) < x1 → cW cd_259 d Q 96 [some (.ref 279), some (.int (0)), some (.int (1))] [] (mkH hi hl sw kp))
    (h2 : ¬ ((8) < x1) → cS d 232 [(.ref 279)] (mkH hi hl sw kp) (am_ret (cW cd_259 d Q) 47 [some (.ref 279), some (.int x1), o2] []))
    : cW cd_259 d Q 37 [some (.ref 279), some (.int x1), o2] [] (mkH hi hl sw kp) :=
  cW.run (am_in [11, 35, 37, 47, 49, 77, 96]) 7 (And.intro (fun c1 => (And.intro (Nat.le_of_ble_eq_true rfl) (And.intro (Nat.le_of_ble_eq_true rfl) (h1 c1)))) (fun c2 => (cC.of (h2 c2))))
set_option maxRecDepth 100000 in
theorem k_259_47 {x1 : Int32} {o2 : Option Value}
    (h1 : cW cd_259 d Q 49 [some (.ref 279), some (.int x1), some (.int (0))] [] (mkH hi hl sw kp))
    : cW cd_259 d Q 47 [some (.ref 279), some (.int x1), o2] [] (mkH hi hl sw kp) :=
  cW.run (am_in [11, 35, 37, 47, 49, 77, 96]) 2 (And.intro (Nat.le_of_ble_eq_true rfl) (h1))
set_option maxRecDepth 100000 in
theorem k_259_49 {x1 : Int32} {x2 : Int32}
    (h1 : (hi 279 46) ≤ x2 → cW cd_259 d Q 37 [some (.ref 279), some (.int (x1 + (1))), some (.int x2)] [] (mkH hi hl sw kp))
    (h2 : ¬ ((hi 279 46) ≤ x2) → vp_in x2 8)
    (h3 : ¬ ((hi 279 46) ≤ x2) → cS d 234 [(.int ((8) - x1))] (mkH hi hl sw kp) (am_ret (cW cd_259 d Q) 77 [some (.ref 279), some (.int x1), some (.int x2)] [(.long (hl 304 x2.toNatClampNeg)), (.long (hl 311 x2.toNatClampNeg)), (.int x2), (.ref 311)]))
    : cW cd_259 d Q 49 [some (.ref 279), some (.int x1), some (.int x2)] [] (mkH hi hl sw kp) :=
  cW.run (am_in [11, 35, 37, 47, 49, 77, 96]) 17 (And.intro (fun c1 => (And.intro (Nat.le_of_ble_eq_true rfl) (h1 c1))) (fun c2 => (And.intro rfl (And.intro rfl (And.intro (h2 c2) (And.intro (h2 c2) (cC.of (h3 c2))))))))
set_option maxRecDepth 100000 in
theorem k_259_77 {x1 : Int32} {x2 : Int32} {s1 : Int32} {s2 : Int64} {s3 : Int64} {s4 : Int64}
    (h1 : vp_in s1 8)
    (h2 : cW cd_259 d Q 49 [some (.ref 279), some (.int x1), some (.int (x2 + (1)))] [] (mkH hi (u2 hl 311 s1.toNatClampNeg (s2 + (s3 * s4))) sw kp))
    : cW cd_259 d Q 77 [some (.ref 279), some (.int x1), some (.int x2)] [(.long s4), (.long s3), (.long s2), (.int s1), (.ref 311)] (mkH hi hl sw kp) :=
  cW.run (am_in [11, 35, 37, 47, 49, 77, 96]) 5 (And.intro (h1) (And.intro (Nat.le_of_ble_eq_true rfl) (h2)))
set_option maxRecDepth 100000 in
theorem k_259_96 {x1 : Int32} {x2 : Int32}
    (h1 : (hi 279 46) ≤ x2 → Q (some (.int x1)) (mkH hi hl sw kp))
    (h2 : ¬ ((hi 279 46) ≤ x2) → vp_in x2 8)
    (h3 : ¬ ((hi 279 46) ≤ x2) → vp_in x1 8)
    (h4 : ¬ ((hi 279 46) ≤ x2) → (lg_cmp (hl 311 x2.toNatClampNeg) (hl 311 x1.toNatClampNeg)) ≤ 0 → cW cd_259 d Q 96 [some (.ref 279), some (.int x1), some (.int (x2 + (1)))] [] (mkH hi hl sw kp))
    (h5 : ¬ ((hi 279 46) ≤ x2) → ¬ ((lg_cmp (hl 311 x2.toNatClampNeg) (hl 311 x1.toNatClampNeg)) ≤ 0) → cW cd_259 d Q 96 [some (.ref 279), some (.int x2), some (.int (x2 + (1)))] [] (mkH hi hl sw kp))
    : cW cd_259 d Q 96 [some (.ref 279), some (.int x1), some (.int x2)] [] (mkH hi hl sw kp) :=
  cW.run (am_in [11, 35, 37, 47, 49, 77, 96]) 19 (And.intro (fun c1 => (cQ.of (h1 c1))) (fun c2 => (And.intro (h2 c2) (And.intro (h3 c2) (And.intro (fun c3 => (And.intro (Nat.le_of_ble_eq_true rfl) (And.intro (Nat.le_of_ble_eq_true rfl) (h4 c2 c3)))) (fun c4 => (And.intro (Nat.le_of_ble_eq_true rfl) (And.intro (Nat.le_of_ble_eq_true rfl) (h5 c2 c4)))))))))
-- 98: DogDecrees$Telling.tellOnce(I)Z
set_option maxRecDepth 100000 in
theorem k_98_0 {x1 : Int32}
    (h1 : ((hi 14 6) &&& ((1) <<< ((x1 - (200)) &&& 31))) = 0 → cS d 67 [(.ref 3)] (mkH (u2 hi 14 6 ((hi 14 6) ||| ((1) <<< ((x1 - (200)) &&& 31)))) hl sw kp) (am_ret (cW cd_98 d Q) 43 [some (.ref 14), some (.int x1), some (.int ((1) <<< ((x1 - (200)) &&& 31))), none] []))
    (h2 : ¬ (((hi 14 6) &&& ((1) <<< ((x1 - (200)) &&& 31))) = 0) → cS d 72 [(.ref 3), (.int (2))] (mkH hi hl sw kp) (am_ret (cW cd_98 d Q) 25 [some (.ref 14), some (.int x1), some (.int ((1) <<< ((x1 - (200)) &&& 31))), none] []))
    : cW cd_98 d Q 0 [some (.ref 14), some (.int x1), none, none] [] (mkH hi hl sw kp) :=
  cW.run (am_in [25, 43, 88, 96, 111, 145, 179, 214, 247]) 20 (And.intro (Nat.le_of_ble_eq_true rfl) (And.intro (fun c1 => (And.intro rfl (cC.of (h1 c1)))) (fun c2 => (cC.of (h2 c2)))))
theorem e_98 {x1 : Int32}
    (h1 : ((hi 14 6) &&& ((1) <<< ((x1 - (200)) &&& 31))) = 0 → cS d 67 [(.ref 3)] (mkH (u2 hi 14 6 ((hi 14 6) ||| ((1) <<< ((x1 - (200)) &&& 31)))) hl sw kp) (am_ret (cW cd_98 d Q) 43 [some (.ref 14), some (.int x1), some (.int ((1) <<< ((x1 - (200)) &&& 31))), none] []))
    (h2 : ¬ (((hi 14 6) &&& ((1) <<< ((x1 - (200)) &&& 31))) = 0) → cS d 72 [(.ref 3), (.int (2))] (mkH hi hl sw kp) (am_ret (cW cd_98 d Q) 25 [some (.ref 14), some (.int x1), some (.int ((1) <<< ((x1 - (200)) &&& 31))), none] []))
    : cS (d + 1) 98 [(.ref 14), (.int x1)] (mkH hi hl sw kp) Q := cS.of rfl (k_98_0 h1 h2)
set_option maxRecDepth 100000 in
theorem k_98_25 {x1 : Int32} {x2 : Int32} {s0 : Int32}
    (h1 : s0 = 0 ∨ s0 = 1)
    (h2 : Q (some (.int s0)) (mkH hi hl sw kp))
    : cW cd_98 d Q 25 [some (.ref 14), some (.int x1), some (.int x2), none] [(.int s0)] (mkH hi hl sw kp) :=
  cW.run (am_in [25, 43, 88, 96, 111, 145, 179, 214, 247]) 1 (And.intro (h1) (cQ.of (h2)))
set_option maxRecDepth 100000 in
theorem k_98_43 {x1 : Int32} {x2 : Int32}
    (h1 : x1 = 205 → cS d 56 [(.ref 18), (.int (0))] (mkH hi hl sw kp) (am_ret (cW cd_98 d Q) 88 [some (.ref 14), some (.int x1), some (.int x2), none] []))
    (h2 : ¬ x1 = 205 → x1 = 206 → cS d 101 [(.ref 14), (.int (1)), (.int (24))] (mkH hi hl sw kp) (am_ret (cW cd_98 d Q) 111 [some (.ref 14), some (.int x1), some (.int x2), none] [(.ref 5)]))
    (h3 : ¬ x1 = 205 → ¬ x1 = 206 → x1 = 207 → cS d 101 [(.ref 14), (.int (1)), (.int (24))] (mkH hi hl sw kp) (am_ret (cW cd_98 d Q) 145 [some (.ref 14), some (.int x1), some (.int x2), none] [(.ref 5)]))
    (h4 : ¬ x1 = 205 → ¬ x1 = 206 → ¬ x1 = 207 → x1 = 208 → cS d 99 [(.ref 14)] (mkH hi hl sw kp) (am_ret (cW cd_98 d Q) 96 [some (.ref 14), some (.int x1), some (.int x2), none] []))
    (h5 : ¬ x1 = 205 → ¬ x1 = 206 → ¬ x1 = 207 → ¬ x1 = 208 → x1 = 209 → cS d 101 [(.ref 14), (.int (0)), (.int (99))] (mkH hi hl sw kp) (am_ret (cW cd_98 d Q) 179 [some (.ref 14), some (.int x1), some (.int x2), none] [(.ref 5)]))
    (h6 : ¬ x1 = 205 → ¬ x1 = 206 → ¬ x1 = 207 → ¬ x1 = 208 → ¬ x1 = 209 → cS d 101 [(.ref 14), (.int (0)), (.int (999))] (mkH hi hl sw kp) (am_ret (cW cd_98 d Q) 214 [some (.ref 14), some (.int x1), some (.int x2), none] [(.ref 5)]))
    : cW cd_98 d Q 43 [some (.ref 14), some (.int x1), some (.int x2), none] [] (mkH hi hl sw kp) :=
  cW.run (am_in [25, 43, 88, 96, 111, 145, 179, 214, 247]) 8 (And.intro (fun c1 => (cC.of (h1 c1))) (fun c2 => (And.intro (fun c3 => (cC.of (h2 c2 c3))) (fun c4 => (And.intro (fun c5 => (cC.of (h3 c2 c4 c5))) (fun c6 => (And.intro (fun c7 => (cC.of (h4 c2 c4 c6 c7))) (fun c8 => (And.intro (fun c9 => (cC.of (h5 c2 c4 c6 c8 c9))) (fun c10 => (cC.of (h6 c2 c4 c6 c8 c10))))))))))))
set_option maxRecDepth 100000 in
theorem k_98_88 {x1 : Int32} {x2 : Int32} {s0 : Int32}
    (h1 : s0 = 0 → Q (some (.int (0))) (mkH hi hl sw kp))
    (h2 : ¬ (s0 = 0) → cS d 71 [(.ref 3), (.int (59))] (mkH hi hl sw kp) (am_ret (cW cd_98 d Q) 247 [some (.ref 14), some (.int x1), some (.int x2), some (.int s0)] []))
    : cW cd_98 d Q 88 [some (.ref 14), some (.int x1), some (.int x2), none] [(.int s0)] (mkH hi hl sw kp) :=
  cW.run (am_in [25, 43, 88, 96, 111, 145, 179, 214, 247]) 8 (And.intro (Nat.le_of_ble_eq_true rfl) (And.intro (fun c1 => (And.intro (Or.inl rfl) (cQ.of (h1 c1)))) (fun c2 => (cC.of (h2 c2)))))
set_option maxRecDepth 100000 in
theorem k_98_96 {x1 : Int32} {x2 : Int32} {s0 : Int32}
    (h1 : s0 = 0 → Q (some (.int (0))) (mkH hi hl sw kp))
    (h2 : ¬ (s0 = 0) → cS d 71 [(.ref 3), (.int (59))] (mkH hi hl sw kp) (am_ret (cW cd_98 d Q) 247 [some (.ref 14), some (.int x1), some (.int x2), some (.int s0)] []))
    : cW cd_98 d Q 96 [some (.ref 14), some (.int x1), some (.int x2), none] [(.int s0)] (mkH hi hl sw kp) :=
  cW.run (am_in [25, 43, 88, 96, 111, 145, 179, 214, 247]) 8 (And.intro (Nat.le_of_ble_eq_true rfl) (And.intro (fun c1 => (And.intro (Or.inl rfl) (cQ.of (h1 c1)))) (fun c2 => (cC.of (h2 c2)))))
set_option maxRecDepth 100000 in
theorem k_98_111 {x1 : Int32} {x2 : Int32} {s1 : Int32}
    (h1 : s1 = (-1) → Q (some (.int (0))) (mkH (u2 hi 5 4 s1) hl sw kp))
    (h2 : ¬ (s1 = (-1)) → cS d 71 [(.ref 3), (.int (59))] (mkH (u2 hi 5 4 s1) hl sw kp) (am_ret (cW cd_98 d Q) 247 [some (.ref 14), some (.int x1), some (.int x2), some (.int (1))] []))
    : cW cd_98 d Q 111 [some (.ref 14), some (.int x1), some (.int x2), none] [(.int s1), (.ref 5)] (mkH hi hl sw kp) :=
  cW.run (am_in [25, 43, 88, 96, 111, 145, 179, 214, 247]) 16 (And.intro (fun c1 => (And.intro (Nat.le_of_ble_eq_true rfl) (And.intro (fun _ => (And.intro (Or.inl rfl) (cQ.of (h1 c1)))) (fun z => absurd (show (0 : Int32) = 0 by decide) z)))) (fun c2 => (And.intro (Nat.le_of_ble_eq_true rfl) (And.intro (fun z => absurd (show (1 : Int32) = 0 from z) (by decide)) (fun _ => (cC.of (h2 c2)))))))
set_option maxRecDepth 100000 in
theorem k_98_145 {x1 : Int32} {x2 : Int32} {s1 : Int32}
    (h1 : s1 = (-1) → Q (some (.int (0))) (mkH (u2 hi 5 5 s1) hl sw kp))
    (h2 : ¬ (s1 = (-1)) → cS d 71 [(.ref 3), (.int (59))] (mkH (u2 hi 5 5 s1) hl sw kp) (am_ret (cW cd_98 d Q) 247 [some (.ref 14), some (.int x1), some (.int x2), some (.int (1))] []))
    : cW cd_98 d Q 145 [some (.ref 14), some (.int x1), some (.int x2), none] [(.int s1), (.ref 5)] (mkH hi hl sw kp) :=
  cW.run (am_in [25, 43, 88, 96, 111, 145, 179, 214, 247]) 16 (And.intro (fun c1 => (And.intro (Nat.le_of_ble_eq_true rfl) (And.intro (fun _ => (And.intro (Or.inl rfl) (cQ.of (h1 c1)))) (fun z => absurd (show (0 : Int32) = 0 by decide) z)))) (fun c2 => (And.intro (Nat.le_of_ble_eq_true rfl) (And.intro (fun z => absurd (show (1 : Int32) = 0 from z) (by decide)) (fun _ => (cC.of (h2 c2)))))))
set_option maxRecDepth 100000 in
theorem k_98_179 {x1 : Int32} {x2 : Int32} {s1 : Int32}
    (h1 : s1 = (-1) → Q (some (.int (0))) (mkH (u2 hi 5 7 s1) hl sw kp))
    (h2 : ¬ (s1 = (-1)) → cS d 71 [(.ref 3), (.int (59))] (mkH (u2 hi 5 7 s1) hl sw kp) (am_ret (cW cd_98 d Q) 247 [some (.ref 14), some (.int x1), some (.int x2), some (.int (1))] []))
    : cW cd_98 d Q 179 [some (.ref 14), some (.int x1), some (.int x2), none] [(.int s1), (.ref 5)] (mkH hi hl sw kp) :=
  cW.run (am_in [25, 43, 88, 96, 111, 145, 179, 214, 247]) 16 (And.intro (fun c1 => (And.intro (Nat.le_of_ble_eq_true rfl) (And.intro (fun _ => (And.intro (Or.inl rfl) (cQ.of (h1 c1)))) (fun z => absurd (show (0 : Int32) = 0 by decide) z)))) (fun c2 => (And.intro (Nat.le_of_ble_eq_true rfl) (And.intro (fun z => absurd (show (1 : Int32) = 0 from z) (by decide)) (fun _ => (cC.of (h2 c2)))))))
set_option maxRecDepth 100000 in
theorem k_98_214 {x1 : Int32} {x2 : Int32} {s1 : Int32}
    (h1 : s1 = (-1) → Q (some (.int (0))) (mkH (u2 hi 5 8 s1) hl sw kp))
    (h2 : ¬ (s1 = (-1)) → cS d 71 [(.ref 3), (.int (59))] (mkH (u2 hi 5 8 s1) hl sw kp) (am_ret (cW cd_98 d Q) 247 [some (.ref 14), some (.int x1), some (.int x2), some (.int (1))] []))
    : cW cd_98 d Q 214 [some (.ref 14), some (.int x1), some (.int x2), none] [(.int s1), (.ref 5)] (mkH hi hl sw kp) :=
  cW.run (am_in [25, 43, 88, 96, 111, 145, 179, 214, 247]) 15 (And.intro (fun c1 => (And.intro (Nat.le_of_ble_eq_true rfl) (And.intro (fun _ => (And.intro (Or.inl rfl) (cQ.of (h1 c1)))) (fun z => absurd (show (0 : Int32) = 0 by decide) z)))) (fun c2 => (And.intro (Nat.le_of_ble_eq_true rfl) (And.intro (fun z => absurd (show (1 : Int32) = 0 from z) (by decide)) (fun _ => (cC.of (h2 c2)))))))
set_option maxRecDepth 100000 in
theorem k_98_247 {x1 : Int32} {x2 : Int32} {x3 : Int32} {s0 : Int32}
    (h1 : s0 = 0 → Q (some (.int (0))) (mkH hi hl sw kp))
    (h2 : ¬ (s0 = 0) → Q (some (.int (1))) (mkH hi hl sw kp))
    : cW cd_98 d Q 247 [some (.ref 14), some (.int x1), some (.int x2), some (.int x3)] [(.int s0)] (mkH hi hl sw kp) :=
  cW.run (am_in [25, 43, 88, 96, 111, 145, 179, 214, 247]) 4 (And.intro (fun c1 => (And.intro (Or.inl rfl) (cQ.of (h1 c1)))) (fun c2 => (And.intro (Or.inr rfl) (cQ.of (h2 c2)))))
-- 246: DogDecreesModel.pass(III)J
set_option maxRecDepth 100000 in
theorem k_246_0 {x1 : Int32} {x2 : Int32} {x3 : Int32}
    (h1 : (g_209 hi x1) = 0 → Q (some (.long (-1))) (mkH hi hl sw kp))
    (h2 : ¬ ((g_209 hi x1) = 0) → (g_207 x2 (0 : Int32) (8 : Int32)) = 0 → Q (some (.long (-1))) (mkH hi hl sw kp))
    (h3 : ¬ ((g_209 hi x1) = 0) → ¬ ((g_207 x2 (0 : Int32) (8 : Int32)) = 0) → (g_207 x3 (0 : Int32) (1 : Int32)) = 0 → Q (some (.long (-1))) (mkH hi hl sw kp))
    (h4 : ¬ ((g_209 hi x1) = 0) → ¬ ((g_207 x2 (0 : Int32) (8 : Int32)) = 0) → ¬ ((g_207 x3 (0 : Int32) (1 : Int32)) = 0) → cS (d + 2) 245 [(.ref 279), (.int x1), (.int x2), (.int (hi 299 16))] (mkH hi hl sw kp) (am_ret (cW cd_246 (d + 2) Q) 40 [some (.ref 279), some (.int x1), some (.int x2), some (.int x3)] []))
    : cW cd_246 (d + 2) Q 0 [some (.ref 279), some (.int x1), some (.int x2), some (.int x3)] [] (mkH hi hl sw kp) :=
  cW.run (am_in [40, 44, 48]) 22 (cC.of (s_209 (And.intro (fun c1 => (cQ.of (h1 c1))) (fun c2 => (cC.of (s_207 (And.intro (fun c3 => (cQ.of (h2 c2 c3))) (fun c4 => (cC.of (s_207 (And.intro (fun c5 => (cQ.of (h3 c2 c4 c5))) (fun c6 => (And.intro (show vp_in 16 82 from vin_l (by decide +kernel)) (cC.of (h4 c2 c4 c6)))))))))))))))
theorem e_246 {x1 : Int32} {x2 : Int32} {x3 : Int32}
    (h1 : (g_209 hi x1) = 0 → Q (some (.long (-1))) (mkH hi hl sw kp))
    (h2 : ¬ ((g_209 hi x1) = 0) → (g_207 x2 (0 : Int32) (8 : Int32)) = 0 → Q (some (.long (-1))) (mkH hi hl sw kp))
    (h3 : ¬ ((g_209 hi x1) = 0) → ¬ ((g_207 x2 (0 : Int32) (8 : Int32)) = 0) → (g_207 x3 (0 : Int32) (1 : Int32)) = 0 → Q (some (.long (-1))) (mkH hi hl sw kp))
    (h4 : ¬ ((g_209 hi x1) = 0) → ¬ ((g_207 x2 (0 : Int32) (8 : Int32)) = 0) → ¬ ((g_207 x3 (0 : Int32) (1 : Int32)) = 0) → cS (d + 2) 245 [(.ref 279), (.int x1), (.int x2), (.int (hi 299 16))] (mkH hi hl sw kp) (am_ret (cW cd_246 (d + 2) Q) 40 [some (.ref 279), some (.int x1), some (.int x2), some (.int x3)] []))
    : cS ((d + 2) + 1) 246 [(.ref 279), (.int x1), (.int x2), (.int x3)] (mkH hi hl sw kp) Q := cS.of rfl (k_246_0 h1 h2 h3 h4)
set_option maxRecDepth 100000 in
theorem k_246_40 {x1 : Int32} {x2 : Int32} {x3 : Int32} {s0 : Int64}
    (h1 : cS (d + 2) 234 [(.int x2)] (mkH hi hl sw kp) (am_ret (cW cd_246 (d + 2) Q) 44 [some (.ref 279), some (.int x1), some (.int x2), some (.int x3)] [(.long s0)]))
    : cW cd_246 (d + 2) Q 40 [some (.ref 279), some (.int x1), some (.int x2), some (.int x3)] [(.long s0)] (mkH hi hl sw kp) :=
  cW.run (am_in [40, 44, 48]) 2 (cC.of (h1))
set_option maxRecDepth 100000 in
theorem k_246_44 {x1 : Int32} {x2 : Int32} {x3 : Int32} {s0 : Int64} {s1 : Int64}
    (h1 : cS (d + 2) 236 [(.long s0), (.long s1), (.int x3)] (mkH hi hl sw kp) (am_ret (cW cd_246 (d + 2) Q) 48 [some (.ref 279), some (.int x1), some (.int x2), some (.int x3)] []))
    : cW cd_246 (d + 2) Q 44 [some (.ref 279), some (.int x1), some (.int x2), some (.int x3)] [(.long s1), (.long s0)] (mkH hi hl sw kp) :=
  cW.run (am_in [40, 44, 48]) 2 (cC.of (h1))
set_option maxRecDepth 100000 in
theorem k_246_48 {x1 : Int32} {x2 : Int32} {x3 : Int32} {s0 : Int64}
    (h1 : Q (some (.long s0)) (mkH hi hl sw kp))
    : cW cd_246 (d + 2) Q 48 [some (.ref 279), some (.int x1), some (.int x2), some (.int x3)] [(.long s0)] (mkH hi hl sw kp) :=
  cW.run (am_in [40, 44, 48]) 2 (cQ.of (h1))
-- 248: DogDecreesModel.soon(I)I
set_option maxRecDepth 100000 in
theorem k_248_0 {x1 : Int32}
    (h1 : (g_209 hi x1) = 0 → Q (some (.int (-1))) (mkH hi hl sw kp))
    (h2 : ¬ ((g_209 hi x1) = 0) → cW cd_248 (d + 2) Q 12 [some (.ref 279), some (.int x1), some (.int (0))] [] (mkH hi hl sw kp))
    : cW cd_248 (d + 2) Q 0 [some (.ref 279), some (.int x1), none] [] (mkH hi hl sw kp) :=
  cW.run (am_in [12, 31, 35]) 6 (cC.of (s_209 (And.intro (fun c1 => (cQ.of (h1 c1))) (fun c2 => (And.intro (Nat.le_of_ble_eq_true rfl) (h2 c2))))))
theorem e_248 {x1 : Int32}
    (h1 : (g_209 hi x1) = 0 → Q (some (.int (-1))) (mkH hi hl sw kp))
    (h2 : ¬ ((g_209 hi x1) = 0) → cW cd_248 (d + 2) Q 12 [some (.ref 279), some (.int x1), some (.int (0))] [] (mkH hi hl sw kp))
    : cS ((d + 2) + 1) 248 [(.ref 279), (.int x1)] (mkH hi hl sw kp) Q := cS.of rfl (k_248_0 h1 h2)
set_option maxRecDepth 100000 in
theorem k_248_12 {x1 : Int32} {x2 : Int32}
    (h1 : (8) < x2 → Q (some (.int (-1))) (mkH hi hl sw kp))
    (h2 : ¬ ((8) < x2) → cS (d + 2) 245 [(.ref 279), (.int x1), (.int x2), (.int (hi 299 16))] (mkH hi hl sw kp) (am_ret (cW cd_248 (d + 2) Q) 31 [some (.ref 279), some (.int x1), some (.int x2)] []))
    : cW cd_248 (d + 2) Q 12 [some (.ref 279), some (.int x1), some (.int x2)] [] (mkH hi hl sw kp) :=
  cW.run (am_in [12, 31, 35]) 11 (And.intro (fun c1 => (cQ.of (h1 c1))) (fun c2 => (And.intro (show vp_in 16 82 from vin_l (by decide +kernel)) (cC.of (h2 c2)))))
set_option maxRecDepth 100000 in
theorem k_248_31 {x1 : Int32} {x2 : Int32} {s0 : Int64}
    (h1 : cS (d + 2) 247 [(.long s0), (.int x2)] (mkH hi hl sw kp) (am_ret (cW cd_248 (d + 2) Q) 35 [some (.ref 279), some (.int x1), some (.int x2)] []))
    : cW cd_248 (d + 2) Q 31 [some (.ref 279), some (.int x1), some (.int x2)] [(.long s0)] (mkH hi hl sw kp) :=
  cW.run (am_in [12, 31, 35]) 2 (cC.of (h1))
set_option maxRecDepth 100000 in
theorem k_248_35 {x1 : Int32} {x2 : Int32} {s0 : Int32}
    (h1 : s0 = 0 → cW cd_248 (d + 2) Q 12 [some (.ref 279), some (.int x1), some (.int (x2 + (1)))] [] (mkH hi hl sw kp))
    (h2 : ¬ (s0 = 0) → Q (some (.int x2)) (mkH hi hl sw kp))
    : cW cd_248 (d + 2) Q 35 [some (.ref 279), some (.int x1), some (.int x2)] [(.int s0)] (mkH hi hl sw kp) :=
  cW.run (am_in [12, 31, 35]) 3 (And.intro (fun c1 => (And.intro (Nat.le_of_ble_eq_true rfl) (h1 c1))) (fun c2 => (cQ.of (h2 c2))))
-- 254: DogDecreesModel.best(IIII)J
set_option maxRecDepth 100000 in
theorem k_254_0 {x1 : Int32} {x2 : Int32} {x3 : Int32} {x4 : Int32}
    (h1 : (g_209 ((u2 hi 279 75 (0))) x1) = 0 → Q (some (.long (-1))) (mkH (u2 hi 279 75 (0)) hl sw kp))
    (h2 : ¬ ((g_209 ((u2 hi 279 75 (0))) x1) = 0) → (g_207 x2 (1 : Int32) (6 : Int32)) = 0 → Q (some (.long (-1))) (mkH (u2 hi 279 75 (0)) hl sw kp))
    (h3 : ¬ ((g_209 ((u2 hi 279 75 (0))) x1) = 0) → ¬ ((g_207 x2 (1 : Int32) (6 : Int32)) = 0) → (g_207 x3 (0 : Int32) (4 : Int32)) = 0 → Q (some (.long (-1))) (mkH (u2 hi 279 75 (0)) hl sw kp))
    (h4 : ¬ ((g_209 ((u2 hi 279 75 (0))) x1) = 0) → ¬ ((g_207 x2 (1 : Int32) (6 : Int32)) = 0) → ¬ ((g_207 x3 (0 : Int32) (4 : Int32)) = 0) → (g_207 x4 (0 : Int32) (1 : Int32)) = 0 → Q (some (.long (-1))) (mkH (u2 hi 279 75 (0)) hl sw kp))
    (h5 : ¬ ((g_209 ((u2 hi 279 75 (0))) x1) = 0) → ¬ ((g_207 x2 (1 : Int32) (6 : Int32)) = 0) → ¬ ((g_207 x3 (0 : Int32) (4 : Int32)) = 0) → ¬ ((g_207 x4 (0 : Int32) (1 : Int32)) = 0) → cS (d + 2) 252 [(.ref 279), (.int x1), (.int x2), (.int x3)] (mkH (u2 hi 279 75 (0)) hl sw kp) (am_ret (cW cd_254 (d + 2) Q) 53 [some (.ref 279), some (.int x1), some (.int x2), some (.int x3), some (.int x4), none, none] []))
    : cW cd_254 (d + 2) Q 0 [some (.ref 279), some (.int x1), some (.int x2), some (.int x3), some (.int x4), none, none] [] (mkH hi hl sw kp) :=
  cW.run (am_in [53, 70, 76, 81]) 27 (cC.of (s_209 (And.intro (fun c1 => (cQ.of (h1 c1))) (fun c2 => (cC.of (s_207 (And.intro (fun c3 => (cQ.of (h2 c2 c3))) (fun c4 => (cC.of (s_207 (And.intro (fun c5 => (cQ.of (h3 c2 c4 c5))) (fun c6 => (cC.of (s_207 (And.intro (fun c7 => (cQ.of (h4 c2 c4 c6 c7))) (fun c8 => (cC.of (h5 c2 c4 c6 c8))))))))))))))))))
theorem e_254 {x1 : Int32} {x2 : Int32} {x3 : Int32} {x4 : Int32}
    (h1 : (g_209 ((u2 hi 279 75 (0))) x1) = 0 → Q (some (.long (-1))) (mkH (u2 hi 279 75 (0)) hl sw kp))
    (h2 : ¬ ((g_209 ((u2 hi 279 75 (0))) x1) = 0) → (g_207 x2 (1 : Int32) (6 : Int32)) = 0 → Q (some (.long (-1))) (mkH (u2 hi 279 75 (0)) hl sw kp))
    (h3 : ¬ ((g_209 ((u2 hi 279 75 (0))) x1) = 0) → ¬ ((g_207 x2 (1 : Int32) (6 : Int32)) = 0) → (g_207 x3 (0 : Int32) (4 : Int32)) = 0 → Q (some (.long (-1))) (mkH (u2 hi 279 75 (0)) hl sw kp))
    (h4 : ¬ ((g_209 ((u2 hi 279 75 (0))) x1) = 0) → ¬ ((g_207 x2 (1 : Int32) (6 : Int32)) = 0) → ¬ ((g_207 x3 (0 : Int32) (4 : Int32)) = 0) → (g_207 x4 (0 : Int32) (1 : Int32)) = 0 → Q (some (.long (-1))) (mkH (u2 hi 279 75 (0)) hl sw kp))
    (h5 : ¬ ((g_209 ((u2 hi 279 75 (0))) x1) = 0) → ¬ ((g_207 x2 (1 : Int32) (6 : Int32)) = 0) → ¬ ((g_207 x3 (0 : Int32) (4 : Int32)) = 0) → ¬ ((g_207 x4 (0 : Int32) (1 : Int32)) = 0) → cS (d + 2) 252 [(.ref 279), (.int x1), (.int x2), (.int x3)] (mkH (u2 hi 279 75 (0)) hl sw kp) (am_ret (cW cd_254 (d + 2) Q) 53 [some (.ref 279), some (.int x1), some (.int x2), some (.int x3), some (.int x4), none, none] []))
    : cS ((d + 2) + 1) 254 [(.ref 279), (.int x1), (.int x2), (.int x3), (.int x4)] (mkH hi hl sw kp) Q := cS.of rfl (k_254_0 h1 h2 h3 h4 h5)
set_option maxRecDepth 100000 in
theorem k_254_53 {x1 : Int32} {x2 : Int32} {x3 : Int32} {x4 : Int32} {s0 : Int64}
    (h1 : 0 ≤ (lg_cmp s0 0) → cS (d + 2) 253 [(.ref 279)] (mkH hi hl sw kp) (am_ret (cW cd_254 (d + 2) Q) 70 [some (.ref 279), some (.int x1), some (.int x2), some (.int x3), some (.int x4), some (.long s0), none] []))
    (h2 : ¬ (0 ≤ (lg_cmp s0 0)) → Q (some (.long (-1))) (mkH hi hl sw kp))
    : cW cd_254 (d + 2) Q 53 [some (.ref 279), some (.int x1), some (.int x2), some (.int x3), some (.int x4), none, none] [(.long s0)] (mkH hi hl sw kp) :=
  cW.run (am_in [53, 70, 76, 81]) 7 (And.intro (Nat.le_of_ble_eq_true rfl) (And.intro (fun c1 => (cC.of (h1 c1))) (fun c2 => (cQ.of (h2 c2)))))
set_option maxRecDepth 100000 in
theorem k_254_70 {x1 : Int32} {x2 : Int32} {x3 : Int32} {x4 : Int32} {x5 : Int64}
    (h1 : cS (d + 2) 234 [(.int x2)] (mkH hi hl sw kp) (am_ret (cW cd_254 (d + 2) Q) 76 [some (.ref 279), some (.int x1), some (.int x2), some (.int x3), some (.int x4), some (.long x5), none] [(.long x5)]))
    : cW cd_254 (d + 2) Q 70 [some (.ref 279), some (.int x1), some (.int x2), some (.int x3), some (.int x4), some (.long x5), none] [] (mkH hi hl sw kp) :=
  cW.run (am_in [53, 70, 76, 81]) 3 (cC.of (h1))
set_option maxRecDepth 100000 in
theorem k_254_76 {x1 : Int32} {x2 : Int32} {x3 : Int32} {x4 : Int32} {x5 : Int64} {s0 : Int64} {s1 : Int64}
    (h1 : cS (d + 2) 236 [(.long s0), (.long s1), (.int x4)] (mkH hi hl sw kp) (am_ret (cW cd_254 (d + 2) Q) 81 [some (.ref 279), some (.int x1), some (.int x2), some (.int x3), some (.int x4), some (.long x5), none] []))
    : cW cd_254 (d + 2) Q 76 [some (.ref 279), some (.int x1), some (.int x2), some (.int x3), some (.int x4), some (.long x5), none] [(.long s1), (.long s0)] (mkH hi hl sw kp) :=
  cW.run (am_in [53, 70, 76, 81]) 2 (cC.of (h1))
set_option maxRecDepth 100000 in
theorem k_254_81 {x1 : Int32} {x2 : Int32} {x3 : Int32} {x4 : Int32} {x5 : Int64} {s0 : Int64}
    (h1 : Q (some (.long s0)) (mkH hi hl sw kp))
    : cW cd_254 (d + 2) Q 81 [some (.ref 279), some (.int x1), some (.int x2), some (.int x3), some (.int x4), some (.long x5), none] [(.long s0)] (mkH hi hl sw kp) :=
  cW.run (am_in [53, 70, 76, 81]) 1 (cQ.of (h1))
-- 255: DogDecreesModel.least(II)I
set_option maxRecDepth 100000 in
theorem k_255_0 {x1 : Int32} {x2 : Int32}
    (h1 : (g_209 ((u2 hi 279 75 (0))) x1) = 0 → Q (some (.int (-1))) (mkH (u2 hi 279 75 (0)) hl sw kp))
    (h2 : ¬ ((g_209 ((u2 hi 279 75 (0))) x1) = 0) → (g_207 x2 (1 : Int32) (6 : Int32)) = 0 → Q (some (.int (-1))) (mkH (u2 hi 279 75 (0)) hl sw kp))
    (h3 : ¬ ((g_209 ((u2 hi 279 75 (0))) x1) = 0) → ¬ ((g_207 x2 (1 : Int32) (6 : Int32)) = 0) → cW cd_255 (d + 2) Q 27 [some (.ref 279), some (.int x1), some (.int x2), some (.int (0)), none, none] [] (mkH (u2 hi 279 75 (0)) hl sw kp))
    : cW cd_255 (d + 2) Q 0 [some (.ref 279), some (.int x1), some (.int x2), none, none, none] [] (mkH hi hl sw kp) :=
  cW.run (am_in [27, 39, 54, 64]) 14 (cC.of (s_209 (And.intro (fun c1 => (cQ.of (h1 c1))) (fun c2 => (cC.of (s_207 (And.intro (fun c3 => (cQ.of (h2 c2 c3))) (fun c4 => (And.intro (Nat.le_of_ble_eq_true rfl) (h3 c2 c4))))))))))
theorem e_255 {x1 : Int32} {x2 : Int32}
    (h1 : (g_209 ((u2 hi 279 75 (0))) x1) = 0 → Q (some (.int (-1))) (mkH (u2 hi 279 75 (0)) hl sw kp))
    (h2 : ¬ ((g_209 ((u2 hi 279 75 (0))) x1) = 0) → (g_207 x2 (1 : Int32) (6 : Int32)) = 0 → Q (some (.int (-1))) (mkH (u2 hi 279 75 (0)) hl sw kp))
    (h3 : ¬ ((g_209 ((u2 hi 279 75 (0))) x1) = 0) → ¬ ((g_207 x2 (1 : Int32) (6 : Int32)) = 0) → cW cd_255 (d + 2) Q 27 [some (.ref 279), some (.int x1), some (.int x2), some (.int (0)), none, none] [] (mkH (u2 hi 279 75 (0)) hl sw kp))
    : cS ((d + 2) + 1) 255 [(.ref 279), (.int x1), (.int x2)] (mkH hi hl sw kp) Q := cS.of rfl (k_255_0 h1 h2 h3)
set_option maxRecDepth 100000 in
theorem k_255_27 {x1 : Int32} {x2 : Int32} {x3 : Int32} {o4 : Option Value}
    (h1 : (4) < x3 → Q (some (.int (-1))) (mkH hi hl sw kp))
    (h2 : ¬ ((4) < x3) → cS (d + 2) 252 [(.ref 279), (.int x1), (.int x2), (.int x3)] (mkH hi hl sw kp) (am_ret (cW cd_255 (d + 2) Q) 39 [some (.ref 279), some (.int x1), some (.int x2), some (.int x3), o4, none] []))
    : cW cd_255 (d + 2) Q 27 [some (.ref 279), some (.int x1), some (.int x2), some (.int x3), o4, none] [] (mkH hi hl sw kp) :=
  cW.run (am_in [27, 39, 54, 64]) 8 (And.intro (fun c1 => (cQ.of (h1 c1))) (fun c2 => (cC.of (h2 c2))))
set_option maxRecDepth 100000 in
theorem k_255_39 {x1 : Int32} {x2 : Int32} {x3 : Int32} {o4 : Option Value} {s0 : Int64}
    (h1 : (lg_cmp s0 0) < 0 → cW cd_255 (d + 2) Q 27 [some (.ref 279), some (.int x1), some (.int x2), some (.int (x3 + (1))), some (.long s0), none] [] (mkH hi hl sw kp))
    (h2 : ¬ ((lg_cmp s0 0) < 0) → cS (d + 2) 247 [(.long s0), (.int x2)] (mkH hi hl sw kp) (am_ret (cW cd_255 (d + 2) Q) 54 [some (.ref 279), some (.int x1), some (.int x2), some (.int x3), some (.long s0), none] []))
    : cW cd_255 (d + 2) Q 39 [some (.ref 279), some (.int x1), some (.int x2), some (.int x3), o4, none] [(.long s0)] (mkH hi hl sw kp) :=
  cW.run (am_in [27, 39, 54, 64]) 8 (And.intro (Nat.le_of_ble_eq_true rfl) (And.intro (fun c1 => (And.intro (Nat.le_of_ble_eq_true rfl) (h1 c1))) (fun c2 => (cC.of (h2 c2)))))
set_option maxRecDepth 100000 in
theorem k_255_54 {x1 : Int32} {x2 : Int32} {x3 : Int32} {x4 : Int64} {s0 : Int32}
    (h1 : s0 = 0 → cW cd_255 (d + 2) Q 27 [some (.ref 279), some (.int x1), some (.int x2), some (.int (x3 + (1))), some (.long x4), none] [] (mkH hi hl sw kp))
    (h2 : ¬ (s0 = 0) → cS (d + 2) 253 [(.ref 279)] (mkH hi hl sw kp) (am_ret (cW cd_255 (d + 2) Q) 64 [some (.ref 279), some (.int x1), some (.int x2), some (.int x3), some (.long x4), none] []))
    : cW cd_255 (d + 2) Q 54 [some (.ref 279), some (.int x1), some (.int x2), some (.int x3), some (.long x4), none] [(.int s0)] (mkH hi hl sw kp) :=
  cW.run (am_in [27, 39, 54, 64]) 4 (And.intro (fun c1 => (And.intro (Nat.le_of_ble_eq_true rfl) (h1 c1))) (fun c2 => (cC.of (h2 c2))))
set_option maxRecDepth 100000 in
theorem k_255_64 {x1 : Int32} {x2 : Int32} {x3 : Int32} {x4 : Int64}
    (h1 : Q (some (.int x3)) (mkH hi hl sw kp))
    : cW cd_255 (d + 2) Q 64 [some (.ref 279), some (.int x1), some (.int x2), some (.int x3), some (.long x4), none] [] (mkH hi hl sw kp) :=
  cW.run (am_in [27, 39, 54, 64]) 2 (cQ.of (h1))
-- 257: DogDecreesModel.byTurns(III)I
set_option maxRecDepth 100000 in
theorem k_257_0 {x1 : Int32} {x2 : Int32} {x3 : Int32}
    (h1 : (g_209 hi x1) = 0 → Q (some (.int (-1))) (mkH hi hl sw kp))
    (h2 : ¬ ((g_209 hi x1) = 0) → (g_207 x2 (1 : Int32) (6 : Int32)) = 0 → Q (some (.int (-1))) (mkH hi hl sw kp))
    (h3 : ¬ ((g_209 hi x1) = 0) → ¬ ((g_207 x2 (1 : Int32) (6 : Int32)) = 0) → (g_207 x3 (0 : Int32) (1 : Int32)) = 0 → Q (some (.int (-1))) (mkH hi hl sw kp))
    (h4 : ¬ ((g_209 hi x1) = 0) → ¬ ((g_207 x2 (1 : Int32) (6 : Int32)) = 0) → ¬ ((g_207 x3 (0 : Int32) (1 : Int32)) = 0) → cW cd_257 (d + 2) Q 43 [some (.ref 279), some (.int x1), some (.int x2), some (.int x3), some (.int (-1)), some (.int (-1)), some (.long (-1)), none, some (.int (0)), none, none] [] (mkH hi hl sw kp))
    : cW cd_257 (d + 2) Q 0 [some (.ref 279), some (.int x1), some (.int x2), some (.int x3), none, none, none, none, none, none, none] [] (mkH hi hl sw kp) :=
  cW.run (am_in [43, 74]) 22 (cC.of (s_209 (And.intro (fun c1 => (cQ.of (h1 c1))) (fun c2 => (cC.of (s_207 (And.intro (fun c3 => (cQ.of (h2 c2 c3))) (fun c4 => (cC.of (s_207 (And.intro (fun c5 => (cQ.of (h3 c2 c4 c5))) (fun c6 => (And.intro (Nat.le_of_ble_eq_true rfl) (And.intro (Nat.le_of_ble_eq_true rfl) (And.intro (Nat.le_of_ble_eq_true rfl) (And.intro (Nat.le_of_ble_eq_true rfl) (h4 c2 c4 c6)))))))))))))))))
theorem e_257 {x1 : Int32} {x2 : Int32} {x3 : Int32}
    (h1 : (g_209 hi x1) = 0 → Q (some (.int (-1))) (mkH hi hl sw kp))
    (h2 : ¬ ((g_209 hi x1) = 0) → (g_207 x2 (1 : Int32) (6 : Int32)) = 0 → Q (some (.int (-1))) (mkH hi hl sw kp))
    (h3 : ¬ ((g_209 hi x1) = 0) → ¬ ((g_207 x2 (1 : Int32) (6 : Int32)) = 0) → (g_207 x3 (0 : Int32) (1 : Int32)) = 0 → Q (some (.int (-1))) (mkH hi hl sw kp))
    (h4 : ¬ ((g_209 hi x1) = 0) → ¬ ((g_207 x2 (1 : Int32) (6 : Int32)) = 0) → ¬ ((g_207 x3 (0 : Int32) (1 : Int32)) = 0) → cW cd_257 (d + 2) Q 43 [some (.ref 279), some (.int x1), some (.int x2), some (.int x3), some (.int (-1)), some (.int (-1)), some (.long (-1)), none, some (.int (0)), none, none] [] (mkH hi hl sw kp))
    : cS ((d + 2) + 1) 257 [(.ref 279), (.int x1), (.int x2), (.int x3)] (mkH hi hl sw kp) Q := cS.of rfl (k_257_0 h1 h2 h3 h4)
set_option maxRecDepth 100000 in
theorem k_257_43 {x1 : Int32} {x2 : Int32} {x3 : Int32} {x4 : Int32} {x5 : Int32} {x6 : Int64} {x8 : Int32} {o9 : Option Value}
    (h1 : (hi 279 46) ≤ x8 → x3 = 0 → Q (some (.int x4)) (mkH hi hl sw kp))
    (h2 : (hi 279 46) ≤ x8 → ¬ (x3 = 0) → Q (some (.int x5)) (mkH hi hl sw kp))
    (h3 : ¬ ((hi 279 46) ≤ x8) → vp_in ((0) + x8) 82)
    (h4 : ¬ ((hi 279 46) ≤ x8) → (9) ≤ (hi 299 ((0) + x8).toNatClampNeg) → 0 < (lg_cmp (-1) x6) → cW cd_257 (d + 2) Q 43 [some (.ref 279), some (.int x1), some (.int x2), some (.int x3), some (.int x8), some (.int (hi 279 76)), some (.long (-1)), none, some (.int (x8 + (1))), some (.long (-1)), none] [] (mkH hi hl sw kp))
    (h5 : ¬ ((hi 279 46) ≤ x8) → (9) ≤ (hi 299 ((0) + x8).toNatClampNeg) → ¬ (0 < (lg_cmp (-1) x6)) → cW cd_257 (d + 2) Q 43 [some (.ref 279), some (.int x1), some (.int x2), some (.int x3), some (.int x4), some (.int x5), some (.long x6), none, some (.int (x8 + (1))), some (.long (-1)), none] [] (mkH hi hl sw kp))
    (h6 : ¬ ((hi 279 46) ≤ x8) → ¬ ((9) ≤ (hi 299 ((0) + x8).toNatClampNeg)) → cS (d + 2) 256 [(.ref 279), (.int x1), (.int x2), (.int x8)] (mkH hi hl sw kp) (am_ret (cW cd_257 (d + 2) Q) 74 [some (.ref 279), some (.int x1), some (.int x2), some (.int x3), some (.int x4), some (.int x5), some (.long x6), none, some (.int x8), o9, none] []))
    : cW cd_257 (d + 2) Q 43 [some (.ref 279), some (.int x1), some (.int x2), some (.int x3), some (.int x4), some (.int x5), some (.long x6), none, some (.int x8), o9, none] [] (mkH hi hl sw kp) :=
  cW.run (am_in [43, 74]) 27 (And.intro (fun c1 => (And.intro (fun c2 => (cQ.of (h1 c1 c2))) (fun c3 => (cQ.of (h2 c1 c3))))) (fun c4 => (And.intro (h3 c4) (And.intro (fun c5 => (And.intro (Nat.le_of_ble_eq_true rfl) (And.intro (fun c6 => (And.intro (Nat.le_of_ble_eq_true rfl) (And.intro (Nat.le_of_ble_eq_true rfl) (And.intro (Nat.le_of_ble_eq_true rfl) (And.intro (Nat.le_of_ble_eq_true rfl) (h4 c4 c5 c6)))))) (fun c7 => (And.intro (Nat.le_of_ble_eq_true rfl) (h5 c4 c5 c7)))))) (fun c8 => (cC.of (h6 c4 c8)))))))
set_option maxRecDepth 100000 in
theorem k_257_74 {x1 : Int32} {x2 : Int32} {x3 : Int32} {x4 : Int32} {x5 : Int32} {x6 : Int64} {x8 : Int32} {o9 : Option Value} {s0 : Int64}
    (h1 : 0 < (lg_cmp s0 x6) → cW cd_257 (d + 2) Q 43 [some (.ref 279), some (.int x1), some (.int x2), some (.int x3), some (.int x8), some (.int (hi 279 76)), some (.long s0), none, some (.int (x8 + (1))), some (.long s0), none] [] (mkH hi hl sw kp))
    (h2 : ¬ (0 < (lg_cmp s0 x6)) → cW cd_257 (d + 2) Q 43 [some (.ref 279), some (.int x1), some (.int x2), some (.int x3), some (.int x4), some (.int x5), some (.long x6), none, some (.int (x8 + (1))), some (.long s0), none] [] (mkH hi hl sw kp))
    : cW cd_257 (d + 2) Q 74 [some (.ref 279), some (.int x1), some (.int x2), some (.int x3), some (.int x4), some (.int x5), some (.long x6), none, some (.int x8), o9, none] [(.long s0)] (mkH hi hl sw kp) :=
  cW.run (am_in [43, 74]) 15 (And.intro (Nat.le_of_ble_eq_true rfl) (And.intro (fun c1 => (And.intro (Nat.le_of_ble_eq_true rfl) (And.intro (Nat.le_of_ble_eq_true rfl) (And.intro (Nat.le_of_ble_eq_true rfl) (And.intro (Nat.le_of_ble_eq_true rfl) (h1 c1)))))) (fun c2 => (And.intro (Nat.le_of_ble_eq_true rfl) (h2 c2)))))
-- 258: DogDecreesModel.council(II)I
set_option maxRecDepth 100000 in
theorem k_258_0 {x1 : Int32} {x2 : Int32}
    (h1 : (g_209 hi x1) = 0 → Q (some (.int (-1))) (mkH hi hl sw kp))
    (h2 : ¬ ((g_209 hi x1) = 0) → (g_207 x2 (0 : Int32) (8 : Int32)) = 0 → Q (some (.int (-1))) (mkH hi hl sw kp))
    (h3 : ¬ ((g_209 hi x1) = 0) → ¬ ((g_207 x2 (0 : Int32) (8 : Int32)) = 0) → cW cd_258 (d + 2) Q 25 [some (.ref 279), some (.int x1), some (.int x2), some (.int (0)), some (.int (0))] [] (mkH hi hl sw kp))
    : cW cd_258 (d + 2) Q 0 [some (.ref 279), some (.int x1), some (.int x2), none, none] [] (mkH hi hl sw kp) :=
  cW.run (am_in [25, 43, 47]) 13 (cC.of (s_209 (And.intro (fun c1 => (cQ.of (h1 c1))) (fun c2 => (cC.of (s_207 (And.intro (fun c3 => (cQ.of (h2 c2 c3))) (fun c4 => (And.intro (Nat.le_of_ble_eq_true rfl) (And.intro (Nat.le_of_ble_eq_true rfl) (h3 c2 c4)))))))))))
theorem e_258 {x1 : Int32} {x2 : Int32}
    (h1 : (g_209 hi x1) = 0 → Q (some (.int (-1))) (mkH hi hl sw kp))
    (h2 : ¬ ((g_209 hi x1) = 0) → (g_207 x2 (0 : Int32) (8 : Int32)) = 0 → Q (some (.int (-1))) (mkH hi hl sw kp))
    (h3 : ¬ ((g_209 hi x1) = 0) → ¬ ((g_207 x2 (0 : Int32) (8 : Int32)) = 0) → cW cd_258 (d + 2) Q 25 [some (.ref 279), some (.int x1), some (.int x2), some (.int (0)), some (.int (0))] [] (mkH hi hl sw kp))
    : cS ((d + 2) + 1) 258 [(.ref 279), (.int x1), (.int x2)] (mkH hi hl sw kp) Q := cS.of rfl (k_258_0 h1 h2 h3)
set_option maxRecDepth 100000 in
theorem k_258_25 {x1 : Int32} {x2 : Int32} {x3 : Int32} {x4 : Int32}
    (h1 : (hi 279 46) ≤ x4 → Q (some (.int x3)) (mkH hi hl sw kp))
    (h2 : ¬ ((hi 279 46) ≤ x4) → cS (d + 2) 245 [(.ref 279), (.int x1), (.int x2), (.int x4)] (mkH hi hl sw kp) (am_ret (cW cd_258 (d + 2) Q) 43 [some (.ref 279), some (.int x1), some (.int x2), some (.int x3), some (.int x4)] [(.int x3)]))
    : cW cd_258 (d + 2) Q 25 [some (.ref 279), some (.int x1), some (.int x2), some (.int x3), some (.int x4)] [] (mkH hi hl sw kp) :=
  cW.run (am_in [25, 43, 47]) 10 (And.intro (fun c1 => (cQ.of (h1 c1))) (fun c2 => (cC.of (h2 c2))))
set_option maxRecDepth 100000 in
theorem k_258_43 {x1 : Int32} {x2 : Int32} {x3 : Int32} {x4 : Int32} {s0 : Int32} {s1 : Int64}
    (h1 : cS (d + 2) 247 [(.long s1), (.int x2)] (mkH hi hl sw kp) (am_ret (cW cd_258 (d + 2) Q) 47 [some (.ref 279), some (.int x1), some (.int x2), some (.int x3), some (.int x4)] [(.int s0)]))
    : cW cd_258 (d + 2) Q 43 [some (.ref 279), some (.int x1), some (.int x2), some (.int x3), some (.int x4)] [(.long s1), (.int s0)] (mkH hi hl sw kp) :=
  cW.run (am_in [25, 43, 47]) 2 (cC.of (h1))
set_option maxRecDepth 100000 in
theorem k_258_47 {x1 : Int32} {x2 : Int32} {x3 : Int32} {x4 : Int32} {s0 : Int32} {s1 : Int32}
    (h1 : cW cd_258 (d + 2) Q 25 [some (.ref 279), some (.int x1), some (.int x2), some (.int (s0 ||| ((g_194 s1) <<< (x4 &&& 31)))), some (.int (x4 + (1)))] [] (mkH hi hl sw kp))
    : cW cd_258 (d + 2) Q 47 [some (.ref 279), some (.int x1), some (.int x2), some (.int x3), some (.int x4)] [(.int s1), (.int s0)] (mkH hi hl sw kp) :=
  cW.run (am_in [25, 43, 47]) 7 (cC.of (s_194 (And.intro (Nat.le_of_ble_eq_true rfl) (And.intro (Nat.le_of_ble_eq_true rfl) (h1)))))
-- 91: DogDecrees$Telling.tellLine()Z
set_option maxRecDepth 100000 in
theorem k_91_0
    (h1 : (hi 3 2) = 200 → cS d 92 [(.ref 14)] (mkH hi hl sw kp) (am_ret (cW cd_91 d Q) 68 [some (.ref 14)] []))
    (h2 : ¬ (hi 3 2) = 200 → (hi 3 2) = 201 → cS d 93 [(.ref 14)] (mkH hi hl sw kp) (am_ret (cW cd_91 d Q) 73 [some (.ref 14)] []))
    (h3 : ¬ (hi 3 2) = 200 → ¬ (hi 3 2) = 201 → (hi 3 2) = 202 → cS d 94 [(.ref 14)] (mkH hi hl sw kp) (am_ret (cW cd_91 d Q) 78 [some (.ref 14)] []))
    (h4 : ¬ (hi 3 2) = 200 → ¬ (hi 3 2) = 201 → ¬ (hi 3 2) = 202 → (hi 3 2) = 203 → cS d 95 [(.ref 14)] (mkH hi hl sw kp) (am_ret (cW cd_91 d Q) 83 [some (.ref 14)] []))
    (h5 : ¬ (hi 3 2) = 200 → ¬ (hi 3 2) = 201 → ¬ (hi 3 2) = 202 → ¬ (hi 3 2) = 203 → (hi 3 2) = 204 → cS d 96 [(.ref 14)] (mkH hi hl sw kp) (am_ret (cW cd_91 d Q) 88 [some (.ref 14)] []))
    (h6 : ¬ (hi 3 2) = 200 → ¬ (hi 3 2) = 201 → ¬ (hi 3 2) = 202 → ¬ (hi 3 2) = 203 → ¬ (hi 3 2) = 204 → (hi 3 2) = 205 → cS d 98 [(.ref 14), (.int (hi 3 2))] (mkH hi hl sw kp) (am_ret (cW cd_91 d Q) 100 [some (.ref 14)] []))
    (h7 : ¬ (hi 3 2) = 200 → ¬ (hi 3 2) = 201 → ¬ (hi 3 2) = 202 → ¬ (hi 3 2) = 203 → ¬ (hi 3 2) = 204 → ¬ (hi 3 2) = 205 → (hi 3 2) = 206 → cS d 98 [(.ref 14), (.int (hi 3 2))] (mkH hi hl sw kp) (am_ret (cW cd_91 d Q) 100 [some (.ref 14)] []))
    (h8 : ¬ (hi 3 2) = 200 → ¬ (hi 3 2) = 201 → ¬ (hi 3 2) = 202 → ¬ (hi 3 2) = 203 → ¬ (hi 3 2) = 204 → ¬ (hi 3 2) = 205 → ¬ (hi 3 2) = 206 → (hi 3 2) = 207 → cS d 98 [(.ref 14), (.int (hi 3 2))] (mkH hi hl sw kp) (am_ret (cW cd_91 d Q) 100 [some (.ref 14)] []))
    (h9 : ¬ (hi 3 2) = 200 → ¬ (hi 3 2) = 201 → ¬ (hi 3 2) = 202 → ¬ (hi 3 2) = 203 → ¬ (hi 3 2) = 204 → ¬ (hi 3 2) = 205 → ¬ (hi 3 2) = 206 → ¬ (hi 3 2) = 207 → (hi 3 2) = 208 → cS d 98 [(.ref 14), (.int (hi 3 2))] (mkH hi hl sw kp) (am_ret (cW cd_91 d Q) 100 [some (.ref 14)] []))
    (h10 : ¬ (hi 3 2) = 200 → ¬ (hi 3 2) = 201 → ¬ (hi 3 2) = 202 → ¬ (hi 3 2) = 203 → ¬ (hi 3 2) = 204 → ¬ (hi 3 2) = 205 → ¬ (hi 3 2) = 206 → ¬ (hi 3 2) = 207 → ¬ (hi 3 2) = 208 → (hi 3 2) = 209 → cS d 98 [(.ref 14), (.int (hi 3 2))] (mkH hi hl sw kp) (am_ret (cW cd_91 d Q) 100 [some (.ref 14)] []))
    (h11 : ¬ (hi 3 2) = 200 → ¬ (hi 3 2) = 201 → ¬ (hi 3 2) = 202 → ¬ (hi 3 2) = 203 → ¬ (hi 3 2) = 204 → ¬ (hi 3 2) = 205 → ¬ (hi 3 2) = 206 → ¬ (hi 3 2) = 207 → ¬ (hi 3 2) = 208 → ¬ (hi 3 2) = 209 → (hi 3 2) = 210 → cS d 98 [(.ref 14), (.int (hi 3 2))] (mkH hi hl sw kp) (am_ret (cW cd_91 d Q) 100 [some (.ref 14)] []))
    (h12 : ¬ (hi 3 2) = 200 → ¬ (hi 3 2) = 201 → ¬ (hi 3 2) = 202 → ¬ (hi 3 2) = 203 → ¬ (hi 3 2) = 204 → ¬ (hi 3 2) = 205 → ¬ (hi 3 2) = 206 → ¬ (hi 3 2) = 207 → ¬ (hi 3 2) = 208 → ¬ (hi 3 2) = 209 → ¬ (hi 3 2) = 210 → cS d 72 [(.ref 3), (.int (2))] (mkH hi hl sw kp) (am_ret (cW cd_91 d Q) 109 [some (.ref 14)] []))
    : cW cd_91 d Q 0 [some (.ref 14)] [] (mkH hi hl sw kp) :=
  cW.run (am_in [68, 73, 78, 83, 88, 100, 109]) 9 (And.intro (fun c1 => (cC.of (h1 c1))) (fun c2 => (And.intro (fun c3 => (cC.of (h2 c2 c3))) (fun c4 => (And.intro (fun c5 => (cC.of (h3 c2 c4 c5))) (fun c6 => (And.intro (fun c7 => (cC.of (h4 c2 c4 c6 c7))) (fun c8 => (And.intro (fun c9 => (cC.of (h5 c2 c4 c6 c8 c9))) (fun c10 => (And.intro (fun c11 => (cC.of (h6 c2 c4 c6 c8 c10 c11))) (fun c12 => (And.intro (fun c13 => (cC.of (h7 c2 c4 c6 c8 c10 c12 c13))) (fun c14 => (And.intro (fun c15 => (cC.of (h8 c2 c4 c6 c8 c10 c12 c14 c15))) (fun c16 => (And.intro (fun c17 => (cC.of (h9 c2 c4 c6 c8 c10 c12 c14 c16 c17))) (fun c18 => (And.intro (fun c19 => (cC.of (h10 c2 c4 c6 c8 c10 c12 c14 c16 c18 c19))) (fun c20 => (And.intro (fun c21 => (cC.of (h11 c2 c4 c6 c8 c10 c12 c14 c16 c18 c20 c21))) (fun c22 => (cC.of (h12 c2 c4 c6 c8 c10 c12 c14 c16 c18 c20 c22))))))))))))))))))))))))
theorem e_91
    (h1 : (hi 3 2) = 200 → cS d 92 [(.ref 14)] (mkH hi hl sw kp) (am_ret (cW cd_91 d Q) 68 [some (.ref 14)] []))
    (h2 : ¬ (hi 3 2) = 200 → (hi 3 2) = 201 → cS d 93 [(.ref 14)] (mkH hi hl sw kp) (am_ret (cW cd_91 d Q) 73 [some (.ref 14)] []))
    (h3 : ¬ (hi 3 2) = 200 → ¬ (hi 3 2) = 201 → (hi 3 2) = 202 → cS d 94 [(.ref 14)] (mkH hi hl sw kp) (am_ret (cW cd_91 d Q) 78 [some (.ref 14)] []))
    (h4 : ¬ (hi 3 2) = 200 → ¬ (hi 3 2) = 201 → ¬ (hi 3 2) = 202 → (hi 3 2) = 203 → cS d 95 [(.ref 14)] (mkH hi hl sw kp) (am_ret (cW cd_91 d Q) 83 [some (.ref 14)] []))
    (h5 : ¬ (hi 3 2) = 200 → ¬ (hi 3 2) = 201 → ¬ (hi 3 2) = 202 → ¬ (hi 3 2) = 203 → (hi 3 2) = 204 → cS d 96 [(.ref 14)] (mkH hi hl sw kp) (am_ret (cW cd_91 d Q) 88 [some (.ref 14)] []))
    (h6 : ¬ (hi 3 2) = 200 → ¬ (hi 3 2) = 201 → ¬ (hi 3 2) = 202 → ¬ (hi 3 2) = 203 → ¬ (hi 3 2) = 204 → (hi 3 2) = 205 → cS d 98 [(.ref 14), (.int (hi 3 2))] (mkH hi hl sw kp) (am_ret (cW cd_91 d Q) 100 [some (.ref 14)] []))
    (h7 : ¬ (hi 3 2) = 200 → ¬ (hi 3 2) = 201 → ¬ (hi 3 2) = 202 → ¬ (hi 3 2) = 203 → ¬ (hi 3 2) = 204 → ¬ (hi 3 2) = 205 → (hi 3 2) = 206 → cS d 98 [(.ref 14), (.int (hi 3 2))] (mkH hi hl sw kp) (am_ret (cW cd_91 d Q) 100 [some (.ref 14)] []))
    (h8 : ¬ (hi 3 2) = 200 → ¬ (hi 3 2) = 201 → ¬ (hi 3 2) = 202 → ¬ (hi 3 2) = 203 → ¬ (hi 3 2) = 204 → ¬ (hi 3 2) = 205 → ¬ (hi 3 2) = 206 → (hi 3 2) = 207 → cS d 98 [(.ref 14), (.int (hi 3 2))] (mkH hi hl sw kp) (am_ret (cW cd_91 d Q) 100 [some (.ref 14)] []))
    (h9 : ¬ (hi 3 2) = 200 → ¬ (hi 3 2) = 201 → ¬ (hi 3 2) = 202 → ¬ (hi 3 2) = 203 → ¬ (hi 3 2) = 204 → ¬ (hi 3 2) = 205 → ¬ (hi 3 2) = 206 → ¬ (hi 3 2) = 207 → (hi 3 2) = 208 → cS d 98 [(.ref 14), (.int (hi 3 2))] (mkH hi hl sw kp) (am_ret (cW cd_91 d Q) 100 [some (.ref 14)] []))
    (h10 : ¬ (hi 3 2) = 200 → ¬ (hi 3 2) = 201 → ¬ (hi 3 2) = 202 → ¬ (hi 3 2) = 203 → ¬ (hi 3 2) = 204 → ¬ (hi 3 2) = 205 → ¬ (hi 3 2) = 206 → ¬ (hi 3 2) = 207 → ¬ (hi 3 2) = 208 → (hi 3 2) = 209 → cS d 98 [(.ref 14), (.int (hi 3 2))] (mkH hi hl sw kp) (am_ret (cW cd_91 d Q) 100 [some (.ref 14)] []))
    (h11 : ¬ (hi 3 2) = 200 → ¬ (hi 3 2) = 201 → ¬ (hi 3 2) = 202 → ¬ (hi 3 2) = 203 → ¬ (hi 3 2) = 204 → ¬ (hi 3 2) = 205 → ¬ (hi 3 2) = 206 → ¬ (hi 3 2) = 207 → ¬ (hi 3 2) = 208 → ¬ (hi 3 2) = 209 → (hi 3 2) = 210 → cS d 98 [(.ref 14), (.int (hi 3 2))] (mkH hi hl sw kp) (am_ret (cW cd_91 d Q) 100 [some (.ref 14)] []))
    (h12 : ¬ (hi 3 2) = 200 → ¬ (hi 3 2) = 201 → ¬ (hi 3 2) = 202 → ¬ (hi 3 2) = 203 → ¬ (hi 3 2) = 204 → ¬ (hi 3 2) = 205 → ¬ (hi 3 2) = 206 → ¬ (hi 3 2) = 207 → ¬ (hi 3 2) = 208 → ¬ (hi 3 2) = 209 → ¬ (hi 3 2) = 210 → cS d 72 [(.ref 3), (.int (2))] (mkH hi hl sw kp) (am_ret (cW cd_91 d Q) 109 [some (.ref 14)] []))
    : cS (d + 1) 91 [(.ref 14)] (mkH hi hl sw kp) Q := cS.of rfl (k_91_0 h1 h2 h3 h4 h5 h6 h7 h8 h9 h10 h11 h12)
set_option maxRecDepth 100000 in
theorem k_91_68 {s0 : Int32}
    (h1 : s0 = 0 ∨ s0 = 1)
    (h2 : Q (some (.int s0)) (mkH hi hl sw kp))
    : cW cd_91 d Q 68 [some (.ref 14)] [(.int s0)] (mkH hi hl sw kp) :=
  cW.run (am_in [68, 73, 78, 83, 88, 100, 109]) 1 (And.intro (h1) (cQ.of (h2)))
set_option maxRecDepth 100000 in
theorem k_91_73 {s0 : Int32}
    (h1 : s0 = 0 ∨ s0 = 1)
    (h2 : Q (some (.int s0)) (mkH hi hl sw kp))
    : cW cd_91 d Q 73 [some (.ref 14)] [(.int s0)] (mkH hi hl sw kp) :=
  cW.run (am_in [68, 73, 78, 83, 88, 100, 109]) 1 (And.intro (h1) (cQ.of (h2)))
set_option maxRecDepth 100000 in
theorem k_91_78 {s0 : Int32}
    (h1 : s0 = 0 ∨ s0 = 1)
    (h2 : Q (some (.int s0)) (mkH hi hl sw kp))
    : cW cd_91 d Q 78 [some (.ref 14)] [(.int s0)] (mkH hi hl sw kp) :=
  cW.run (am_in [68, 73, 78, 83, 88, 100, 109]) 1 (And.intro (h1) (cQ.of (h2)))
set_option maxRecDepth 100000 in
theorem k_91_83 {s0 : Int32}
    (h1 : s0 = 0 ∨ s0 = 1)
    (h2 : Q (some (.int s0)) (mkH hi hl sw kp))
    : cW cd_91 d Q 83 [some (.ref 14)] [(.int s0)] (mkH hi hl sw kp) :=
  cW.run (am_in [68, 73, 78, 83, 88, 100, 109]) 1 (And.intro (h1) (cQ.of (h2)))
set_option maxRecDepth 100000 in
theorem k_91_88 {s0 : Int32}
    (h1 : s0 = 0 ∨ s0 = 1)
    (h2 : Q (some (.int s0)) (mkH hi hl sw kp))
    : cW cd_91 d Q 88 [some (.ref 14)] [(.int s0)] (mkH hi hl sw kp) :=
  cW.run (am_in [68, 73, 78, 83, 88, 100, 109]) 1 (And.intro (h1) (cQ.of (h2)))
set_option maxRecDepth 100000 in
theorem k_91_100 {s0 : Int32}
    (h1 : s0 = 0 ∨ s0 = 1)
    (h2 : Q (some (.int s0)) (mkH hi hl sw kp))
    : cW cd_91 d Q 100 [some (.ref 14)] [(.int s0)] (mkH hi hl sw kp) :=
  cW.run (am_in [68, 73, 78, 83, 88, 100, 109]) 1 (And.intro (h1) (cQ.of (h2)))
set_option maxRecDepth 100000 in
theorem k_91_109 {s0 : Int32}
    (h1 : s0 = 0 ∨ s0 = 1)
    (h2 : Q (some (.int s0)) (mkH hi hl sw kp))
    : cW cd_91 d Q 109 [some (.ref 14)] [(.int s0)] (mkH hi hl sw kp) :=
  cW.run (am_in [68, 73, 78, 83, 88, 100, 109]) 1 (And.intro (h1) (cQ.of (h2)))
-- 90: DogDecrees$Telling.tellAll()Z
set_option maxRecDepth 100000 in
theorem k_90_0
    (h1 : cS d 106 [(.ref 5)] (mkH hi hl sw kp) (am_ret (cW cd_90 d Q) 7 [some (.ref 14), none] []))
    : cW cd_90 d Q 0 [some (.ref 14), none] [] (mkH hi hl sw kp) :=
  cW.run (am_in [7, 24, 26, 47]) 3 (cC.of (h1))
theorem e_90
    (h1 : cS d 106 [(.ref 5)] (mkH hi hl sw kp) (am_ret (cW cd_90 d Q) 7 [some (.ref 14), none] []))
    : cS (d + 1) 90 [(.ref 14)] (mkH hi hl sw kp) Q := cS.of rfl (k_90_0 h1)
set_option maxRecDepth 100000 in
theorem k_90_7
    (h1 : cS d 66 [(.ref 3)] (mkH (u2 (u2 hi 14 6 (0)) 14 7 (0)) hl sw kp) (am_ret (cW cd_90 d Q) 24 [some (.ref 14), none] []))
    : cW cd_90 d Q 7 [some (.ref 14), none] [] (mkH hi hl sw kp) :=
  cW.run (am_in [7, 24, 26, 47]) 9 (cC.of (h1))
set_option maxRecDepth 100000 in
theorem k_90_24
    (h1 : cW cd_90 d Q 26 [some (.ref 14), some (.int (0))] [] (mkH hi hl sw kp))
    : cW cd_90 d Q 24 [some (.ref 14), none] [] (mkH hi hl sw kp) :=
  cW.run (am_in [7, 24, 26, 47]) 2 (And.intro (Nat.le_of_ble_eq_true rfl) (h1))
set_option maxRecDepth 100000 in
theorem k_90_26 {x1 : Int32}
    (h1 : (1600) ≤ x1 → Q (some (.int (1))) (mkH hi hl sw kp))
    (h2 : ¬ ((1600) ≤ x1) → (hi 3 2) = 0 → Q (some (.int (1))) (mkH hi hl sw kp))
    (h3 : ¬ ((1600) ≤ x1) → ¬ ((hi 3 2) = 0) → cS d 91 [(.ref 14)] (mkH hi hl sw kp) (am_ret (cW cd_90 d Q) 47 [some (.ref 14), some (.int x1)] []))
    : cW cd_90 d Q 26 [some (.ref 14), some (.int x1)] [] (mkH hi hl sw kp) :=
  cW.run (am_in [7, 24, 26, 47]) 9 (And.intro (fun c1 => (And.intro (Or.inr rfl) (cQ.of (h1 c1)))) (fun c2 => (And.intro (fun c3 => (And.intro (Or.inr rfl) (cQ.of (h2 c2 c3)))) (fun c4 => (cC.of (h3 c2 c4))))))
set_option maxRecDepth 100000 in
theorem k_90_47 {x1 : Int32} {s0 : Int32}
    (h1 : s0 = 0 → Q (some (.int (0))) (mkH hi hl sw kp))
    (h2 : ¬ (s0 = 0) → cW cd_90 d Q 26 [some (.ref 14), some (.int (x1 + (1)))] [] (mkH hi hl sw kp))
    : cW cd_90 d Q 47 [some (.ref 14), some (.int x1)] [(.int s0)] (mkH hi hl sw kp) :=
  cW.run (am_in [7, 24, 26, 47]) 3 (And.intro (fun c1 => (And.intro (Or.inl rfl) (cQ.of (h1 c1)))) (fun c2 => (And.intro (Nat.le_of_ble_eq_true rfl) (h2 c2))))
-- 125: DogDecrees.village()I
set_option maxRecDepth 100000 in
theorem k_125_0
    (h1 : cS d 90 [(.ref 14)] (mkH hi hl sw kp) (am_ret (cW cd_125 d Q) 7 [some (.ref 0), none] []))
    : cW cd_125 d Q 0 [some (.ref 0), none] [] (mkH hi hl sw kp) :=
  cW.run (am_in [7, 33, 44, 51, 58]) 3 (cC.of (h1))
theorem e_125
    (h1 : cS d 90 [(.ref 14)] (mkH hi hl sw kp) (am_ret (cW cd_125 d Q) 7 [some (.ref 0), none] []))
    : cS (d + 1) 125 [(.ref 0)] (mkH hi hl sw kp) Q := cS.of rfl (k_125_0 h1)
set_option maxRecDepth 100000 in
theorem k_125_7 {s0 : Int32}
    (h1 : s0 = 0 → Q (some (.int (-1))) (mkH (u2 hi 1 1 (0)) hl sw kp))
    (h2 : ¬ (s0 = 0) → cS d 107 [(.ref 19), (.ref 5)] (mkH (u2 hi 1 1 (0)) hl sw kp) (am_ret (cW cd_125 d Q) 33 [some (.ref 0), some (.int s0)] []))
    : cW cd_125 d Q 7 [some (.ref 0), none] [(.int s0)] (mkH hi hl sw kp) :=
  cW.run (am_in [7, 33, 44, 51, 58]) 12 (And.intro (Nat.le_of_ble_eq_true rfl) (And.intro (fun c1 => (cQ.of (h1 c1))) (fun c2 => (cC.of (h2 c2)))))
set_option maxRecDepth 100000 in
theorem k_125_33 {x1 : Int32}
    (h1 : cS d 79 [(.ref 28), (.ref 19)] (mkH hi hl sw kp) (am_ret (cW cd_125 d Q) 44 [some (.ref 0), some (.int x1)] []))
    : cW cd_125 d Q 33 [some (.ref 0), some (.int x1)] [] (mkH hi hl sw kp) :=
  cW.run (am_in [7, 33, 44, 51, 58]) 5 (cC.of (h1))
set_option maxRecDepth 100000 in
theorem k_125_44 {x1 : Int32}
    (h1 : cS d 1 [(.ref 33)] (mkH hi hl sw kp) (am_ret (cW cd_125 d Q) 51 [some (.ref 0), some (.int x1)] []))
    : cW cd_125 d Q 44 [some (.ref 0), some (.int x1)] [] (mkH hi hl sw kp) :=
  cW.run (am_in [7, 33, 44, 51, 58]) 3 (cC.of (h1))
set_option maxRecDepth 100000 in
theorem k_125_51 {x1 : Int32}
    (h1 : cS d 25 [(.ref 266)] (mkH hi hl sw kp) (am_ret (cW cd_125 d Q) 58 [some (.ref 0), some (.int x1)] []))
    : cW cd_125 d Q 51 [some (.ref 0), some (.int x1)] [] (mkH hi hl sw kp) :=
  cW.run (am_in [7, 33, 44, 51, 58]) 3 (cC.of (h1))
set_option maxRecDepth 100000 in
theorem k_125_58 {x1 : Int32}
    (h1 : Q (some (.int (hi 19 1))) (mkH (u2 (u2 hi 0 13 (0)) 0 8 (0)) hl sw kp))
    : cW cd_125 d Q 58 [some (.ref 0), some (.int x1)] [] (mkH hi hl sw kp) :=
  cW.run (am_in [7, 33, 44, 51, 58]) 10 (cQ.of (h1))
end BLK
