/-! ===== blocks of methods, by program ===== -/
section BLK
variable {d : Nat} {Q : am_Q} {hi : Nat → Nat → Int32} {hl : Nat → Nat → Int64} {sw : Bool} {kp : Nat → Nat}
-- 62: DogDecrees$PullTelling.tellUnit(I)Z
set_option maxRecDepth 100000 in
theorem k_62_0 {x1 : Int32}
    (h1 : (hi 3 2) = (40) → (30) ≤ (hi 11 3) → cS (d + 1) 72 [(.ref 3), (.int (2))] (mkH hi hl sw kp) (am_ret (cW cd_62 (d + 1) Q) 75 [some (.ref 18), some (.int x1), some (.int (hi 3 2)), some (.int (1))] []))
    (h2 : (hi 3 2) = (40) → ¬ ((30) ≤ (hi 11 3)) → x1 < (7) → cW cd_62 (d + 1) Q 117 [some (.ref 18), some (.int x1), some (.int (hi 3 2)), some (.int (1))] [] (mkH (u2 hi 11 3 ((hi 11 3) + (1))) hl sw kp))
    (h3 : (hi 3 2) = (40) → ¬ ((30) ≤ (hi 11 3)) → ¬ (x1 < (7)) → cS (d + 1) 72 [(.ref 3), (.int (2))] (mkH hi hl sw kp) (am_ret (cW cd_62 (d + 1) Q) 75 [some (.ref 18), some (.int x1), some (.int (hi 3 2)), some (.int (1))] []))
    (h4 : ¬ ((hi 3 2) = (40)) → (hi 3 2) = (3) → (30) ≤ (hi 11 3) → cS (d + 1) 72 [(.ref 3), (.int (2))] (mkH hi hl sw kp) (am_ret (cW cd_62 (d + 1) Q) 75 [some (.ref 18), some (.int x1), some (.int (hi 3 2)), some (.int (0))] []))
    (h5 : ¬ ((hi 3 2) = (40)) → (hi 3 2) = (3) → ¬ ((30) ≤ (hi 11 3)) → (hi 3 2) = (3) → cS (d + 1) 8 [(.ref 11), (.int (hi 3 4))] (mkH (u2 hi 11 3 ((hi 11 3) + (1))) hl sw kp) (am_ret (cW cd_62 (d + 1) Q) 117 [some (.ref 18), some (.int x1), some (.int (hi 3 2)), some (.int (0))] []))
    (h6 : ¬ ((hi 3 2) = (40)) → (hi 3 2) = (3) → ¬ ((30) ≤ (hi 11 3)) → ¬ ((hi 3 2) = (3)) → cS (d + 1) 8 [(.ref 11), (.int (-(hi 3 2)))] (mkH (u2 hi 11 3 ((hi 11 3) + (1))) hl sw kp) (am_ret (cW cd_62 (d + 1) Q) 117 [some (.ref 18), some (.int x1), some (.int (hi 3 2)), some (.int (0))] []))
    (h7 : ¬ ((hi 3 2) = (40)) → ¬ ((hi 3 2) = (3)) → (g_64 (hi 3 2)) = 0 → cS (d + 1) 72 [(.ref 3), (.int (2))] (mkH hi hl sw kp) (am_ret (cW cd_62 (d + 1) Q) 44 [some (.ref 18), some (.int x1), some (.int (hi 3 2)), some (.int (0))] []))
    (h8 : ¬ ((hi 3 2) = (40)) → ¬ ((hi 3 2) = (3)) → ¬ ((g_64 (hi 3 2)) = 0) → (30) ≤ (hi 11 3) → cS (d + 1) 72 [(.ref 3), (.int (2))] (mkH hi hl sw kp) (am_ret (cW cd_62 (d + 1) Q) 75 [some (.ref 18), some (.int x1), some (.int (hi 3 2)), some (.int (0))] []))
    (h9 : ¬ ((hi 3 2) = (40)) → ¬ ((hi 3 2) = (3)) → ¬ ((g_64 (hi 3 2)) = 0) → ¬ ((30) ≤ (hi 11 3)) → (hi 3 2) = (3) → cS (d + 1) 8 [(.ref 11), (.int (hi 3 4))] (mkH (u2 hi 11 3 ((hi 11 3) + (1))) hl sw kp) (am_ret (cW cd_62 (d + 1) Q) 117 [some (.ref 18), some (.int x1), some (.int (hi 3 2)), some (.int (0))] []))
    (h10 : ¬ ((hi 3 2) = (40)) → ¬ ((hi 3 2) = (3)) → ¬ ((g_64 (hi 3 2)) = 0) → ¬ ((30) ≤ (hi 11 3)) → ¬ ((hi 3 2) = (3)) → cS (d + 1) 8 [(.ref 11), (.int (-(hi 3 2)))] (mkH (u2 hi 11 3 ((hi 11 3) + (1))) hl sw kp) (am_ret (cW cd_62 (d + 1) Q) 117 [some (.ref 18), some (.int x1), some (.int (hi 3 2)), some (.int (0))] []))
    : cW cd_62 (d + 1) Q 0 [some (.ref 18), some (.int x1), none, none] [] (mkH hi hl sw kp) :=
  cW.run (am_in [44, 75, 117, 124, 137, 162, 170]) 43 (And.intro (Nat.le_of_ble_eq_true rfl) (And.intro (fun c1 => (And.intro (Nat.le_of_ble_eq_true rfl) (And.intro (fun z => absurd (show (1 : Int32) = 0 from z) (by decide)) (fun _ => (And.intro (fun c2 => (cC.of (h1 c1 c2))) (fun c3 => (And.intro (fun z => absurd (show (1 : Int32) = 0 from z) (by decide)) (fun _ => (And.intro (fun c4 => (And.intro rfl (And.intro (fun z => absurd (show (1 : Int32) = 0 from z) (by decide)) (fun _ => (h2 c1 c3 c4))))) (fun c5 => (cC.of (h3 c1 c3 c5)))))))))))) (fun c6 => (And.intro (Nat.le_of_ble_eq_true rfl) (And.intro (fun _ => (And.intro (fun c7 => (And.intro (fun c8 => (cC.of (h4 c6 c7 c8))) (fun c9 => (And.intro (fun _ => (And.intro rfl (And.intro (fun _ => (And.intro (fun c10 => (cC.of (h5 c6 c7 c9 c10))) (fun c11 => (cC.of (h6 c6 c7 c9 c11))))) (fun z => absurd (show (0 : Int32) = 0 by decide) z)))) (fun z => absurd (show (0 : Int32) = 0 by decide) z))))) (fun c12 => (cC.of (s_64 (And.intro (fun c13 => (cC.of (h7 c6 c12 c13))) (fun c14 => (And.intro (fun c15 => (cC.of (h8 c6 c12 c14 c15))) (fun c16 => (And.intro (fun _ => (And.intro rfl (And.intro (fun _ => (And.intro (fun c17 => (cC.of (h9 c6 c12 c14 c16 c17))) (fun c18 => (cC.of (h10 c6 c12 c14 c16 c18))))) (fun z => absurd (show (0 : Int32) = 0 by decide) z)))) (fun z => absurd (show (0 : Int32) = 0 by decide) z))))))))))) (fun z => absurd (show (0 : Int32) = 0 by decide) z))))))
theorem e_62 {x1 : Int32}
    (h1 : (hi 3 2) = (40) → (30) ≤ (hi 11 3) → cS (d + 1) 72 [(.ref 3), (.int (2))] (mkH hi hl sw kp) (am_ret (cW cd_62 (d + 1) Q) 75 [some (.ref 18), some (.int x1), some (.int (hi 3 2)), some (.int (1))] []))
    (h2 : (hi 3 2) = (40) → ¬ ((30) ≤ (hi 11 3)) → x1 < (7) → cW cd_62 (d + 1) Q 117 [some (.ref 18), some (.int x1), some (.int (hi 3 2)), some (.int (1))] [] (mkH (u2 hi 11 3 ((hi 11 3) + (1))) hl sw kp))
    (h3 : (hi 3 2) = (40) → ¬ ((30) ≤ (hi 11 3)) → ¬ (x1 < (7)) → cS (d + 1) 72 [(.ref 3), (.int (2))] (mkH hi hl sw kp) (am_ret (cW cd_62 (d + 1) Q) 75 [some (.ref 18), some (.int x1), some (.int (hi 3 2)), some (.int (1))] []))
    (h4 : ¬ ((hi 3 2) = (40)) → (hi 3 2) = (3) → (30) ≤ (hi 11 3) → cS (d + 1) 72 [(.ref 3), (.int (2))] (mkH hi hl sw kp) (am_ret (cW cd_62 (d + 1) Q) 75 [some (.ref 18), some (.int x1), some (.int (hi 3 2)), some (.int (0))] []))
    (h5 : ¬ ((hi 3 2) = (40)) → (hi 3 2) = (3) → ¬ ((30) ≤ (hi 11 3)) → (hi 3 2) = (3) → cS (d + 1) 8 [(.ref 11), (.int (hi 3 4))] (mkH (u2 hi 11 3 ((hi 11 3) + (1))) hl sw kp) (am_ret (cW cd_62 (d + 1) Q) 117 [some (.ref 18), some (.int x1), some (.int (hi 3 2)), some (.int (0))] []))
    (h6 : ¬ ((hi 3 2) = (40)) → (hi 3 2) = (3) → ¬ ((30) ≤ (hi 11 3)) → ¬ ((hi 3 2) = (3)) → cS (d + 1) 8 [(.ref 11), (.int (-(hi 3 2)))] (mkH (u2 hi 11 3 ((hi 11 3) + (1))) hl sw kp) (am_ret (cW cd_62 (d + 1) Q) 117 [some (.ref 18), some (.int x1), some (.int (hi 3 2)), some (.int (0))] []))
    (h7 : ¬ ((hi 3 2) = (40)) → ¬ ((hi 3 2) = (3)) → (g_64 (hi 3 2)) = 0 → cS (d + 1) 72 [(.ref 3), (.int (2))] (mkH hi hl sw kp) (am_ret (cW cd_62 (d + 1) Q) 44 [some (.ref 18), some (.int x1), some (.int (hi 3 2)), some (.int (0))] []))
    (h8 : ¬ ((hi 3 2) = (40)) → ¬ ((hi 3 2) = (3)) → ¬ ((g_64 (hi 3 2)) = 0) → (30) ≤ (hi 11 3) → cS (d + 1) 72 [(.ref 3), (.int (2))] (mkH hi hl sw kp) (am_ret (cW cd_62 (d + 1) Q) 75 [some (.ref 18), some (.int x1), some (.int (hi 3 2)), some (.int (0))] []))
    (h9 : ¬ ((hi 3 2) = (40)) → ¬ ((hi 3 2) = (3)) → ¬ ((g_64 (hi 3 2)) = 0) → ¬ ((30) ≤ (hi 11 3)) → (hi 3 2) = (3) → cS (d + 1) 8 [(.ref 11), (.int (hi 3 4))] (mkH (u2 hi 11 3 ((hi 11 3) + (1))) hl sw kp) (am_ret (cW cd_62 (d + 1) Q) 117 [some (.ref 18), some (.int x1), some (.int (hi 3 2)), some (.int (0))] []))
    (h10 : ¬ ((hi 3 2) = (40)) → ¬ ((hi 3 2) = (3)) → ¬ ((g_64 (hi 3 2)) = 0) → ¬ ((30) ≤ (hi 11 3)) → ¬ ((hi 3 2) = (3)) → cS (d + 1) 8 [(.ref 11), (.int (-(hi 3 2)))] (mkH (u2 hi 11 3 ((hi 11 3) + (1))) hl sw kp) (am_ret (cW cd_62 (d + 1) Q) 117 [some (.ref 18), some (.int x1), some (.int (hi 3 2)), some (.int (0))] []))
    : cS ((d + 1) + 1) 62 [(.ref 18), (.int x1)] (mkH hi hl sw kp) Q := cS.of rfl (k_62_0 h1 h2 h3 h4 h5 h6 h7 h8 h9 h10)
set_option maxRecDepth 100000 in
theorem k_62_44 {x1 : Int32} {x2 : Int32} {x3 : Int32} {s0 : Int32}
    (h1 : s0 = 0 ∨ s0 = 1)
    (h2 : Q (some (.int s0)) (mkH hi hl sw kp))
    : cW cd_62 (d + 1) Q 44 [some (.ref 18), some (.int x1), some (.int x2), some (.int x3)] [(.int s0)] (mkH hi hl sw kp) :=
  cW.run (am_in [44, 75, 117, 124, 137, 162, 170]) 1 (And.intro (h1) (cQ.of (h2)))
set_option maxRecDepth 100000 in
theorem k_62_75 {x1 : Int32} {x2 : Int32} {x3 : Int32} {s0 : Int32}
    (h1 : s0 = 0 ∨ s0 = 1)
    (h2 : Q (some (.int s0)) (mkH hi hl sw kp))
    : cW cd_62 (d + 1) Q 75 [some (.ref 18), some (.int x1), some (.int x2), some (.int x3)] [(.int s0)] (mkH hi hl sw kp) :=
  cW.run (am_in [44, 75, 117, 124, 137, 162, 170]) 1 (And.intro (h1) (cQ.of (h2)))
set_option maxRecDepth 100000 in
theorem k_62_117 {x1 : Int32} {x2 : Int32} {x3 : Int32}
    (h1 : cS (d + 1) 67 [(.ref 3)] (mkH hi hl sw kp) (am_ret (cW cd_62 (d + 1) Q) 124 [some (.ref 18), some (.int x1), some (.int x2), some (.int x3)] []))
    : cW cd_62 (d + 1) Q 117 [some (.ref 18), some (.int x1), some (.int x2), some (.int x3)] [] (mkH hi hl sw kp) :=
  cW.run (am_in [44, 75, 117, 124, 137, 162, 170]) 3 (cC.of (h1))
set_option maxRecDepth 100000 in
theorem k_62_124 {x1 : Int32} {x2 : Int32} {x3 : Int32}
    (h1 : x3 = 0 → Q (some (.int (1))) (mkH hi hl sw kp))
    (h2 : ¬ (x3 = 0) → cS (d + 1) 56 [(.ref 18), (.int (x1 + (1)))] (mkH hi hl sw kp) (am_ret (cW cd_62 (d + 1) Q) 137 [some (.ref 18), some (.int x1), some (.int x2), some (.int x3)] []))
    : cW cd_62 (d + 1) Q 124 [some (.ref 18), some (.int x1), some (.int x2), some (.int x3)] [] (mkH hi hl sw kp) :=
  cW.run (am_in [44, 75, 117, 124, 137, 162, 170]) 7 (And.intro (fun c1 => (And.intro (Or.inr rfl) (cQ.of (h1 c1)))) (fun c2 => (cC.of (h2 c2))))
set_option maxRecDepth 100000 in
theorem k_62_137 {x1 : Int32} {x2 : Int32} {x3 : Int32} {s0 : Int32}
    (h1 : s0 = 0 → Q (some (.int (0))) (mkH hi hl sw kp))
    (h2 : ¬ (s0 = 0) → (hi 3 2) = (41) → cS (d + 1) 67 [(.ref 3)] (mkH hi hl sw kp) (am_ret (cW cd_62 (d + 1) Q) 170 [some (.ref 18), some (.int x1), some (.int x2), some (.int x3)] []))
    (h3 : ¬ (s0 = 0) → ¬ ((hi 3 2) = (41)) → cS (d + 1) 72 [(.ref 3), (.int (2))] (mkH hi hl sw kp) (am_ret (cW cd_62 (d + 1) Q) 162 [some (.ref 18), some (.int x1), some (.int x2), some (.int x3)] []))
    : cW cd_62 (d + 1) Q 137 [some (.ref 18), some (.int x1), some (.int x2), some (.int x3)] [(.int s0)] (mkH hi hl sw kp) :=
  cW.run (am_in [44, 75, 117, 124, 137, 162, 170]) 10 (And.intro (fun c1 => (And.intro (Or.inl rfl) (cQ.of (h1 c1)))) (fun c2 => (And.intro (fun c3 => (cC.of (h2 c2 c3))) (fun c4 => (cC.of (h3 c2 c4))))))
set_option maxRecDepth 100000 in
theorem k_62_162 {x1 : Int32} {x2 : Int32} {x3 : Int32} {s0 : Int32}
    (h1 : s0 = 0 ∨ s0 = 1)
    (h2 : Q (some (.int s0)) (mkH hi hl sw kp))
    : cW cd_62 (d + 1) Q 162 [some (.ref 18), some (.int x1), some (.int x2), some (.int x3)] [(.int s0)] (mkH hi hl sw kp) :=
  cW.run (am_in [44, 75, 117, 124, 137, 162, 170]) 1 (And.intro (h1) (cQ.of (h2)))
set_option maxRecDepth 100000 in
theorem k_62_170 {x1 : Int32} {x2 : Int32} {x3 : Int32}
    (h1 : Q (some (.int (1))) (mkH hi hl sw kp))
    : cW cd_62 (d + 1) Q 170 [some (.ref 18), some (.int x1), some (.int x2), some (.int x3)] [] (mkH hi hl sw kp) :=
  cW.run (am_in [44, 75, 117, 124, 137, 162, 170]) 2 (And.intro (Or.inr rfl) (cQ.of (h1)))
-- 66: DogDecrees$Reader.begin()V
set_option maxRecDepth 100000 in
theorem k_66_0
    (h1 : cS d 67 [(.ref 3)] (mkH (u2 (u2 (u2 hi 3 7 (0)) 3 8 (-1)) 3 6 (0)) hl sw kp) (am_ret (cW cd_66 d Q) 19 [some (.ref 3)] []))
    : cW cd_66 d Q 0 [some (.ref 3)] [] (mkH hi hl sw kp) :=
  cW.run (am_in [19]) 11 (cC.of (h1))
theorem e_66
    (h1 : cS d 67 [(.ref 3)] (mkH (u2 (u2 (u2 hi 3 7 (0)) 3 8 (-1)) 3 6 (0)) hl sw kp) (am_ret (cW cd_66 d Q) 19 [some (.ref 3)] []))
    : cS (d + 1) 66 [(.ref 3)] (mkH hi hl sw kp) Q := cS.of rfl (k_66_0 h1)
set_option maxRecDepth 100000 in
theorem k_66_19
    (h1 : Q none (mkH hi hl sw kp))
    : cW cd_66 d Q 19 [some (.ref 3)] [] (mkH hi hl sw kp) :=
  cW.run (am_in [19]) 1 (cQ.of (h1))
-- 71: DogDecrees$Reader.passBy(I)Z
set_option maxRecDepth 100000 in
theorem k_71_0 {x1 : Int32}
    (h1 : (hi 3 2) = x1 → cS d 67 [(.ref 3)] (mkH hi hl sw kp) (am_ret (cW cd_71 d Q) 18 [some (.ref 3), some (.int x1)] []))
    (h2 : ¬ ((hi 3 2) = x1) → cS d 72 [(.ref 3), (.int (2))] (mkH hi hl sw kp) (am_ret (cW cd_71 d Q) 13 [some (.ref 3), some (.int x1)] []))
    : cW cd_71 d Q 0 [some (.ref 3), some (.int x1)] [] (mkH hi hl sw kp) :=
  cW.run (am_in [13, 18]) 7 (And.intro (fun c1 => (cC.of (h1 c1))) (fun c2 => (cC.of (h2 c2))))
theorem e_71 {x1 : Int32}
    (h1 : (hi 3 2) = x1 → cS d 67 [(.ref 3)] (mkH hi hl sw kp) (am_ret (cW cd_71 d Q) 18 [some (.ref 3), some (.int x1)] []))
    (h2 : ¬ ((hi 3 2) = x1) → cS d 72 [(.ref 3), (.int (2))] (mkH hi hl sw kp) (am_ret (cW cd_71 d Q) 13 [some (.ref 3), some (.int x1)] []))
    : cS (d + 1) 71 [(.ref 3), (.int x1)] (mkH hi hl sw kp) Q := cS.of rfl (k_71_0 h1 h2)
set_option maxRecDepth 100000 in
theorem k_71_13 {x1 : Int32} {s0 : Int32}
    (h1 : s0 = 0 ∨ s0 = 1)
    (h2 : Q (some (.int s0)) (mkH hi hl sw kp))
    : cW cd_71 d Q 13 [some (.ref 3), some (.int x1)] [(.int s0)] (mkH hi hl sw kp) :=
  cW.run (am_in [13, 18]) 1 (And.intro (h1) (cQ.of (h2)))
set_option maxRecDepth 100000 in
theorem k_71_18 {x1 : Int32}
    (h1 : Q (some (.int (1))) (mkH hi hl sw kp))
    : cW cd_71 d Q 18 [some (.ref 3), some (.int x1)] [] (mkH hi hl sw kp) :=
  cW.run (am_in [13, 18]) 2 (And.intro (Or.inr rfl) (cQ.of (h1)))
-- 81: DogDecrees$State.comeTo(LDogDecrees$Village;I)V
set_option maxRecDepth 100000 in
theorem k_81_0 {x2 : Int32}
    (h1 : vp_in ((hi 28 1) - (hi 28 1) / (60) * (60)) 60)
    (h2 : cS (d + 1) 82 [(.ref 28), (.ref 19), (.int (g_120 ((u2 (u2 hi 28 0 x2) 32 ((hi 28 1) - (hi 28 1) / (60) * (60)).toNatClampNeg x2)) (hi 28 1)))] (mkH (u2 (u2 hi 28 0 x2) 32 ((hi 28 1) - (hi 28 1) / (60) * (60)).toNatClampNeg x2) hl sw kp) (am_ret (cW cd_81 (d + 1) Q) 31 [some (.ref 28), some (.ref 19), some (.int x2)] []))
    : cW cd_81 (d + 1) Q 0 [some (.ref 28), some (.ref 19), some (.int x2)] [] (mkH hi hl sw kp) :=
  cW.run (am_in [31, 60]) 18 (And.intro (show ¬ ((60) : Int32) = 0 by decide +kernel) (And.intro (h1) (cC.of (s_120 (cC.of (h2))))))
theorem e_81 {x2 : Int32}
    (h1 : vp_in ((hi 28 1) - (hi 28 1) / (60) * (60)) 60)
    (h2 : cS (d + 1) 82 [(.ref 28), (.ref 19), (.int (g_120 ((u2 (u2 hi 28 0 x2) 32 ((hi 28 1) - (hi 28 1) / (60) * (60)).toNatClampNeg x2)) (hi 28 1)))] (mkH (u2 (u2 hi 28 0 x2) 32 ((hi 28 1) - (hi 28 1) / (60) * (60)).toNatClampNeg x2) hl sw kp) (am_ret (cW cd_81 (d + 1) Q) 31 [some (.ref 28), some (.ref 19), some (.int x2)] []))
    : cS ((d + 1) + 1) 81 [(.ref 28), (.ref 19), (.int x2)] (mkH hi hl sw kp) Q := cS.of rfl (k_81_0 h1 h2)
set_option maxRecDepth 100000 in
theorem k_81_31 {x2 : Int32}
    (h1 : (g_117 ((u2 hi 28 1 ((hi 28 1) + (1)))) ((hi 28 1) + (1))) = 0 → cS (d + 1) 287 [(.ref 29), (.int (0))] (mkH (u2 hi 28 1 ((hi 28 1) + (1))) hl sw kp) (am_ret (cW cd_81 (d + 1) Q) 60 [some (.ref 28), some (.ref 19), some (.int x2)] []))
    (h2 : ¬ ((g_117 ((u2 hi 28 1 ((hi 28 1) + (1)))) ((hi 28 1) + (1))) = 0) → cW cd_81 (d + 1) Q 60 [some (.ref 28), some (.ref 19), some (.int x2)] [] (mkH (u2 hi 28 1 ((hi 28 1) + (1))) hl sw kp))
    : cW cd_81 (d + 1) Q 31 [some (.ref 28), some (.ref 19), some (.int x2)] [] (mkH hi hl sw kp) :=
  cW.run (am_in [31, 60]) 15 (And.intro rfl (cC.of (s_117 (And.intro (fun c1 => (cC.of (h1 c1))) (fun c2 => (h2 c2))))))
set_option maxRecDepth 100000 in
theorem k_81_60 {x2 : Int32}
    (h1 : Q none (mkH hi hl sw kp))
    : cW cd_81 (d + 1) Q 60 [some (.ref 28), some (.ref 19), some (.int x2)] [] (mkH hi hl sw kp) :=
  cW.run (am_in [31, 60]) 1 (cQ.of (h1))
-- 97: DogDecrees$Telling.tellValue(II)Z
set_option maxRecDepth 100000 in
theorem k_97_0 {x1 : Int32} {x2 : Int32}
    (h1 : (hi 3 2) = (45) → cS d 67 [(.ref 3)] (mkH hi hl sw kp) (am_ret (cW cd_97 d Q) 39 [some (.ref 14), some (.int x1), some (.int x2), some (.int (hi 3 3)), some (.int (1))] []))
    (h2 : ¬ ((hi 3 2) = (45)) → cW cd_97 d Q 39 [some (.ref 14), some (.int x1), some (.int x2), some (.int (hi 3 3)), some (.int (0))] [] (mkH hi hl sw kp))
    : cW cd_97 d Q 0 [some (.ref 14), some (.int x1), some (.int x2), none, none] [] (mkH hi hl sw kp) :=
  cW.run (am_in [39, 58, 79, 112, 119]) 17 (And.intro (Nat.le_of_ble_eq_true rfl) (And.intro (fun c1 => (And.intro (Nat.le_of_ble_eq_true rfl) (And.intro (fun z => absurd (show (1 : Int32) = 0 from z) (by decide)) (fun _ => (cC.of (h1 c1)))))) (fun c2 => (And.intro (Nat.le_of_ble_eq_true rfl) (And.intro (fun _ => (h2 c2)) (fun z => absurd (show (0 : Int32) = 0 by decide) z))))))
theorem e_97 {x1 : Int32} {x2 : Int32}
    (h1 : (hi 3 2) = (45) → cS d 67 [(.ref 3)] (mkH hi hl sw kp) (am_ret (cW cd_97 d Q) 39 [some (.ref 14), some (.int x1), some (.int x2), some (.int (hi 3 3)), some (.int (1))] []))
    (h2 : ¬ ((hi 3 2) = (45)) → cW cd_97 d Q 39 [some (.ref 14), some (.int x1), some (.int x2), some (.int (hi 3 3)), some (.int (0))] [] (mkH hi hl sw kp))
    : cS (d + 1) 97 [(.ref 14), (.int x1), (.int x2)] (mkH hi hl sw kp) Q := cS.of rfl (k_97_0 h1 h2)
set_option maxRecDepth 100000 in
theorem k_97_39 {x1 : Int32} {x2 : Int32} {x3 : Int32} {x4 : Int32}
    (h1 : (hi 3 2) = (3) → (hi 3 4) ≤ (3) → x4 = 0 → cS d 115 [(.ref 5), (.int x1), (.int x2), (.int (hi 3 4))] (mkH hi hl sw kp) (am_ret (cW cd_97 d Q) 112 [some (.ref 14), some (.int x1), some (.int x2), some (.int x3), some (.int x4)] []))
    (h2 : (hi 3 2) = (3) → (hi 3 4) ≤ (3) → ¬ (x4 = 0) → cS d 115 [(.ref 5), (.int x1), (.int x2), (.int (-(hi 3 4)))] (mkH hi hl sw kp) (am_ret (cW cd_97 d Q) 112 [some (.ref 14), some (.int x1), some (.int x2), some (.int x3), some (.int x4)] []))
    (h3 : (hi 3 2) = (3) → ¬ ((hi 3 4) ≤ (3)) → cS d 73 [(.ref 3), (.int (4)), (.int x3)] (mkH hi hl sw kp) (am_ret (cW cd_97 d Q) 79 [some (.ref 14), some (.int x1), some (.int x2), some (.int x3), some (.int x4)] []))
    (h4 : ¬ ((hi 3 2) = (3)) → cS d 72 [(.ref 3), (.int (2))] (mkH hi hl sw kp) (am_ret (cW cd_97 d Q) 58 [some (.ref 14), some (.int x1), some (.int x2), some (.int x3), some (.int x4)] []))
    : cW cd_97 d Q 39 [some (.ref 14), some (.int x1), some (.int x2), some (.int x3), some (.int x4)] [] (mkH hi hl sw kp) :=
  cW.run (am_in [39, 58, 79, 112, 119]) 22 (And.intro (fun c1 => (And.intro (fun c2 => (And.intro (fun c3 => (cC.of (h1 c1 c2 c3))) (fun c4 => (cC.of (h2 c1 c2 c4))))) (fun c5 => (cC.of (h3 c1 c5))))) (fun c6 => (cC.of (h4 c6))))
set_option maxRecDepth 100000 in
theorem k_97_58 {x1 : Int32} {x2 : Int32} {x3 : Int32} {x4 : Int32} {s0 : Int32}
    (h1 : s0 = 0 ∨ s0 = 1)
    (h2 : Q (some (.int s0)) (mkH hi hl sw kp))
    : cW cd_97 d Q 58 [some (.ref 14), some (.int x1), some (.int x2), some (.int x3), some (.int x4)] [(.int s0)] (mkH hi hl sw kp) :=
  cW.run (am_in [39, 58, 79, 112, 119]) 1 (And.intro (h1) (cQ.of (h2)))
set_option maxRecDepth 100000 in
theorem k_97_79 {x1 : Int32} {x2 : Int32} {x3 : Int32} {x4 : Int32} {s0 : Int32}
    (h1 : s0 = 0 ∨ s0 = 1)
    (h2 : Q (some (.int s0)) (mkH hi hl sw kp))
    : cW cd_97 d Q 79 [some (.ref 14), some (.int x1), some (.int x2), some (.int x3), some (.int x4)] [(.int s0)] (mkH hi hl sw kp) :=
  cW.run (am_in [39, 58, 79, 112, 119]) 1 (And.intro (h1) (cQ.of (h2)))
set_option maxRecDepth 100000 in
theorem k_97_112 {x1 : Int32} {x2 : Int32} {x3 : Int32} {x4 : Int32}
    (h1 : cS d 67 [(.ref 3)] (mkH hi hl sw kp) (am_ret (cW cd_97 d Q) 119 [some (.ref 14), some (.int x1), some (.int x2), some (.int x3), some (.int x4)] []))
    : cW cd_97 d Q 112 [some (.ref 14), some (.int x1), some (.int x2), some (.int x3), some (.int x4)] [] (mkH hi hl sw kp) :=
  cW.run (am_in [39, 58, 79, 112, 119]) 3 (cC.of (h1))
set_option maxRecDepth 100000 in
theorem k_97_119 {x1 : Int32} {x2 : Int32} {x3 : Int32} {x4 : Int32}
    (h1 : Q (some (.int (1))) (mkH hi hl sw kp))
    : cW cd_97 d Q 119 [some (.ref 14), some (.int x1), some (.int x2), some (.int x3), some (.int x4)] [] (mkH hi hl sw kp) :=
  cW.run (am_in [39, 58, 79, 112, 119]) 2 (And.intro (Or.inr rfl) (cQ.of (h1)))
-- 99: DogDecrees$Telling.tellStart()Z
set_option maxRecDepth 100000 in
theorem k_99_0
    (h1 : cS d 103 [(.ref 14), (.ref 16), (.int (hi 5 1))] (mkH hi hl sw kp) (am_ret (cW cd_99 d Q) 15 [some (.ref 14), none] []))
    : cW cd_99 d Q 0 [some (.ref 14), none] [] (mkH hi hl sw kp) :=
  cW.run (am_in [15, 38]) 7 (cC.of (h1))
theorem e_99
    (h1 : cS d 103 [(.ref 14), (.ref 16), (.int (hi 5 1))] (mkH hi hl sw kp) (am_ret (cW cd_99 d Q) 15 [some (.ref 14), none] []))
    : cS (d + 1) 99 [(.ref 14)] (mkH hi hl sw kp) Q := cS.of rfl (k_99_0 h1)
set_option maxRecDepth 100000 in
theorem k_99_15 {s0 : Int32}
    (h1 : s0 = (-1) → Q (some (.int (0))) (mkH hi hl sw kp))
    (h2 : ¬ (s0 = (-1)) → cS d 67 [(.ref 3)] (mkH (u2 hi 5 6 s0) hl sw kp) (am_ret (cW cd_99 d Q) 38 [some (.ref 14), some (.int s0)] []))
    : cW cd_99 d Q 15 [some (.ref 14), none] [(.int s0)] (mkH hi hl sw kp) :=
  cW.run (am_in [15, 38]) 11 (And.intro (Nat.le_of_ble_eq_true rfl) (And.intro (fun c1 => (And.intro (Or.inl rfl) (cQ.of (h1 c1)))) (fun c2 => (cC.of (h2 c2)))))
set_option maxRecDepth 100000 in
theorem k_99_38 {x1 : Int32}
    (h1 : Q (some (.int (1))) (mkH hi hl sw kp))
    : cW cd_99 d Q 38 [some (.ref 14), some (.int x1)] [] (mkH hi hl sw kp) :=
  cW.run (am_in [15, 38]) 2 (And.intro (Or.inr rfl) (cQ.of (h1)))
-- 101: DogDecrees$Telling.readNumber(II)I
set_option maxRecDepth 100000 in
theorem k_101_0 {x1 : Int32} {x2 : Int32}
    (h1 : (hi 3 2) = (3) → (g_158 (hi 3 4) x1 x2) = 0 → cS (d + 1) 72 [(.ref 3), (.int (4))] (mkH hi hl sw kp) (am_ret (cW cd_101 (d + 1) Q) 47 [some (.ref 14), some (.int x1), some (.int x2), some (.int (hi 3 4))] []))
    (h2 : (hi 3 2) = (3) → ¬ ((g_158 (hi 3 4) x1 x2) = 0) → cS (d + 1) 67 [(.ref 3)] (mkH hi hl sw kp) (am_ret (cW cd_101 (d + 1) Q) 57 [some (.ref 14), some (.int x1), some (.int x2), some (.int (hi 3 4))] []))
    (h3 : ¬ ((hi 3 2) = (3)) → cS (d + 1) 72 [(.ref 3), (.int (2))] (mkH hi hl sw kp) (am_ret (cW cd_101 (d + 1) Q) 19 [some (.ref 14), some (.int x1), some (.int x2), none] []))
    : cW cd_101 (d + 1) Q 0 [some (.ref 14), some (.int x1), some (.int x2), none] [] (mkH hi hl sw kp) :=
  cW.run (am_in [19, 47, 57]) 18 (And.intro (fun c1 => (And.intro (Nat.le_of_ble_eq_true rfl) (cC.of (s_158 (And.intro (fun c2 => (cC.of (h1 c1 c2))) (fun c3 => (cC.of (h2 c1 c3)))))))) (fun c4 => (cC.of (h3 c4))))
theorem e_101 {x1 : Int32} {x2 : Int32}
    (h1 : (hi 3 2) = (3) → (g_158 (hi 3 4) x1 x2) = 0 → cS (d + 1) 72 [(.ref 3), (.int (4))] (mkH hi hl sw kp) (am_ret (cW cd_101 (d + 1) Q) 47 [some (.ref 14), some (.int x1), some (.int x2), some (.int (hi 3 4))] []))
    (h2 : (hi 3 2) = (3) → ¬ ((g_158 (hi 3 4) x1 x2) = 0) → cS (d + 1) 67 [(.ref 3)] (mkH hi hl sw kp) (am_ret (cW cd_101 (d + 1) Q) 57 [some (.ref 14), some (.int x1), some (.int x2), some (.int (hi 3 4))] []))
    (h3 : ¬ ((hi 3 2) = (3)) → cS (d + 1) 72 [(.ref 3), (.int (2))] (mkH hi hl sw kp) (am_ret (cW cd_101 (d + 1) Q) 19 [some (.ref 14), some (.int x1), some (.int x2), none] []))
    : cS ((d + 1) + 1) 101 [(.ref 14), (.int x1), (.int x2)] (mkH hi hl sw kp) Q := cS.of rfl (k_101_0 h1 h2 h3)
set_option maxRecDepth 100000 in
theorem k_101_19 {x1 : Int32} {x2 : Int32} {s0 : Int32}
    (h1 : Q (some (.int (-1))) (mkH hi hl sw kp))
    : cW cd_101 (d + 1) Q 19 [some (.ref 14), some (.int x1), some (.int x2), none] [(.int s0)] (mkH hi hl sw kp) :=
  cW.run (am_in [19, 47, 57]) 3 (And.intro rfl (cQ.of (h1)))
set_option maxRecDepth 100000 in
theorem k_101_47 {x1 : Int32} {x2 : Int32} {x3 : Int32} {s0 : Int32}
    (h1 : Q (some (.int (-1))) (mkH hi hl sw kp))
    : cW cd_101 (d + 1) Q 47 [some (.ref 14), some (.int x1), some (.int x2), some (.int x3)] [(.int s0)] (mkH hi hl sw kp) :=
  cW.run (am_in [19, 47, 57]) 3 (And.intro rfl (cQ.of (h1)))
set_option maxRecDepth 100000 in
theorem k_101_57 {x1 : Int32} {x2 : Int32} {x3 : Int32}
    (h1 : Q (some (.int x3)) (mkH hi hl sw kp))
    : cW cd_101 (d + 1) Q 57 [some (.ref 14), some (.int x1), some (.int x2), some (.int x3)] [] (mkH hi hl sw kp) :=
  cW.run (am_in [19, 47, 57]) 2 (cQ.of (h1))
-- 102a: DogDecrees$Telling.newName([JI)Z
set_option maxRecDepth 100000 in
theorem k_102a_0 {x2 : Int32}
    (h1 : (hi 3 2) = (2) → x2 < 0 → cS d 72 [(.ref 3), (.int (2))] (mkH hi hl sw kp) (am_ret (cW cd_102 d Q) 29 [some (.ref 14), some (.ref 15), some (.int x2)] []))
    (h2 : (hi 3 2) = (2) → ¬ (x2 < 0) → x2 < (Int32.ofNat 4) → cS d 104 [(.ref 14), (.ref 15), (.int x2)] (mkH hi hl sw kp) (am_ret (cW cd_102 d Q) 36 [some (.ref 14), some (.ref 15), some (.int x2)] []))
    (h3 : (hi 3 2) = (2) → ¬ (x2 < 0) → ¬ (x2 < (Int32.ofNat 4)) → cS d 72 [(.ref 3), (.int (2))] (mkH hi hl sw kp) (am_ret (cW cd_102 d Q) 29 [some (.ref 14), some (.ref 15), some (.int x2)] []))
    (h4 : ¬ ((hi 3 2) = (2)) → cS d 72 [(.ref 3), (.int (2))] (mkH hi hl sw kp) (am_ret (cW cd_102 d Q) 29 [some (.ref 14), some (.ref 15), some (.int x2)] []))
    : cW cd_102 d Q 0 [some (.ref 14), some (.ref 15), some (.int x2)] [] (mkH hi hl sw kp) :=
  cW.run (am_in [29, 36, 48, 66]) 15 (And.intro (fun c1 => (And.intro (fun c2 => (cC.of (h1 c1 c2))) (fun c3 => (And.intro (fun c4 => (cC.of (h2 c1 c3 c4))) (fun c5 => (cC.of (h3 c1 c3 c5))))))) (fun c6 => (cC.of (h4 c6))))
theorem e_102a {x2 : Int32}
    (h1 : (hi 3 2) = (2) → x2 < 0 → cS d 72 [(.ref 3), (.int (2))] (mkH hi hl sw kp) (am_ret (cW cd_102 d Q) 29 [some (.ref 14), some (.ref 15), some (.int x2)] []))
    (h2 : (hi 3 2) = (2) → ¬ (x2 < 0) → x2 < (Int32.ofNat 4) → cS d 104 [(.ref 14), (.ref 15), (.int x2)] (mkH hi hl sw kp) (am_ret (cW cd_102 d Q) 36 [some (.ref 14), some (.ref 15), some (.int x2)] []))
    (h3 : (hi 3 2) = (2) → ¬ (x2 < 0) → ¬ (x2 < (Int32.ofNat 4)) → cS d 72 [(.ref 3), (.int (2))] (mkH hi hl sw kp) (am_ret (cW cd_102 d Q) 29 [some (.ref 14), some (.ref 15), some (.int x2)] []))
    (h4 : ¬ ((hi 3 2) = (2)) → cS d 72 [(.ref 3), (.int (2))] (mkH hi hl sw kp) (am_ret (cW cd_102 d Q) 29 [some (.ref 14), some (.ref 15), some (.int x2)] []))
    : cS (d + 1) 102 [(.ref 14), (.ref 15), (.int x2)] (mkH hi hl sw kp) Q := cS.of rfl (k_102a_0 h1 h2 h3 h4)
set_option maxRecDepth 100000 in
theorem k_102a_29 {x2 : Int32} {s0 : Int32}
    (h1 : s0 = 0 ∨ s0 = 1)
    (h2 : Q (some (.int s0)) (mkH hi hl sw kp))
    : cW cd_102 d Q 29 [some (.ref 14), some (.ref 15), some (.int x2)] [(.int s0)] (mkH hi hl sw kp) :=
  cW.run (am_in [29, 36, 48, 66]) 1 (And.intro (h1) (cQ.of (h2)))
set_option maxRecDepth 100000 in
theorem k_102a_36 {x2 : Int32} {s0 : Int32}
    (h1 : s0 = (-1) → vp_in x2 4)
    (h2 : s0 = (-1) → cS d 67 [(.ref 3)] (mkH hi (u2 hl 15 x2.toNatClampNeg (hl 3 5)) sw kp) (am_ret (cW cd_102 d Q) 66 [some (.ref 14), some (.ref 15), some (.int x2)] []))
    (h3 : ¬ (s0 = (-1)) → cS d 72 [(.ref 3), (.int (3))] (mkH hi hl sw kp) (am_ret (cW cd_102 d Q) 48 [some (.ref 14), some (.ref 15), some (.int x2)] []))
    : cW cd_102 d Q 36 [some (.ref 14), some (.ref 15), some (.int x2)] [(.int s0)] (mkH hi hl sw kp) :=
  cW.run (am_in [29, 36, 48, 66]) 11 (And.intro (fun c1 => (And.intro (h1 c1) (cC.of (h2 c1)))) (fun c2 => (cC.of (h3 c2))))
set_option maxRecDepth 100000 in
theorem k_102a_48 {x2 : Int32} {s0 : Int32}
    (h1 : s0 = 0 ∨ s0 = 1)
    (h2 : Q (some (.int s0)) (mkH hi hl sw kp))
    : cW cd_102 d Q 48 [some (.ref 14), some (.ref 15), some (.int x2)] [(.int s0)] (mkH hi hl sw kp) :=
  cW.run (am_in [29, 36, 48, 66]) 1 (And.intro (h1) (cQ.of (h2)))
set_option maxRecDepth 100000 in
theorem k_102a_66 {x2 : Int32}
    (h1 : Q (some (.int (1))) (mkH hi hl sw kp))
    : cW cd_102 d Q 66 [some (.ref 14), some (.ref 15), some (.int x2)] [] (mkH hi hl sw kp) :=
  cW.run (am_in [29, 36, 48, 66]) 2 (And.intro (Or.inr rfl) (cQ.of (h1)))
-- 102b: DogDecrees$Telling.newName([JI)Z
set_option maxRecDepth 100000 in
theorem k_102b_0 {x2 : Int32}
    (h1 : (hi 3 2) = (2) → x2 < 0 → cS d 72 [(.ref 3), (.int (2))] (mkH hi hl sw kp) (am_ret (cW cd_102 d Q) 29 [some (.ref 14), some (.ref 16), some (.int x2)] []))
    (h2 : (hi 3 2) = (2) → ¬ (x2 < 0) → x2 < (Int32.ofNat 8) → cS d 104 [(.ref 14), (.ref 16), (.int x2)] (mkH hi hl sw kp) (am_ret (cW cd_102 d Q) 36 [some (.ref 14), some (.ref 16), some (.int x2)] []))
    (h3 : (hi 3 2) = (2) → ¬ (x2 < 0) → ¬ (x2 < (Int32.ofNat 8)) → cS d 72 [(.ref 3), (.int (2))] (mkH hi hl sw kp) (am_ret (cW cd_102 d Q) 29 [some (.ref 14), some (.ref 16), some (.int x2)] []))
    (h4 : ¬ ((hi 3 2) = (2)) → cS d 72 [(.ref 3), (.int (2))] (mkH hi hl sw kp) (am_ret (cW cd_102 d Q) 29 [some (.ref 14), some (.ref 16), some (.int x2)] []))
    : cW cd_102 d Q 0 [some (.ref 14), some (.ref 16), some (.int x2)] [] (mkH hi hl sw kp) :=
  cW.run (am_in [29, 36, 48, 66]) 15 (And.intro (fun c1 => (And.intro (fun c2 => (cC.of (h1 c1 c2))) (fun c3 => (And.intro (fun c4 => (cC.of (h2 c1 c3 c4))) (fun c5 => (cC.of (h3 c1 c3 c5))))))) (fun c6 => (cC.of (h4 c6))))
theorem e_102b {x2 : Int32}
    (h1 : (hi 3 2) = (2) → x2 < 0 → cS d 72 [(.ref 3), (.int (2))] (mkH hi hl sw kp) (am_ret (cW cd_102 d Q) 29 [some (.ref 14), some (.ref 16), some (.int x2)] []))
    (h2 : (hi 3 2) = (2) → ¬ (x2 < 0) → x2 < (Int32.ofNat 8) → cS d 104 [(.ref 14), (.ref 16), (.int x2)] (mkH hi hl sw kp) (am_ret (cW cd_102 d Q) 36 [some (.ref 14), some (.ref 16), some (.int x2)] []))
    (h3 : (hi 3 2) = (2) → ¬ (x2 < 0) → ¬ (x2 < (Int32.ofNat 8)) → cS d 72 [(.ref 3), (.int (2))] (mkH hi hl sw kp) (am_ret (cW cd_102 d Q) 29 [some (.ref 14), some (.ref 16), some (.int x2)] []))
    (h4 : ¬ ((hi 3 2) = (2)) → cS d 72 [(.ref 3), (.int (2))] (mkH hi hl sw kp) (am_ret (cW cd_102 d Q) 29 [some (.ref 14), some (.ref 16), some (.int x2)] []))
    : cS (d + 1) 102 [(.ref 14), (.ref 16), (.int x2)] (mkH hi hl sw kp) Q := cS.of rfl (k_102b_0 h1 h2 h3 h4)
set_option maxRecDepth 100000 in
theorem k_102b_29 {x2 : Int32} {s0 : Int32}
    (h1 : s0 = 0 ∨ s0 = 1)
    (h2 : Q (some (.int s0)) (mkH hi hl sw kp))
    : cW cd_102 d Q 29 [some (.ref 14), some (.ref 16), some (.int x2)] [(.int s0)] (mkH hi hl sw kp) :=
  cW.run (am_in [29, 36, 48, 66]) 1 (And.intro (h1) (cQ.of (h2)))
set_option maxRecDepth 100000 in
theorem k_102b_36 {x2 : Int32} {s0 : Int32}
    (h1 : s0 = (-1) → vp_in x2 8)
    (h2 : s0 = (-1) → cS d 67 [(.ref 3)] (mkH hi (u2 hl 16 x2.toNatClampNeg (hl 3 5)) sw kp) (am_ret (cW cd_102 d Q) 66 [some (.ref 14), some (.ref 16), some (.int x2)] []))
    (h3 : ¬ (s0 = (-1)) → cS d 72 [(.ref 3), (.int (3))] (mkH hi hl sw kp) (am_ret (cW cd_102 d Q) 48 [some (.ref 14), some (.ref 16), some (.int x2)] []))
    : cW cd_102 d Q 36 [some (.ref 14), some (.ref 16), some (.int x2)] [(.int s0)] (mkH hi hl sw kp) :=
  cW.run (am_in [29, 36, 48, 66]) 11 (And.intro (fun c1 => (And.intro (h1 c1) (cC.of (h2 c1)))) (fun c2 => (cC.of (h3 c2))))
set_option maxRecDepth 100000 in
theorem k_102b_48 {x2 : Int32} {s0 : Int32}
    (h1 : s0 = 0 ∨ s0 = 1)
    (h2 : Q (some (.int s0)) (mkH hi hl sw kp))
    : cW cd_102 d Q 48 [some (.ref 14), some (.ref 16), some (.int x2)] [(.int s0)] (mkH hi hl sw kp) :=
  cW.run (am_in [29, 36, 48, 66]) 1 (And.intro (h1) (cQ.of (h2)))
set_option maxRecDepth 100000 in
theorem k_102b_66 {x2 : Int32}
    (h1 : Q (some (.int (1))) (mkH hi hl sw kp))
    : cW cd_102 d Q 66 [some (.ref 14), some (.ref 16), some (.int x2)] [] (mkH hi hl sw kp) :=
  cW.run (am_in [29, 36, 48, 66]) 2 (And.intro (Or.inr rfl) (cQ.of (h1)))
-- 102c: DogDecrees$Telling.newName([JI)Z
set_option maxRecDepth 100000 in
theorem k_102c_0 {x2 : Int32}
    (h1 : (hi 3 2) = (2) → x2 < 0 → cS d 72 [(.ref 3), (.int (2))] (mkH hi hl sw kp) (am_ret (cW cd_102 d Q) 29 [some (.ref 14), some (.ref 17), some (.int x2)] []))
    (h2 : (hi 3 2) = (2) → ¬ (x2 < 0) → x2 < (Int32.ofNat 4) → cS d 104 [(.ref 14), (.ref 17), (.int x2)] (mkH hi hl sw kp) (am_ret (cW cd_102 d Q) 36 [some (.ref 14), some (.ref 17), some (.int x2)] []))
    (h3 : (hi 3 2) = (2) → ¬ (x2 < 0) → ¬ (x2 < (Int32.ofNat 4)) → cS d 72 [(.ref 3), (.int (2))] (mkH hi hl sw kp) (am_ret (cW cd_102 d Q) 29 [some (.ref 14), some (.ref 17), some (.int x2)] []))
    (h4 : ¬ ((hi 3 2) = (2)) → cS d 72 [(.ref 3), (.int (2))] (mkH hi hl sw kp) (am_ret (cW cd_102 d Q) 29 [some (.ref 14), some (.ref 17), some (.int x2)] []))
    : cW cd_102 d Q 0 [some (.ref 14), some (.ref 17), some (.int x2)] [] (mkH hi hl sw kp) :=
  cW.run (am_in [29, 36, 48, 66]) 15 (And.intro (fun c1 => (And.intro (fun c2 => (cC.of (h1 c1 c2))) (fun c3 => (And.intro (fun c4 => (cC.of (h2 c1 c3 c4))) (fun c5 => (cC.of (h3 c1 c3 c5))))))) (fun c6 => (cC.of (h4 c6))))
theorem e_102c {x2 : Int32}
    (h1 : (hi 3 2) = (2) → x2 < 0 → cS d 72 [(.ref 3), (.int (2))] (mkH hi hl sw kp) (am_ret (cW cd_102 d Q) 29 [some (.ref 14), some (.ref 17), some (.int x2)] []))
    (h2 : (hi 3 2) = (2) → ¬ (x2 < 0) → x2 < (Int32.ofNat 4) → cS d 104 [(.ref 14), (.ref 17), (.int x2)] (mkH hi hl sw kp) (am_ret (cW cd_102 d Q) 36 [some (.ref 14), some (.ref 17), some (.int x2)] []))
    (h3 : (hi 3 2) = (2) → ¬ (x2 < 0) → ¬ (x2 < (Int32.ofNat 4)) → cS d 72 [(.ref 3), (.int (2))] (mkH hi hl sw kp) (am_ret (cW cd_102 d Q) 29 [some (.ref 14), some (.ref 17), some (.int x2)] []))
    (h4 : ¬ ((hi 3 2) = (2)) → cS d 72 [(.ref 3), (.int (2))] (mkH hi hl sw kp) (am_ret (cW cd_102 d Q) 29 [some (.ref 14), some (.ref 17), some (.int x2)] []))
    : cS (d + 1) 102 [(.ref 14), (.ref 17), (.int x2)] (mkH hi hl sw kp) Q := cS.of rfl (k_102c_0 h1 h2 h3 h4)
set_option maxRecDepth 100000 in
theorem k_102c_29 {x2 : Int32} {s0 : Int32}
    (h1 : s0 = 0 ∨ s0 = 1)
    (h2 : Q (some (.int s0)) (mkH hi hl sw kp))
    : cW cd_102 d Q 29 [some (.ref 14), some (.ref 17), some (.int x2)] [(.int s0)] (mkH hi hl sw kp) :=
  cW.run (am_in [29, 36, 48, 66]) 1 (And.intro (h1) (cQ.of (h2)))
set_option maxRecDepth 100000 in
theorem k_102c_36 {x2 : Int32} {s0 : Int32}
    (h1 : s0 = (-1) → vp_in x2 4)
    (h2 : s0 = (-1) → cS d 67 [(.ref 3)] (mkH hi (u2 hl 17 x2.toNatClampNeg (hl 3 5)) sw kp) (am_ret (cW cd_102 d Q) 66 [some (.ref 14), some (.ref 17), some (.int x2)] []))
    (h3 : ¬ (s0 = (-1)) → cS d 72 [(.ref 3), (.int (3))] (mkH hi hl sw kp) (am_ret (cW cd_102 d Q) 48 [some (.ref 14), some (.ref 17), some (.int x2)] []))
    : cW cd_102 d Q 36 [some (.ref 14), some (.ref 17), some (.int x2)] [(.int s0)] (mkH hi hl sw kp) :=
  cW.run (am_in [29, 36, 48, 66]) 11 (And.intro (fun c1 => (And.intro (h1 c1) (cC.of (h2 c1)))) (fun c2 => (cC.of (h3 c2))))
set_option maxRecDepth 100000 in
theorem k_102c_48 {x2 : Int32} {s0 : Int32}
    (h1 : s0 = 0 ∨ s0 = 1)
    (h2 : Q (some (.int s0)) (mkH hi hl sw kp))
    : cW cd_102 d Q 48 [some (.ref 14), some (.ref 17), some (.int x2)] [(.int s0)] (mkH hi hl sw kp) :=
  cW.run (am_in [29, 36, 48, 66]) 1 (And.intro (h1) (cQ.of (h2)))
set_option maxRecDepth 100000 in
theorem k_102c_66 {x2 : Int32}
    (h1 : Q (some (.int (1))) (mkH hi hl sw kp))
    : cW cd_102 d Q 66 [some (.ref 14), some (.ref 17), some (.int x2)] [] (mkH hi hl sw kp) :=
  cW.run (am_in [29, 36, 48, 66]) 2 (And.intro (Or.inr rfl) (cQ.of (h1)))
-- 121: DogDecrees$Village.pullOf(IIII)I
set_option maxRecDepth 100000 in
theorem k_121_0 {x1 : Int32} {x2 : Int32} {x3 : Int32} {x4 : Int32}
    (h1 : (g_108 hi x1) = 0 → Q (some (.int (0))) (mkH hi hl sw kp))
    (h2 : ¬ ((g_108 hi x1) = 0) → vp_in x1 8)
    (h3 : ¬ ((g_108 hi x1) = 0) → cS (d + 2) 10 [(.ref 25), (.int (hi 20 x1.toNatClampNeg)), (.int x2), (.int (g_117 hi x3)), (.int (g_119 hi x3)), (.int x4)] (mkH hi hl sw kp) (am_ret (cW cd_121 (d + 2) Q) 36 [some (.ref 19), some (.int x1), some (.int x2), some (.int x3), some (.int x4), none] []))
    : cW cd_121 (d + 2) Q 0 [some (.ref 19), some (.int x1), some (.int x2), some (.int x3), some (.int x4), none] [] (mkH hi hl sw kp) :=
  cW.run (am_in [36]) 19 (cC.of (s_108 (And.intro (fun c1 => (cQ.of (h1 c1))) (fun c2 => (And.intro (h2 c2) (cC.of (s_117 (cC.of (s_119 (cC.of (h3 c2)))))))))))
theorem e_121 {x1 : Int32} {x2 : Int32} {x3 : Int32} {x4 : Int32}
    (h1 : (g_108 hi x1) = 0 → Q (some (.int (0))) (mkH hi hl sw kp))
    (h2 : ¬ ((g_108 hi x1) = 0) → vp_in x1 8)
    (h3 : ¬ ((g_108 hi x1) = 0) → cS (d + 2) 10 [(.ref 25), (.int (hi 20 x1.toNatClampNeg)), (.int x2), (.int (g_117 hi x3)), (.int (g_119 hi x3)), (.int x4)] (mkH hi hl sw kp) (am_ret (cW cd_121 (d + 2) Q) 36 [some (.ref 19), some (.int x1), some (.int x2), some (.int x3), some (.int x4), none] []))
    : cS ((d + 2) + 1) 121 [(.ref 19), (.int x1), (.int x2), (.int x3), (.int x4)] (mkH hi hl sw kp) Q := cS.of rfl (k_121_0 h1 h2 h3)
set_option maxRecDepth 100000 in
theorem k_121_36 {x1 : Int32} {x2 : Int32} {x3 : Int32} {x4 : Int32} {s0 : Int32}
    (h1 : Q (some (.int (if (0) < (if s0 < (99) then s0 else (99)) then (if s0 < (99) then s0 else (99)) else (0)))) (mkH hi hl sw kp))
    : cW cd_121 (d + 2) Q 36 [some (.ref 19), some (.int x1), some (.int x2), some (.int x3), some (.int x4), none] [(.int s0)] (mkH hi hl sw kp) :=
  cW.run (am_in [36]) 7 (And.intro (Nat.le_of_ble_eq_true rfl) (cQ.of (h1)))
-- 177: DogDecreesModel.told(JII)I
set_option maxRecDepth 100000 in
theorem k_177_0 {x1 : Int64} {x3 : Int32} {x4 : Int32}
    (h1 : cS d 175 [(.ref 279), (.long x1)] (mkH hi hl sw kp) (am_ret (cW cd_177 d Q) 5 [some (.ref 279), some (.long x1), none, some (.int x3), some (.int x4)] []))
    : cW cd_177 d Q 0 [some (.ref 279), some (.long x1), none, some (.int x3), some (.int x4)] [] (mkH hi hl sw kp) :=
  cW.run (am_in [5, 12]) 3 (cC.of (h1))
theorem e_177 {x1 : Int64} {x3 : Int32} {x4 : Int32}
    (h1 : cS d 175 [(.ref 279), (.long x1)] (mkH hi hl sw kp) (am_ret (cW cd_177 d Q) 5 [some (.ref 279), some (.long x1), none, some (.int x3), some (.int x4)] []))
    : cS (d + 1) 177 [(.ref 279), (.long x1), (.int x3), (.int x4)] (mkH hi hl sw kp) Q := cS.of rfl (k_177_0 h1)
set_option maxRecDepth 100000 in
theorem k_177_5 {x1 : Int64} {x3 : Int32} {x4 : Int32}
    (h1 : cS d 176 [(.ref 279), (.int x3), (.int x4)] (mkH hi hl sw kp) (am_ret (cW cd_177 d Q) 12 [some (.ref 279), some (.long x1), none, some (.int x3), some (.int x4)] []))
    : cW cd_177 d Q 5 [some (.ref 279), some (.long x1), none, some (.int x3), some (.int x4)] [] (mkH hi hl sw kp) :=
  cW.run (am_in [5, 12]) 4 (cC.of (h1))
set_option maxRecDepth 100000 in
theorem k_177_12 {x1 : Int64} {x3 : Int32} {x4 : Int32} {s0 : Int32}
    (h1 : Q (some (.int s0)) (mkH hi hl sw kp))
    : cW cd_177 d Q 12 [some (.ref 279), some (.long x1), none, some (.int x3), some (.int x4)] [(.int s0)] (mkH hi hl sw kp) :=
  cW.run (am_in [5, 12]) 1 (cQ.of (h1))
-- 190: DogDecreesModel.unit()V
set_option maxRecDepth 100000 in
theorem k_190_0
    (h1 : cW cd_190 (d + 2) Q 2 [some (.ref 279), some (.int (1)), none] [] (mkH hi hl sw kp))
    : cW cd_190 (d + 2) Q 0 [some (.ref 279), none, none] [] (mkH hi hl sw kp) :=
  cW.run (am_in [2, 44, 50, 83, 87, 93, 138, 150, 175, 179]) 2 (And.intro (Nat.le_of_ble_eq_true rfl) (h1))
theorem e_190
    (h1 : cW cd_190 (d + 2) Q 2 [some (.ref 279), some (.int (1)), none] [] (mkH hi hl sw kp))
    : cS ((d + 2) + 1) 190 [(.ref 279)] (mkH hi hl sw kp) Q := cS.of rfl (k_190_0 h1)
set_option maxRecDepth 100000 in
theorem k_190_2 {x1 : Int32}
    (h1 : x1 = 0 → (hi 279 2) ≤ 0 → (hi 279 6) = (2) → (g_187 hi) = 0 → cW cd_190 (d + 2) Q 138 [some (.ref 279), some (.int x1), some (.int (g_186 hi hl))] [] (mkH hi hl sw kp))
    (h2 : x1 = 0 → (hi 279 2) ≤ 0 → (hi 279 6) = (2) → ¬ ((g_187 hi) = 0) → cS (d + 2) 171 [(.ref 279), (.int (2))] (mkH hi hl sw kp) (am_ret (cW cd_190 (d + 2) Q) 138 [some (.ref 279), some (.int x1), some (.int (g_186 hi hl))] []))
    (h3 : x1 = 0 → (hi 279 2) ≤ 0 → ¬ ((hi 279 6) = (2)) → (g_186 hi hl) < 0 → cS (d + 2) 171 [(.ref 279), (.int (2))] (mkH hi hl sw kp) (am_ret (cW cd_190 (d + 2) Q) 138 [some (.ref 279), some (.int x1), some (.int (g_186 hi hl))] []))
    (h4 : x1 = 0 → (hi 279 2) ≤ 0 → ¬ ((hi 279 6) = (2)) → ¬ ((g_186 hi hl) < 0) → (g_187 hi) = 0 → cW cd_190 (d + 2) Q 138 [some (.ref 279), some (.int x1), some (.int (g_186 hi hl))] [] (mkH hi hl sw kp))
    (h5 : x1 = 0 → (hi 279 2) ≤ 0 → ¬ ((hi 279 6) = (2)) → ¬ ((g_186 hi hl) < 0) → ¬ ((g_187 hi) = 0) → cS (d + 2) 171 [(.ref 279), (.int (2))] (mkH hi hl sw kp) (am_ret (cW cd_190 (d + 2) Q) 138 [some (.ref 279), some (.int x1), some (.int (g_186 hi hl))] []))
    (h6 : x1 = 0 → ¬ ((hi 279 2) ≤ 0) → Q none (mkH hi hl sw kp))
    (h7 : ¬ (x1 = 0) → (hi 279 2) = 0 → (g_172 hi hl (7237492 : Int64)) = 0 → (hi 279 6) = (40) → (g_187 hi) = 0 → (hi 279 23) ≤ (6) → cW cd_190 (d + 2) Q 83 [some (.ref 279), some (.int x1), none] [] (mkH hi hl sw kp))
    (h8 : ¬ (x1 = 0) → (hi 279 2) = 0 → (g_172 hi hl (7237492 : Int64)) = 0 → (hi 279 6) = (40) → (g_187 hi) = 0 → ¬ ((hi 279 23) ≤ (6)) → cS (d + 2) 171 [(.ref 279), (.int (2))] (mkH hi hl sw kp) (am_ret (cW cd_190 (d + 2) Q) 83 [some (.ref 279), some (.int x1), none] []))
    (h9 : ¬ (x1 = 0) → (hi 279 2) = 0 → (g_172 hi hl (7237492 : Int64)) = 0 → (hi 279 6) = (40) → ¬ ((g_187 hi) = 0) → cS (d + 2) 171 [(.ref 279), (.int (2))] (mkH hi hl sw kp) (am_ret (cW cd_190 (d + 2) Q) 83 [some (.ref 279), some (.int x1), none] []))
    (h10 : ¬ (x1 = 0) → (hi 279 2) = 0 → (g_172 hi hl (7237492 : Int64)) = 0 → ¬ ((hi 279 6) = (40)) → cW cd_190 (d + 2) Q 2 [some (.ref 279), some (.int (0)), none] [] (mkH hi hl sw kp))
    (h11 : ¬ (x1 = 0) → (hi 279 2) = 0 → ¬ ((g_172 hi hl (7237492 : Int64)) = 0) → ¬ ((hi 279 19) = 0) → vp_in ((hi 279 19) - (1)) 160)
    (h12 : ¬ (x1 = 0) → (hi 279 2) = 0 → ¬ ((g_172 hi hl (7237492 : Int64)) = 0) → (g_185 hi) = 0 → (hi 279 6) = (40) → (g_187 hi) = 0 → (hi 279 23) ≤ (6) → cW cd_190 (d + 2) Q 83 [some (.ref 279), some (.int x1), none] [] (mkH hi hl sw kp))
    (h13 : ¬ (x1 = 0) → (hi 279 2) = 0 → ¬ ((g_172 hi hl (7237492 : Int64)) = 0) → (g_185 hi) = 0 → (hi 279 6) = (40) → (g_187 hi) = 0 → ¬ ((hi 279 23) ≤ (6)) → cS (d + 2) 171 [(.ref 279), (.int (2))] (mkH hi hl sw kp) (am_ret (cW cd_190 (d + 2) Q) 83 [some (.ref 279), some (.int x1), none] []))
    (h14 : ¬ (x1 = 0) → (hi 279 2) = 0 → ¬ ((g_172 hi hl (7237492 : Int64)) = 0) → (g_185 hi) = 0 → (hi 279 6) = (40) → ¬ ((g_187 hi) = 0) → cS (d + 2) 171 [(.ref 279), (.int (2))] (mkH hi hl sw kp) (am_ret (cW cd_190 (d + 2) Q) 83 [some (.ref 279), some (.int x1), none] []))
    (h15 : ¬ (x1 = 0) → (hi 279 2) = 0 → ¬ ((g_172 hi hl (7237492 : Int64)) = 0) → (g_185 hi) = 0 → ¬ ((hi 279 6) = (40)) → cW cd_190 (d + 2) Q 2 [some (.ref 279), some (.int (0)), none] [] (mkH hi hl sw kp))
    (h16 : ¬ (x1 = 0) → (hi 279 2) = 0 → ¬ ((g_172 hi hl (7237492 : Int64)) = 0) → ¬ ((g_185 hi) = 0) → (hi 279 23) ≤ (6) → cW cd_190 (d + 2) Q 44 [some (.ref 279), some (.int x1), none] [] (mkH hi hl sw kp))
    (h17 : ¬ (x1 = 0) → (hi 279 2) = 0 → ¬ ((g_172 hi hl (7237492 : Int64)) = 0) → ¬ ((g_185 hi) = 0) → ¬ ((hi 279 23) ≤ (6)) → cS (d + 2) 171 [(.ref 279), (.int (2))] (mkH hi hl sw kp) (am_ret (cW cd_190 (d + 2) Q) 44 [some (.ref 279), some (.int x1), none] []))
    (h18 : ¬ (x1 = 0) → ¬ ((hi 279 2) = 0) → (hi 279 2) ≤ 0 → (hi 279 6) = (2) → (g_187 hi) = 0 → cW cd_190 (d + 2) Q 138 [some (.ref 279), some (.int x1), some (.int (g_186 hi hl))] [] (mkH hi hl sw kp))
    (h19 : ¬ (x1 = 0) → ¬ ((hi 279 2) = 0) → (hi 279 2) ≤ 0 → (hi 279 6) = (2) → ¬ ((g_187 hi) = 0) → cS (d + 2) 171 [(.ref 279), (.int (2))] (mkH hi hl sw kp) (am_ret (cW cd_190 (d + 2) Q) 138 [some (.ref 279), some (.int x1), some (.int (g_186 hi hl))] []))
    (h20 : ¬ (x1 = 0) → ¬ ((hi 279 2) = 0) → (hi 279 2) ≤ 0 → ¬ ((hi 279 6) = (2)) → (g_186 hi hl) < 0 → cS (d + 2) 171 [(.ref 279), (.int (2))] (mkH hi hl sw kp) (am_ret (cW cd_190 (d + 2) Q) 138 [some (.ref 279), some (.int x1), some (.int (g_186 hi hl))] []))
    (h21 : ¬ (x1 = 0) → ¬ ((hi 279 2) = 0) → (hi 279 2) ≤ 0 → ¬ ((hi 279 6) = (2)) → ¬ ((g_186 hi hl) < 0) → (g_187 hi) = 0 → cW cd_190 (d + 2) Q 138 [some (.ref 279), some (.int x1), some (.int (g_186 hi hl))] [] (mkH hi hl sw kp))
    (h22 : ¬ (x1 = 0) → ¬ ((hi 279 2) = 0) → (hi 279 2) ≤ 0 → ¬ ((hi 279 6) = (2)) → ¬ ((g_186 hi hl) < 0) → ¬ ((g_187 hi) = 0) → cS (d + 2) 171 [(.ref 279), (.int (2))] (mkH hi hl sw kp) (am_ret (cW cd_190 (d + 2) Q) 138 [some (.ref 279), some (.int x1), some (.int (g_186 hi hl))] []))
    (h23 : ¬ (x1 = 0) → ¬ ((hi 279 2) = 0) → ¬ ((hi 279 2) ≤ 0) → Q none (mkH hi hl sw kp))
    : cW cd_190 (d + 2) Q 2 [some (.ref 279), some (.int x1), none] [] (mkH hi hl sw kp) :=
  cW.run (am_in [2, 44, 50, 83, 87, 93, 138, 150, 175, 179]) 26 (And.intro (fun c1 => (And.intro (fun c2 => (cC.of (s_186 (And.intro (Nat.le_of_ble_eq_true rfl) (And.intro (fun c3 => (cC.of (s_187 (And.intro (fun c4 => (h1 c1 c2 c3 c4)) (fun c5 => (cC.of (h2 c1 c2 c3 c5))))))) (fun c6 => (And.intro (fun c7 => (cC.of (h3 c1 c2 c6 c7))) (fun c8 => (cC.of (s_187 (And.intro (fun c9 => (h4 c1 c2 c6 c8 c9)) (fun c10 => (cC.of (h5 c1 c2 c6 c8 c10)))))))))))))) (fun c11 => (cQ.of (h6 c1 c11))))) (fun c12 => (And.intro (fun c13 => (cC.of (s_172 (And.intro (fun c14 => (And.intro (fun c15 => (cC.of (s_187 (And.intro (fun c16 => (And.intro (fun c17 => (h7 c12 c13 c14 c15 c16 c17)) (fun c18 => (cC.of (h8 c12 c13 c14 c15 c16 c18))))) (fun c19 => (cC.of (h9 c12 c13 c14 c15 c19))))))) (fun c20 => (And.intro (Nat.le_of_ble_eq_true rfl) (h10 c12 c13 c14 c20))))) (fun c21 => (cC.of (s_185 (h11 c12 c13 c21) (And.intro (fun c22 => (And.intro (fun c23 => (cC.of (s_187 (And.intro (fun c24 => (And.intro (fun c25 => (h12 c12 c13 c21 c22 c23 c24 c25)) (fun c26 => (cC.of (h13 c12 c13 c21 c22 c23 c24 c26))))) (fun c27 => (cC.of (h14 c12 c13 c21 c22 c23 c27))))))) (fun c28 => (And.intro (Nat.le_of_ble_eq_true rfl) (h15 c12 c13 c21 c22 c28))))) (fun c29 => (And.intro (fun c30 => (h16 c12 c13 c21 c29 c30)) (fun c31 => (cC.of (h17 c12 c13 c21 c29 c31))))))))))))) (fun c32 => (And.intro (fun c33 => (cC.of (s_186 (And.intro (Nat.le_of_ble_eq_true rfl) (And.intro (fun c34 => (cC.of (s_187 (And.intro (fun c35 => (h18 c12 c32 c33 c34 c35)) (fun c36 => (cC.of (h19 c12 c32 c33 c34 c36))))))) (fun c37 => (And.intro (fun c38 => (cC.of (h20 c12 c32 c33 c37 c38))) (fun c39 => (cC.of (s_187 (And.intro (fun c40 => (h21 c12 c32 c33 c37 c39 c40)) (fun c41 => (cC.of (h22 c12 c32 c33 c37 c39 c41)))))))))))))) (fun c42 => (cQ.of (h23 c12 c32 c42))))))))
set_option maxRecDepth 100000 in
theorem k_190_44 {x1 : Int32}
    (h1 : cS (d + 2) 189 [(.ref 279), (.int (21))] (mkH hi hl sw kp) (am_ret (cW cd_190 (d + 2) Q) 50 [some (.ref 279), some (.int x1), none] []))
    : cW cd_190 (d + 2) Q 44 [some (.ref 279), some (.int x1), none] [] (mkH hi hl sw kp) :=
  cW.run (am_in [2, 44, 50, 83, 87, 93, 138, 150, 175, 179]) 3 (cC.of (h1))
set_option maxRecDepth 100000 in
theorem k_190_50 {x1 : Int32}
    (h1 : cW cd_190 (d + 2) Q 2 [some (.ref 279), some (.int x1), none] [] (mkH hi hl sw kp))
    : cW cd_190 (d + 2) Q 50 [some (.ref 279), some (.int x1), none] [] (mkH hi hl sw kp) :=
  cW.run (am_in [2, 44, 50, 83, 87, 93, 138, 150, 175, 179]) 1 (h1)
set_option maxRecDepth 100000 in
theorem k_190_83 {x1 : Int32}
    (h1 : cS (d + 2) 188 [(.ref 279)] (mkH hi hl sw kp) (am_ret (cW cd_190 (d + 2) Q) 87 [some (.ref 279), some (.int x1), none] []))
    : cW cd_190 (d + 2) Q 83 [some (.ref 279), some (.int x1), none] [] (mkH hi hl sw kp) :=
  cW.run (am_in [2, 44, 50, 83, 87, 93, 138, 150, 175, 179]) 2 (cC.of (h1))
set_option maxRecDepth 100000 in
theorem k_190_87 {x1 : Int32}
    (h1 : cS (d + 2) 189 [(.ref 279), (.int (20))] (mkH hi hl sw kp) (am_ret (cW cd_190 (d + 2) Q) 93 [some (.ref 279), some (.int x1), none] []))
    : cW cd_190 (d + 2) Q 87 [some (.ref 279), some (.int x1), none] [] (mkH hi hl sw kp) :=
  cW.run (am_in [2, 44, 50, 83, 87, 93, 138, 150, 175, 179]) 3 (cC.of (h1))
set_option maxRecDepth 100000 in
theorem k_190_93 {x1 : Int32}
    (h1 : cW cd_190 (d + 2) Q 2 [some (.ref 279), some (.int x1), none] [] (mkH hi hl sw kp))
    : cW cd_190 (d + 2) Q 93 [some (.ref 279), some (.int x1), none] [] (mkH hi hl sw kp) :=
  cW.run (am_in [2, 44, 50, 83, 87, 93, 138, 150, 175, 179]) 1 (h1)
set_option maxRecDepth 100000 in
theorem k_190_138 {x1 : Int32} {x2 : Int32}
    (h1 : (hi 279 2) ≤ 0 → cS (d + 2) 188 [(.ref 279)] (mkH hi hl sw kp) (am_ret (cW cd_190 (d + 2) Q) 150 [some (.ref 279), some (.int x1), some (.int x2)] []))
    (h2 : ¬ ((hi 279 2) ≤ 0) → Q none (mkH hi hl sw kp))
    : cW cd_190 (d + 2) Q 138 [some (.ref 279), some (.int x1), some (.int x2)] [] (mkH hi hl sw kp) :=
  cW.run (am_in [2, 44, 50, 83, 87, 93, 138, 150, 175, 179]) 5 (And.intro (fun c1 => (cC.of (h1 c1))) (fun c2 => (cQ.of (h2 c2))))
set_option maxRecDepth 100000 in
theorem k_190_150 {x1 : Int32} {x2 : Int32}
    (h1 : 0 ≤ x2 → 0 ≤ x2 → cS (d + 2) 181 [(.ref 279), (.int (1)), (.int x2)] (mkH hi hl sw kp) (am_ret (cW cd_190 (d + 2) Q) 175 [some (.ref 279), some (.int x1), some (.int x2)] []))
    (h2 : 0 ≤ x2 → ¬ (0 ≤ x2) → cS (d + 2) 181 [(.ref 279), (.int (1)), (.int (hi 279 8))] (mkH hi hl sw kp) (am_ret (cW cd_190 (d + 2) Q) 175 [some (.ref 279), some (.int x1), some (.int x2)] []))
    (h3 : ¬ (0 ≤ x2) → 0 ≤ x2 → cS (d + 2) 181 [(.ref 279), (.int (0)), (.int x2)] (mkH hi hl sw kp) (am_ret (cW cd_190 (d + 2) Q) 175 [some (.ref 279), some (.int x1), some (.int x2)] []))
    (h4 : ¬ (0 ≤ x2) → ¬ (0 ≤ x2) → cS (d + 2) 181 [(.ref 279), (.int (0)), (.int (hi 279 8))] (mkH hi hl sw kp) (am_ret (cW cd_190 (d + 2) Q) 175 [some (.ref 279), some (.int x1), some (.int x2)] []))
    : cW cd_190 (d + 2) Q 150 [some (.ref 279), some (.int x1), some (.int x2)] [] (mkH hi hl sw kp) :=
  cW.run (am_in [2, 44, 50, 83, 87, 93, 138, 150, 175, 179]) 11 (And.intro (fun c1 => (And.intro (fun c2 => (cC.of (h1 c1 c2))) (fun c3 => (cC.of (h2 c1 c3))))) (fun c4 => (And.intro (fun c5 => (cC.of (h3 c4 c5))) (fun c6 => (cC.of (h4 c4 c6))))))
set_option maxRecDepth 100000 in
theorem k_190_175 {x1 : Int32} {x2 : Int32}
    (h1 : cS (d + 2) 170 [(.ref 279)] (mkH hi hl sw kp) (am_ret (cW cd_190 (d + 2) Q) 179 [some (.ref 279), some (.int x1), some (.int x2)] []))
    : cW cd_190 (d + 2) Q 175 [some (.ref 279), some (.int x1), some (.int x2)] [] (mkH hi hl sw kp) :=
  cW.run (am_in [2, 44, 50, 83, 87, 93, 138, 150, 175, 179]) 2 (cC.of (h1))
set_option maxRecDepth 100000 in
theorem k_190_179 {x1 : Int32} {x2 : Int32}
    (h1 : Q none (mkH hi hl sw kp))
    : cW cd_190 (d + 2) Q 179 [some (.ref 279), some (.int x1), some (.int x2)] [] (mkH hi hl sw kp) :=
  cW.run (am_in [2, 44, 50, 83, 87, 93, 138, 150, 175, 179]) 1 (cQ.of (h1))
-- 197: DogDecreesModel.readDeed()V
set_option maxRecDepth 100000 in
theorem k_197_0
    (h1 : cS d 179 [(.ref 279), (.int (0)), (.int (hi 279 35))] (mkH hi hl sw kp) (am_ret (cW cd_197 d Q) 9 [some (.ref 279), none] []))
    : cW cd_197 d Q 0 [some (.ref 279), none] [] (mkH hi hl sw kp) :=
  cW.run (am_in [9, 19]) 5 (cC.of (h1))
theorem e_197
    (h1 : cS d 179 [(.ref 279), (.int (0)), (.int (hi 279 35))] (mkH hi hl sw kp) (am_ret (cW cd_197 d Q) 9 [some (.ref 279), none] []))
    : cS (d + 1) 197 [(.ref 279)] (mkH hi hl sw kp) Q := cS.of rfl (k_197_0 h1)
set_option maxRecDepth 100000 in
theorem k_197_9
    (h1 : (hi 279 2) ≤ 0 → cW cd_197 d Q 19 [some (.ref 279), some (.int (0))] [] (mkH hi hl sw kp))
    (h2 : ¬ ((hi 279 2) ≤ 0) → Q none (mkH hi hl sw kp))
    : cW cd_197 d Q 9 [some (.ref 279), none] [] (mkH hi hl sw kp) :=
  cW.run (am_in [9, 19]) 5 (And.intro (fun c1 => (And.intro (Nat.le_of_ble_eq_true rfl) (h1 c1))) (fun c2 => (cQ.of (h2 c2))))
set_option maxRecDepth 100000 in
theorem k_197_19 {x1 : Int32}
    (h1 : (4) ≤ x1 → Q none (mkH (u2 hi 279 35 ((hi 279 35) + (1))) hl sw kp))
    (h2 : ¬ ((4) ≤ x1) → vp_in (((4) * (hi 279 35)) + x1) 16)
    (h3 : ¬ ((4) ≤ x1) → cW cd_197 d Q 19 [some (.ref 279), some (.int (x1 + (1)))] [] (mkH (u2 hi 293 (((4) * (hi 279 35)) + x1).toNatClampNeg (-1000000)) hl sw kp))
    : cW cd_197 d Q 19 [some (.ref 279), some (.int x1)] [] (mkH hi hl sw kp) :=
  cW.run (am_in [9, 19]) 15 (And.intro (fun c1 => (And.intro rfl (cQ.of (h1 c1)))) (fun c2 => (And.intro (h2 c2) (And.intro (Nat.le_of_ble_eq_true rfl) (h3 c2)))))
-- 199: DogDecreesModel.readPath()V
set_option maxRecDepth 100000 in
theorem k_199_0
    (h1 : cS d 170 [(.ref 279)] (mkH hi hl sw kp) (am_ret (cW cd_199 d Q) 4 [some (.ref 279), none, none] []))
    : cW cd_199 d Q 0 [some (.ref 279), none, none] [] (mkH hi hl sw kp) :=
  cW.run (am_in [4, 13, 25, 32, 41, 73, 119]) 2 (cC.of (h1))
theorem e_199
    (h1 : cS d 170 [(.ref 279)] (mkH hi hl sw kp) (am_ret (cW cd_199 d Q) 4 [some (.ref 279), none, none] []))
    : cS (d + 1) 199 [(.ref 279)] (mkH hi hl sw kp) Q := cS.of rfl (k_199_0 h1)
set_option maxRecDepth 100000 in
theorem k_199_4
    (h1 : cS d 180 [(.ref 279), (.int (4)), (.int (hi 279 36))] (mkH hi hl sw kp) (am_ret (cW cd_199 d Q) 13 [some (.ref 279), none, none] []))
    : cW cd_199 d Q 4 [some (.ref 279), none, none] [] (mkH hi hl sw kp) :=
  cW.run (am_in [4, 13, 25, 32, 41, 73, 119]) 5 (cC.of (h1))
set_option maxRecDepth 100000 in
theorem k_199_13 {s0 : Int32}
    (h1 : (hi 279 2) = 0 → cS d 170 [(.ref 279)] (mkH hi hl sw kp) (am_ret (cW cd_199 d Q) 25 [some (.ref 279), some (.int s0), none] []))
    (h2 : ¬ ((hi 279 2) = 0) → cW cd_199 d Q 25 [some (.ref 279), some (.int s0), none] [] (mkH hi hl sw kp))
    : cW cd_199 d Q 13 [some (.ref 279), none, none] [(.int s0)] (mkH hi hl sw kp) :=
  cW.run (am_in [4, 13, 25, 32, 41, 73, 119]) 6 (And.intro (Nat.le_of_ble_eq_true rfl) (And.intro (fun c1 => (cC.of (h1 c1))) (fun c2 => (h2 c2))))
set_option maxRecDepth 100000 in
theorem k_199_25 {x1 : Int32}
    (h1 : cS d 175 [(.ref 279), (.long (29807))] (mkH hi hl sw kp) (am_ret (cW cd_199 d Q) 32 [some (.ref 279), some (.int x1), none] []))
    : cW cd_199 d Q 25 [some (.ref 279), some (.int x1), none] [] (mkH hi hl sw kp) :=
  cW.run (am_in [4, 13, 25, 32, 41, 73, 119]) 3 (cC.of (h1))
set_option maxRecDepth 100000 in
theorem k_199_32 {x1 : Int32}
    (h1 : cS d 180 [(.ref 279), (.int (4)), (.int (hi 279 36))] (mkH hi hl sw kp) (am_ret (cW cd_199 d Q) 41 [some (.ref 279), some (.int x1), none] []))
    : cW cd_199 d Q 32 [some (.ref 279), some (.int x1), none] [] (mkH hi hl sw kp) :=
  cW.run (am_in [4, 13, 25, 32, 41, 73, 119]) 5 (cC.of (h1))
set_option maxRecDepth 100000 in
theorem k_199_41 {x1 : Int32} {s0 : Int32}
    (h1 : (hi 279 2) = 0 → x1 = s0 → cS d 171 [(.ref 279), (.int (3))] (mkH hi hl sw kp) (am_ret (cW cd_199 d Q) 73 [some (.ref 279), some (.int x1), some (.int s0)] []))
    (h2 : (hi 279 2) = 0 → ¬ (x1 = s0) → vp_in x1 8)
    (h3 : (hi 279 2) = 0 → ¬ (x1 = s0) → (((hi 291 x1.toNatClampNeg) >>> (s0 &&& 31)) &&& (1)) = (1) → cS d 171 [(.ref 279), (.int (3))] (mkH hi hl sw kp) (am_ret (cW cd_199 d Q) 73 [some (.ref 279), some (.int x1), some (.int s0)] []))
    (h4 : (hi 279 2) = 0 → ¬ (x1 = s0) → ¬ ((((hi 291 x1.toNatClampNeg) >>> (s0 &&& 31)) &&& (1)) = (1)) → cW cd_199 d Q 73 [some (.ref 279), some (.int x1), some (.int s0)] [] (mkH hi hl sw kp))
    (h5 : ¬ ((hi 279 2) = 0) → cW cd_199 d Q 73 [some (.ref 279), some (.int x1), some (.int s0)] [] (mkH hi hl sw kp))
    : cW cd_199 d Q 41 [some (.ref 279), some (.int x1), none] [(.int s0)] (mkH hi hl sw kp) :=
  cW.run (am_in [4, 13, 25, 32, 41, 73, 119]) 20 (And.intro (Nat.le_of_ble_eq_true rfl) (And.intro (fun c1 => (And.intro (fun c2 => (cC.of (h1 c1 c2))) (fun c3 => (And.intro (h2 c1 c3) (And.intro (fun c4 => (cC.of (h3 c1 c3 c4))) (fun c5 => (h4 c1 c3 c5))))))) (fun c6 => (h5 c6))))
set_option maxRecDepth 100000 in
theorem k_199_73 {x1 : Int32} {x2 : Int32}
    (h1 : (hi 279 2) ≤ 0 → vp_in x1 8)
    (h2 : (hi 279 2) ≤ 0 → vp_in x2 8)
    (h3 : (hi 279 2) ≤ 0 → cS d 170 [(.ref 279)] (mkH (u2 (u2 (u2 hi 291 x1.toNatClampNeg ((hi 291 x1.toNatClampNeg) ||| ((1) <<< (x2 &&& 31)))) 291 x2.toNatClampNeg (((u2 hi 291 x1.toNatClampNeg ((hi 291 x1.toNatClampNeg) ||| ((1) <<< (x2 &&& 31)))) 291 x2.toNatClampNeg) ||| ((1) <<< (x1 &&& 31)))) 279 37 ((hi 279 37) + (1))) hl sw kp) (am_ret (cW cd_199 d Q) 119 [some (.ref 279), some (.int x1), some (.int x2)] []))
    (h4 : ¬ ((hi 279 2) ≤ 0) → Q none (mkH hi hl sw kp))
    : cW cd_199 d Q 73 [some (.ref 279), some (.int x1), some (.int x2)] [] (mkH hi hl sw kp) :=
  cW.run (am_in [4, 13, 25, 32, 41, 73, 119]) 31 (And.intro (fun c1 => (And.intro rfl (And.intro rfl (And.intro (h1 c1) (And.intro (h1 c1) (And.intro rfl (And.intro rfl (And.intro (h2 c1) (And.intro (h2 c1) (And.intro rfl (cC.of (h3 c1)))))))))))) (fun c2 => (cQ.of (h4 c2))))
set_option maxRecDepth 100000 in
theorem k_199_119 {x1 : Int32} {x2 : Int32}
    (h1 : Q none (mkH hi hl sw kp))
    : cW cd_199 d Q 119 [some (.ref 279), some (.int x1), some (.int x2)] [] (mkH hi hl sw kp) :=
  cW.run (am_in [4, 13, 25, 32, 41, 73, 119]) 1 (cQ.of (h1))
-- 201: DogDecreesModel.readWhen()V
set_option maxRecDepth 100000 in
theorem k_201_0
    (h1 : cS d 170 [(.ref 279)] (mkH hi hl sw kp) (am_ret (cW cd_201 d Q) 4 [some (.ref 279), none, none, none, none, none] []))
    : cW cd_201 d Q 0 [some (.ref 279), none, none, none, none, none] [] (mkH hi hl sw kp) :=
  cW.run (am_in [4, 13, 25, 35, 64, 75, 113, 119]) 2 (cC.of (h1))
theorem e_201
    (h1 : cS d 170 [(.ref 279)] (mkH hi hl sw kp) (am_ret (cW cd_201 d Q) 4 [some (.ref 279), none, none, none, none, none] []))
    : cS (d + 1) 201 [(.ref 279)] (mkH hi hl sw kp) Q := cS.of rfl (k_201_0 h1)
set_option maxRecDepth 100000 in
theorem k_201_4
    (h1 : cS d 180 [(.ref 279), (.int (0)), (.int (hi 279 35))] (mkH hi hl sw kp) (am_ret (cW cd_201 d Q) 13 [some (.ref 279), none, none, none, none, none] []))
    : cW cd_201 d Q 4 [some (.ref 279), none, none, none, none, none] [] (mkH hi hl sw kp) :=
  cW.run (am_in [4, 13, 25, 35, 64, 75, 113, 119]) 5 (cC.of (h1))
set_option maxRecDepth 100000 in
theorem k_201_13 {s0 : Int32}
    (h1 : (hi 279 2) = 0 → cS d 170 [(.ref 279)] (mkH hi hl sw kp) (am_ret (cW cd_201 d Q) 25 [some (.ref 279), some (.int s0), none, none, none, none] []))
    (h2 : ¬ ((hi 279 2) = 0) → cW cd_201 d Q 25 [some (.ref 279), some (.int s0), none, none, none, none] [] (mkH hi hl sw kp))
    : cW cd_201 d Q 13 [some (.ref 279), none, none, none, none, none] [(.int s0)] (mkH hi hl sw kp) :=
  cW.run (am_in [4, 13, 25, 35, 64, 75, 113, 119]) 6 (And.intro (Nat.le_of_ble_eq_true rfl) (And.intro (fun c1 => (cC.of (h1 c1))) (fun c2 => (h2 c2))))
set_option maxRecDepth 100000 in
theorem k_201_25 {x1 : Int32}
    (h1 : cS d 180 [(.ref 279), (.int (12)), (.int (hi 279 38))] (mkH hi hl sw kp) (am_ret (cW cd_201 d Q) 35 [some (.ref 279), some (.int x1), none, none, none, none] []))
    : cW cd_201 d Q 25 [some (.ref 279), some (.int x1), none, none, none, none] [] (mkH hi hl sw kp) :=
  cW.run (am_in [4, 13, 25, 35, 64, 75, 113, 119]) 5 (cC.of (h1))
set_option maxRecDepth 100000 in
theorem k_201_35 {x1 : Int32} {s0 : Int32}
    (h1 : (hi 279 2) = 0 → vp_in (((4) * x1) + s0) 16)
    (h2 : (hi 279 2) = 0 → (hi 293 (((4) * x1) + s0).toNatClampNeg) = (-1000000) → cW cd_201 d Q 64 [some (.ref 279), some (.int x1), some (.int s0), none, none, none] [] (mkH hi hl sw kp))
    (h3 : (hi 279 2) = 0 → ¬ ((hi 293 (((4) * x1) + s0).toNatClampNeg) = (-1000000)) → cS d 171 [(.ref 279), (.int (3))] (mkH hi hl sw kp) (am_ret (cW cd_201 d Q) 64 [some (.ref 279), some (.int x1), some (.int s0), none, none, none] []))
    (h4 : ¬ ((hi 279 2) = 0) → cW cd_201 d Q 64 [some (.ref 279), some (.int x1), some (.int s0), none, none, none] [] (mkH hi hl sw kp))
    : cW cd_201 d Q 35 [some (.ref 279), some (.int x1), none, none, none, none] [(.int s0)] (mkH hi hl sw kp) :=
  cW.run (am_in [4, 13, 25, 35, 64, 75, 113, 119]) 17 (And.intro (Nat.le_of_ble_eq_true rfl) (And.intro (fun c1 => (And.intro (h1 c1) (And.intro (fun c2 => (h2 c1 c2)) (fun c3 => (cC.of (h3 c1 c3)))))) (fun c4 => (h4 c4))))
set_option maxRecDepth 100000 in
theorem k_201_64 {x1 : Int32} {x2 : Int32}
    (h1 : (hi 279 2) = 0 → cS d 170 [(.ref 279)] (mkH hi hl sw kp) (am_ret (cW cd_201 d Q) 75 [some (.ref 279), some (.int x1), some (.int x2), none, none, none] []))
    (h2 : ¬ ((hi 279 2) = 0) → cW cd_201 d Q 75 [some (.ref 279), some (.int x1), some (.int x2), none, none, none] [] (mkH hi hl sw kp))
    : cW cd_201 d Q 64 [some (.ref 279), some (.int x1), some (.int x2), none, none, none] [] (mkH hi hl sw kp) :=
  cW.run (am_in [4, 13, 25, 35, 64, 75, 113, 119]) 5 (And.intro (fun c1 => (cC.of (h1 c1))) (fun c2 => (h2 c2)))
set_option maxRecDepth 100000 in
theorem k_201_75 {x1 : Int32} {x2 : Int32}
    (h1 : (hi 279 2) ≤ 0 → (hi 279 6) = (45) → cS d 170 [(.ref 279)] (mkH hi hl sw kp) (am_ret (cW cd_201 d Q) 113 [some (.ref 279), some (.int x1), some (.int x2), some (.int (hi 279 7)), some (.int (1)), none] []))
    (h2 : (hi 279 2) ≤ 0 → ¬ ((hi 279 6) = (45)) → cW cd_201 d Q 113 [some (.ref 279), some (.int x1), some (.int x2), some (.int (hi 279 7)), some (.int (0)), none] [] (mkH hi hl sw kp))
    (h3 : ¬ ((hi 279 2) ≤ 0) → Q none (mkH hi hl sw kp))
    : cW cd_201 d Q 75 [some (.ref 279), some (.int x1), some (.int x2), none, none, none] [] (mkH hi hl sw kp) :=
  cW.run (am_in [4, 13, 25, 35, 64, 75, 113, 119]) 17 (And.intro (fun c1 => (And.intro (Nat.le_of_ble_eq_true rfl) (And.intro (fun c2 => (And.intro (Nat.le_of_ble_eq_true rfl) (And.intro (fun z => absurd (show (1 : Int32) = 0 from z) (by decide)) (fun _ => (cC.of (h1 c1 c2)))))) (fun c3 => (And.intro (Nat.le_of_ble_eq_true rfl) (And.intro (fun _ => (h2 c1 c3)) (fun z => absurd (show (0 : Int32) = 0 by decide) z))))))) (fun c4 => (cQ.of (h3 c4))))
set_option maxRecDepth 100000 in
theorem k_201_113 {x1 : Int32} {x2 : Int32} {x3 : Int32} {x4 : Int32}
    (h1 : cS d 176 [(.ref 279), (.int (0)), (.int (3))] (mkH hi hl sw kp) (am_ret (cW cd_201 d Q) 119 [some (.ref 279), some (.int x1), some (.int x2), some (.int x3), some (.int x4), none] []))
    : cW cd_201 d Q 113 [some (.ref 279), some (.int x1), some (.int x2), some (.int x3), some (.int x4), none] [] (mkH hi hl sw kp) :=
  cW.run (am_in [4, 13, 25, 35, 64, 75, 113, 119]) 4 (cC.of (h1))
set_option maxRecDepth 100000 in
theorem k_201_119 {x1 : Int32} {x2 : Int32} {x3 : Int32} {x4 : Int32} {s0 : Int32}
    (h1 : (hi 279 2) = (4) → x4 = 0 → (hi 279 2) ≤ 0 → x4 = 0 → vp_in (((4) * x1) + x2) 16)
    (h2 : (hi 279 2) = (4) → x4 = 0 → (hi 279 2) ≤ 0 → x4 = 0 → Q none (mkH (u2 (u2 hi 293 (((4) * x1) + x2).toNatClampNeg s0) 279 39 ((hi 279 39) + (1))) hl sw kp))
    (h3 : (hi 279 2) = (4) → x4 = 0 → (hi 279 2) ≤ 0 → ¬ (x4 = 0) → vp_in (((4) * x1) + x2) 16)
    (h4 : (hi 279 2) = (4) → x4 = 0 → (hi 279 2) ≤ 0 → ¬ (x4 = 0) → Q none (mkH (u2 (u2 hi 293 (((4) * x1) + x2).toNatClampNeg (-s0)) 279 39 ((hi 279 39) + (1))) hl sw kp))
    (h5 : (hi 279 2) = (4) → x4 = 0 → ¬ ((hi 279 2) ≤ 0) → Q none (mkH hi hl sw kp))
    (h6 : (hi 279 2) = (4) → ¬ (x4 = 0) → (hi 279 2) ≤ 0 → x4 = 0 → vp_in (((4) * x1) + x2) 16)
    (h7 : (hi 279 2) = (4) → ¬ (x4 = 0) → (hi 279 2) ≤ 0 → x4 = 0 → Q none (mkH (u2 (u2 (u2 hi 279 3 x3) 293 (((4) * x1) + x2).toNatClampNeg s0) 279 39 ((hi 279 39) + (1))) hl sw kp))
    (h8 : (hi 279 2) = (4) → ¬ (x4 = 0) → (hi 279 2) ≤ 0 → ¬ (x4 = 0) → vp_in (((4) * x1) + x2) 16)
    (h9 : (hi 279 2) = (4) → ¬ (x4 = 0) → (hi 279 2) ≤ 0 → ¬ (x4 = 0) → Q none (mkH (u2 (u2 (u2 hi 279 3 x3) 293 (((4) * x1) + x2).toNatClampNeg (-s0)) 279 39 ((hi 279 39) + (1))) hl sw kp))
    (h10 : (hi 279 2) = (4) → ¬ (x4 = 0) → ¬ ((hi 279 2) ≤ 0) → Q none (mkH (u2 hi 279 3 x3) hl sw kp))
    (h11 : ¬ ((hi 279 2) = (4)) → (hi 279 2) ≤ 0 → x4 = 0 → vp_in (((4) * x1) + x2) 16)
    (h12 : ¬ ((hi 279 2) = (4)) → (hi 279 2) ≤ 0 → x4 = 0 → Q none (mkH (u2 (u2 hi 293 (((4) * x1) + x2).toNatClampNeg s0) 279 39 ((hi 279 39) + (1))) hl sw kp))
    (h13 : ¬ ((hi 279 2) = (4)) → (hi 279 2) ≤ 0 → ¬ (x4 = 0) → vp_in (((4) * x1) + x2) 16)
    (h14 : ¬ ((hi 279 2) = (4)) → (hi 279 2) ≤ 0 → ¬ (x4 = 0) → Q none (mkH (u2 (u2 hi 293 (((4) * x1) + x2).toNatClampNeg (-s0)) 279 39 ((hi 279 39) + (1))) hl sw kp))
    (h15 : ¬ ((hi 279 2) = (4)) → ¬ ((hi 279 2) ≤ 0) → Q none (mkH hi hl sw kp))
    : cW cd_201 d Q 119 [some (.ref 279), some (.int x1), some (.int x2), some (.int x3), some (.int x4), none] [(.int s0)] (mkH hi hl sw kp) :=
  cW.run (am_in [4, 13, 25, 35, 64, 75, 113, 119]) 33 (And.intro (Nat.le_of_ble_eq_true rfl) (And.intro (fun c1 => (And.intro (fun c2 => (And.intro (fun c3 => (And.intro (fun c4 => (And.intro (h1 c1 c2 c3 c4) (And.intro rfl (cQ.of (h2 c1 c2 c3 c4))))) (fun c5 => (And.intro (h3 c1 c2 c3 c5) (And.intro rfl (cQ.of (h4 c1 c2 c3 c5))))))) (fun c6 => (cQ.of (h5 c1 c2 c6))))) (fun c7 => (And.intro (fun c8 => (And.intro (fun c9 => (And.intro (h6 c1 c7 c8 c9) (And.intro rfl (cQ.of (h7 c1 c7 c8 c9))))) (fun c10 => (And.intro (h8 c1 c7 c8 c10) (And.intro rfl (cQ.of (h9 c1 c7 c8 c10))))))) (fun c11 => (cQ.of (h10 c1 c7 c11))))))) (fun c12 => (And.intro (fun c13 => (And.intro (fun c14 => (And.intro (h11 c12 c13 c14) (And.intro rfl (cQ.of (h12 c12 c13 c14))))) (fun c15 => (And.intro (h13 c12 c13 c15) (And.intro rfl (cQ.of (h14 c12 c13 c15))))))) (fun c16 => (cQ.of (h15 c12 c16)))))))
-- 202: DogDecreesModel.readStart()V
set_option maxRecDepth 100000 in
theorem k_202_0
    (h1 : cS d 170 [(.ref 279)] (mkH hi hl sw kp) (am_ret (cW cd_202 d Q) 4 [some (.ref 279)] []))
    : cW cd_202 d Q 0 [some (.ref 279)] [] (mkH hi hl sw kp) :=
  cW.run (am_in [4, 19, 33]) 2 (cC.of (h1))
theorem e_202
    (h1 : cS d 170 [(.ref 279)] (mkH hi hl sw kp) (am_ret (cW cd_202 d Q) 4 [some (.ref 279)] []))
    : cS (d + 1) 202 [(.ref 279)] (mkH hi hl sw kp) Q := cS.of rfl (k_202_0 h1)
set_option maxRecDepth 100000 in
theorem k_202_4
    (h1 : cS d 180 [(.ref 279), (.int (4)), (.int (hi 279 36))] (mkH (u2 hi 279 55 (1)) hl sw kp) (am_ret (cW cd_202 d Q) 19 [some (.ref 279)] [(.ref 279)]))
    : cW cd_202 d Q 4 [some (.ref 279)] [] (mkH hi hl sw kp) :=
  cW.run (am_in [4, 19, 33]) 9 (And.intro (Or.inr rfl) (cC.of (h1)))
set_option maxRecDepth 100000 in
theorem k_202_19 {s1 : Int32}
    (h1 : (hi 279 2) = 0 → cS d 170 [(.ref 279)] (mkH (u2 hi 279 42 s1) hl sw kp) (am_ret (cW cd_202 d Q) 33 [some (.ref 279)] []))
    (h2 : ¬ ((hi 279 2) = 0) → cW cd_202 d Q 33 [some (.ref 279)] [] (mkH (u2 hi 279 42 s1) hl sw kp))
    : cW cd_202 d Q 19 [some (.ref 279)] [(.int s1), (.ref 279)] (mkH hi hl sw kp) :=
  cW.run (am_in [4, 19, 33]) 6 (And.intro (fun c1 => (cC.of (h1 c1))) (fun c2 => (h2 c2)))
set_option maxRecDepth 100000 in
theorem k_202_33
    (h1 : Q none (mkH hi hl sw kp))
    : cW cd_202 d Q 33 [some (.ref 279)] [] (mkH hi hl sw kp) :=
  cW.run (am_in [4, 19, 33]) 1 (cQ.of (h1))
-- 213: DogDecreesModel.pullOf(IZ)I
set_option maxRecDepth 100000 in
theorem k_213_0 {x1 : Int32} {x2 : Int32}
    (h1 : (hi 279 58) = 0 → Q (some (.int (1))) (mkH hi hl sw kp))
    (h2 : ¬ ((hi 279 58) = 0) → vp_in x1 8)
    (h3 : ¬ ((hi 279 58) = 0) → ¬ (hi 279 50) = 0)
    (h4 : ¬ ((hi 279 58) = 0) → cS (d + 1) 196 [(.ref 279)] (mkH (u2 (u2 (u2 (u2 (u2 hi 288 0 (hi 294 x1.toNatClampNeg)) 288 1 (hi 300 x1.toNatClampNeg)) 288 2 ((hi 279 61) - (hi 279 61) / (hi 279 50) * (hi 279 50))) 288 3 (hi 279 62)) 288 4 (g_194 x2)) hl sw kp) (am_ret (cW cd_213 (d + 1) Q) 72 [some (.ref 279), some (.int x1), some (.int x2), none] []))
    : cW cd_213 (d + 1) Q 0 [some (.ref 279), some (.int x1), some (.int x2), none] [] (mkH hi hl sw kp) :=
  cW.run (am_in [72]) 42 (And.intro (fun c1 => (cQ.of (h1 c1))) (fun c2 => (And.intro (h2 c2) (And.intro (show vp_in 0 5 from vin_l (by decide +kernel)) (And.intro (h2 c2) (And.intro (show vp_in 1 5 from vin_l (by decide +kernel)) (And.intro (h3 c2) (And.intro (show vp_in 2 5 from vin_l (by decide +kernel)) (And.intro (show vp_in 3 5 from vin_l (by decide +kernel)) (cC.of (s_194 (And.intro (show vp_in 4 5 from vin_l (by decide +kernel)) (cC.of (h4 c2))))))))))))))
theorem e_213 {x1 : Int32} {x2 : Int32}
    (h1 : (hi 279 58) = 0 → Q (some (.int (1))) (mkH hi hl sw kp))
    (h2 : ¬ ((hi 279 58) = 0) → vp_in x1 8)
    (h3 : ¬ ((hi 279 58) = 0) → ¬ (hi 279 50) = 0)
    (h4 : ¬ ((hi 279 58) = 0) → cS (d + 1) 196 [(.ref 279)] (mkH (u2 (u2 (u2 (u2 (u2 hi 288 0 (hi 294 x1.toNatClampNeg)) 288 1 (hi 300 x1.toNatClampNeg)) 288 2 ((hi 279 61) - (hi 279 61) / (hi 279 50) * (hi 279 50))) 288 3 (hi 279 62)) 288 4 (g_194 x2)) hl sw kp) (am_ret (cW cd_213 (d + 1) Q) 72 [some (.ref 279), some (.int x1), some (.int x2), none] []))
    : cS ((d + 1) + 1) 213 [(.ref 279), (.int x1), (.int x2)] (mkH hi hl sw kp) Q := cS.of rfl (k_213_0 h1 h2 h3 h4)
set_option maxRecDepth 100000 in
theorem k_213_72 {x1 : Int32} {x2 : Int32} {s0 : Int32}
    (h1 : 0 ≤ s0 → s0 ≤ (99) → Q (some (.int s0)) (mkH hi hl sw kp))
    (h2 : 0 ≤ s0 → ¬ (s0 ≤ (99)) → Q (some (.int (99))) (mkH hi hl sw kp))
    (h3 : ¬ (0 ≤ s0) → Q (some (.int (0))) (mkH hi hl sw kp))
    : cW cd_213 (d + 1) Q 72 [some (.ref 279), some (.int x1), some (.int x2), none] [(.int s0)] (mkH hi hl sw kp) :=
  cW.run (am_in [72]) 9 (And.intro (Nat.le_of_ble_eq_true rfl) (And.intro (fun c1 => (And.intro (fun c2 => (cQ.of (h1 c1 c2))) (fun c3 => (cQ.of (h2 c1 c3))))) (fun c4 => (cQ.of (h3 c4)))))
-- 20: DogDecrees$Laying.compare()V
set_option maxRecDepth 100000 in
theorem k_20_0
    (h1 : cS d 17 [(.ref 264)] (mkH hi hl sw kp) (am_ret (cW cd_20 d Q) 4 [some (.ref 264), none, none] []))
    : cW cd_20 d Q 0 [some (.ref 264), none, none] [] (mkH hi hl sw kp) :=
  cW.run (am_in [4]) 2 (cC.of (h1))
theorem e_20
    (h1 : cS d 17 [(.ref 264)] (mkH hi hl sw kp) (am_ret (cW cd_20 d Q) 4 [some (.ref 264), none, none] []))
    : cS (d + 1) 20 [(.ref 264)] (mkH hi hl sw kp) Q := cS.of rfl (k_20_0 h1)
set_option maxRecDepth 100000 in
theorem k_20_4 {s0 : Int64}
    (h1 : (lg_cmp s0 (hl 264 4)) ≤ 0 → Q none (mkH hi hl sw kp))
    (h2 : ¬ ((lg_cmp s0 (hl 264 4)) ≤ 0) → Q none (mkH (uR hi 265 (va_cpy (hi 257) (hi 265) 0 0 8)) (u2 hl 264 4 s0) sw kp))
    : cW cd_20 d Q 4 [some (.ref 264), none, none] [(.long s0)] (mkH hi hl sw kp) :=
  cW.run (am_in [4]) 19 (And.intro (Nat.le_of_ble_eq_true rfl) (And.intro (fun c1 => (cQ.of (h1 c1))) (fun c2 => (And.intro (show ¬ (0 : Int32) < 0 ∧ ¬ (0 : Int32) < 0 ∧ ¬ (8 : Int32) < 0 ∧ 0 + 8 ≤ 8 ∧ 0 + 8 ≤ 8 by decide +kernel) (cQ.of (h2 c2))))))
-- 22: DogDecrees$Laying.answerTo(I)V
set_option maxRecDepth 100000 in
theorem k_22_0 {x1 : Int32}
    (h1 : cW cd_22 (d + 1) Q 10 [some (.ref 264), some (.int x1), some (.long (-1)), none, some (.int (-1)), some (.int (0)), none, none] [] (mkH hi hl sw kp))
    : cW cd_22 (d + 1) Q 0 [some (.ref 264), some (.int x1), none, none, none, none, none, none] [] (mkH hi hl sw kp) :=
  cW.run (am_in [10, 29, 77]) 6 (And.intro (Nat.le_of_ble_eq_true rfl) (And.intro (Nat.le_of_ble_eq_true rfl) (And.intro (Nat.le_of_ble_eq_true rfl) (h1))))
theorem e_22 {x1 : Int32}
    (h1 : cW cd_22 (d + 1) Q 10 [some (.ref 264), some (.int x1), some (.long (-1)), none, some (.int (-1)), some (.int (0)), none, none] [] (mkH hi hl sw kp))
    : cS ((d + 1) + 1) 22 [(.ref 264), (.int x1)] (mkH hi hl sw kp) Q := cS.of rfl (k_22_0 h1)
set_option maxRecDepth 100000 in
theorem k_22_10 {x1 : Int32} {x2 : Int64} {x4 : Int32} {x5 : Int32} {o6 : Option Value}
    (h1 : (hi 19 1) ≤ x5 → x4 = (-1) → Q none (mkH hi hl sw kp))
    (h2 : (hi 19 1) ≤ x5 → ¬ (x4 = (-1)) → (lg_cmp x2 (hl 264 4)) ≤ 0 → Q none (mkH hi hl sw kp))
    (h3 : (hi 19 1) ≤ x5 → ¬ (x4 = (-1)) → ¬ ((lg_cmp x2 (hl 264 4)) ≤ 0) → Q none (mkH (u2 (u2 hi 264 5 x1) 264 6 x4) (u2 hl 264 4 x2) sw kp))
    (h4 : ¬ ((hi 19 1) ≤ x5) → cS (d + 1) 38 [(.ref 256)] (mkH hi hl sw kp) (am_ret (cW cd_22 (d + 1) Q) 29 [some (.ref 264), some (.int x1), some (.long x2), none, some (.int x4), some (.int x5), o6, none] []))
    : cW cd_22 (d + 1) Q 10 [some (.ref 264), some (.int x1), some (.long x2), none, some (.int x4), some (.int x5), o6, none] [] (mkH hi hl sw kp) :=
  cW.run (am_in [10, 29, 77]) 23 (And.intro (fun c1 => (And.intro (fun c2 => (cQ.of (h1 c1 c2))) (fun c3 => (And.intro (fun c4 => (cQ.of (h2 c1 c3 c4))) (fun c5 => (cQ.of (h3 c1 c3 c5))))))) (fun c6 => (cC.of (h4 c6))))
set_option maxRecDepth 100000 in
theorem k_22_29 {x1 : Int32} {x2 : Int64} {x4 : Int32} {x5 : Int32} {o6 : Option Value}
    (h1 : vp_in x1 8)
    (h2 : vp_in x5 8)
    (h3 : (g_23 ((u2 (u2 hi 257 x1.toNatClampNeg ((hi 257 x1.toNatClampNeg) + (1))) 257 x5.toNatClampNeg (((u2 hi 257 x1.toNatClampNeg ((hi 257 x1.toNatClampNeg) + (1))) 257 x5.toNatClampNeg) + (1)))) x1) = 0 → cW cd_22 (d + 1) Q 10 [some (.ref 264), some (.int x1), some (.long x2), none, some (.int x4), some (.int (x5 + (1))), o6, none] [] (mkH (u2 (u2 hi 257 x1.toNatClampNeg ((hi 257 x1.toNatClampNeg) + (1))) 257 x5.toNatClampNeg (((u2 hi 257 x1.toNatClampNeg ((hi 257 x1.toNatClampNeg) + (1))) 257 x5.toNatClampNeg) + (1))) hl sw kp))
    (h4 : ¬ ((g_23 ((u2 (u2 hi 257 x1.toNatClampNeg ((hi 257 x1.toNatClampNeg) + (1))) 257 x5.toNatClampNeg (((u2 hi 257 x1.toNatClampNeg ((hi 257 x1.toNatClampNeg) + (1))) 257 x5.toNatClampNeg) + (1)))) x1) = 0) → (g_23 ((u2 (u2 hi 257 x1.toNatClampNeg ((hi 257 x1.toNatClampNeg) + (1))) 257 x5.toNatClampNeg (((u2 hi 257 x1.toNatClampNeg ((hi 257 x1.toNatClampNeg) + (1))) 257 x5.toNatClampNeg) + (1)))) x5) = 0 → cW cd_22 (d + 1) Q 10 [some (.ref 264), some (.int x1), some (.long x2), none, some (.int x4), some (.int (x5 + (1))), o6, none] [] (mkH (u2 (u2 hi 257 x1.toNatClampNeg ((hi 257 x1.toNatClampNeg) + (1))) 257 x5.toNatClampNeg (((u2 hi 257 x1.toNatClampNeg ((hi 257 x1.toNatClampNeg) + (1))) 257 x5.toNatClampNeg) + (1))) hl sw kp))
    (h5 : ¬ ((g_23 ((u2 (u2 hi 257 x1.toNatClampNeg ((hi 257 x1.toNatClampNeg) + (1))) 257 x5.toNatClampNeg (((u2 hi 257 x1.toNatClampNeg ((hi 257 x1.toNatClampNeg) + (1))) 257 x5.toNatClampNeg) + (1)))) x1) = 0) → ¬ ((g_23 ((u2 (u2 hi 257 x1.toNatClampNeg ((hi 257 x1.toNatClampNeg) + (1))) 257 x5.toNatClampNeg (((u2 hi 257 x1.toNatClampNeg ((hi 257 x1.toNatClampNeg) + (1))) 257 x5.toNatClampNeg) + (1)))) x5) = 0) → cS (d + 1) 17 [(.ref 264)] (mkH (u2 (u2 hi 257 x1.toNatClampNeg ((hi 257 x1.toNatClampNeg) + (1))) 257 x5.toNatClampNeg (((u2 hi 257 x1.toNatClampNeg ((hi 257 x1.toNatClampNeg) + (1))) 257 x5.toNatClampNeg) + (1))) hl sw kp) (am_ret (cW cd_22 (d + 1) Q) 77 [some (.ref 264), some (.int x1), some (.long x2), none, some (.int x4), some (.int x5), o6, none] []))
    : cW cd_22 (d + 1) Q 29 [some (.ref 264), some (.int x1), some (.long x2), none, some (.int x4), some (.int x5), o6, none] [] (mkH hi hl sw kp) :=
  cW.run (am_in [10, 29, 77]) 28 (And.intro rfl (And.intro rfl (And.intro (h1) (And.intro (h1) (And.intro rfl (And.intro rfl (And.intro (h2) (And.intro (h2) (cC.of (s_23 (h1) (And.intro (fun c1 => (And.intro (Nat.le_of_ble_eq_true rfl) (h3 c1))) (fun c2 => (cC.of (s_23 (h2) (And.intro (fun c3 => (And.intro (Nat.le_of_ble_eq_true rfl) (h4 c2 c3))) (fun c4 => (cC.of (h5 c2 c4))))))))))))))))))
set_option maxRecDepth 100000 in
theorem k_22_77 {x1 : Int32} {x2 : Int64} {x4 : Int32} {x5 : Int32} {o6 : Option Value} {s0 : Int64}
    (h1 : x4 = (-1) → cW cd_22 (d + 1) Q 10 [some (.ref 264), some (.int x1), some (.long s0), none, some (.int x5), some (.int (x5 + (1))), some (.long s0), none] [] (mkH hi hl sw kp))
    (h2 : ¬ (x4 = (-1)) → 0 ≤ (lg_cmp s0 x2) → cW cd_22 (d + 1) Q 10 [some (.ref 264), some (.int x1), some (.long x2), none, some (.int x4), some (.int (x5 + (1))), some (.long s0), none] [] (mkH hi hl sw kp))
    (h3 : ¬ (x4 = (-1)) → ¬ (0 ≤ (lg_cmp s0 x2)) → cW cd_22 (d + 1) Q 10 [some (.ref 264), some (.int x1), some (.long s0), none, some (.int x5), some (.int (x5 + (1))), some (.long s0), none] [] (mkH hi hl sw kp))
    : cW cd_22 (d + 1) Q 77 [some (.ref 264), some (.int x1), some (.long x2), none, some (.int x4), some (.int x5), o6, none] [(.long s0)] (mkH hi hl sw kp) :=
  cW.run (am_in [10, 29, 77]) 14 (And.intro (Nat.le_of_ble_eq_true rfl) (And.intro (fun c1 => (And.intro (Nat.le_of_ble_eq_true rfl) (And.intro (Nat.le_of_ble_eq_true rfl) (And.intro (Nat.le_of_ble_eq_true rfl) (h1 c1))))) (fun c2 => (And.intro (fun c3 => (And.intro (Nat.le_of_ble_eq_true rfl) (h2 c2 c3))) (fun c4 => (And.intro (Nat.le_of_ble_eq_true rfl) (And.intro (Nat.le_of_ble_eq_true rfl) (And.intro (Nat.le_of_ble_eq_true rfl) (h3 c2 c4)))))))))
-- 39: DogDecrees$Odds.weighPulls(II)V
set_option maxRecDepth 100000 in
theorem k_39_0 {x1 : Int32} {x2 : Int32}
    (h1 : cW cd_39 (d + 1) Q 2 [some (.ref 256), some (.int x1), some (.int x2), some (.int (0)), none, none, none, none, none, none] [] (mkH hi hl sw kp))
    : cW cd_39 (d + 1) Q 0 [some (.ref 256), some (.int x1), some (.int x2), none, none, none, none, none, none, none] [] (mkH hi hl sw kp) :=
  cW.run (am_in [2, 60, 75, 147, 170]) 2 (And.intro (Nat.le_of_ble_eq_true rfl) (h1))
theorem e_39 {x1 : Int32} {x2 : Int32}
    (h1 : cW cd_39 (d + 1) Q 2 [some (.ref 256), some (.int x1), some (.int x2), some (.int (0)), none, none, none, none, none, none] [] (mkH hi hl sw kp))
    : cS ((d + 1) + 1) 39 [(.ref 256), (.int x1), (.int x2)] (mkH hi hl sw kp) Q := cS.of rfl (k_39_0 h1)
set_option maxRecDepth 100000 in
theorem k_39_2 {x1 : Int32} {x2 : Int32} {x3 : Int32} {o4 : Option Value} {o5 : Option Value} {o6 : Option Value} {o7 : Option Value} {o8 : Option Value} {o9 : Option Value}
    (h1 : x1 ≤ x3 → Q none (mkH hi hl sw kp))
    (h2 : ¬ (x1 ≤ x3) → (8) ≤ x3 → Q none (mkH hi hl sw kp))
    (h3 : ¬ (x1 ≤ x3) → ¬ ((8) ≤ x3) → (g_118 hi ((hi 28 1) + x3)) ≤ (g_118 hi (hi 28 1)) → cW cd_39 (d + 1) Q 60 [some (.ref 256), some (.int x1), some (.int x2), some (.int x3), some (.int ((hi 28 1) + x3)), some (.int (0)), some (.int (0)), o7, o8, o9] [] (mkH hi hl sw kp))
    (h4 : ¬ (x1 ≤ x3) → ¬ ((8) ≤ x3) → ¬ ((g_118 hi ((hi 28 1) + x3)) ≤ (g_118 hi (hi 28 1))) → cW cd_39 (d + 1) Q 60 [some (.ref 256), some (.int x1), some (.int x2), some (.int x3), some (.int ((hi 28 1) + x3)), some (.int (1)), some (.int (0)), o7, o8, o9] [] (mkH hi hl sw kp))
    : cW cd_39 (d + 1) Q 2 [some (.ref 256), some (.int x1), some (.int x2), some (.int x3), o4, o5, o6, o7, o8, o9] [] (mkH hi hl sw kp) :=
  cW.run (am_in [2, 60, 75, 147, 170]) 28 (And.intro (fun c1 => (cQ.of (h1 c1))) (fun c2 => (And.intro (fun c3 => (cQ.of (h2 c2 c3))) (fun c4 => (And.intro (Nat.le_of_ble_eq_true rfl) (cC.of (s_118 (cC.of (s_118 (And.intro (fun c5 => (And.intro (Nat.le_of_ble_eq_true rfl) (And.intro (Nat.le_of_ble_eq_true rfl) (h3 c2 c4 c5)))) (fun c6 => (And.intro (Nat.le_of_ble_eq_true rfl) (And.intro (Nat.le_of_ble_eq_true rfl) (h4 c2 c4 c6))))))))))))))
set_option maxRecDepth 100000 in
theorem k_39_60 {x1 : Int32} {x2 : Int32} {x3 : Int32} {x4 : Int32} {x5 : Int32} {x6 : Int32} {o7 : Option Value} {o8 : Option Value} {o9 : Option Value}
    (h1 : (hi 19 1) ≤ x6 → cW cd_39 (d + 1) Q 2 [some (.ref 256), some (.int x1), some (.int x2), some (.int (x3 + (1))), some (.int x4), some (.int x5), some (.int x6), o7, o8, o9] [] (mkH hi hl sw kp))
    (h2 : ¬ ((hi 19 1) ≤ x6) → cW cd_39 (d + 1) Q 75 [some (.ref 256), some (.int x1), some (.int x2), some (.int x3), some (.int x4), some (.int x5), some (.int x6), some (.int (0)), o8, o9] [] (mkH hi hl sw kp))
    : cW cd_39 (d + 1) Q 60 [some (.ref 256), some (.int x1), some (.int x2), some (.int x3), some (.int x4), some (.int x5), some (.int x6), o7, o8, o9] [] (mkH hi hl sw kp) :=
  cW.run (am_in [2, 60, 75, 147, 170]) 7 (And.intro (fun c1 => (And.intro (Nat.le_of_ble_eq_true rfl) (h1 c1))) (fun c2 => (And.intro (Nat.le_of_ble_eq_true rfl) (h2 c2))))
set_option maxRecDepth 100000 in
theorem k_39_75 {x1 : Int32} {x2 : Int32} {x3 : Int32} {x4 : Int32} {x5 : Int32} {x6 : Int32} {x7 : Int32} {o8 : Option Value} {o9 : Option Value}
    (h1 : x2 < x7 → cW cd_39 (d + 1) Q 60 [some (.ref 256), some (.int x1), some (.int x2), some (.int x3), some (.int x4), some (.int x5), some (.int (x6 + (1))), some (.int x7), o8, o9] [] (mkH hi hl sw kp))
    (h2 : ¬ (x2 < x7) → (4) < x7 → cW cd_39 (d + 1) Q 60 [some (.ref 256), some (.int x1), some (.int x2), some (.int x3), some (.int x4), some (.int x5), some (.int (x6 + (1))), some (.int x7), o8, o9] [] (mkH hi hl sw kp))
    (h3 : ¬ (x2 < x7) → ¬ ((4) < x7) → x5 = 0 → vp_in x6 8)
    (h4 : ¬ (x2 < x7) → ¬ ((4) < x7) → x5 = 0 → cS (d + 1) 121 [(.ref 19), (.int x6), (.int ((hi 29 x6.toNatClampNeg) + x7)), (.int x4), (.int (0))] (mkH hi hl sw kp) (am_ret (cW cd_39 (d + 1) Q) 147 [some (.ref 256), some (.int x1), some (.int x2), some (.int x3), some (.int x4), some (.int x5), some (.int x6), some (.int x7), some (.int ((hi 29 x6.toNatClampNeg) + x7)), some (.int (((((x3 * (8)) + x6) * (5)) + x7) * (2)))] [(.int (((((x3 * (8)) + x6) * (5)) + x7) * (2))), (.ref 258)]))
    (h5 : ¬ (x2 < x7) → ¬ ((4) < x7) → ¬ (x5 = 0) → cS (d + 1) 121 [(.ref 19), (.int x6), (.int (0)), (.int x4), (.int (0))] (mkH hi hl sw kp) (am_ret (cW cd_39 (d + 1) Q) 147 [some (.ref 256), some (.int x1), some (.int x2), some (.int x3), some (.int x4), some (.int x5), some (.int x6), some (.int x7), some (.int (0)), some (.int (((((x3 * (8)) + x6) * (5)) + x7) * (2)))] [(.int (((((x3 * (8)) + x6) * (5)) + x7) * (2))), (.ref 258)]))
    : cW cd_39 (d + 1) Q 75 [some (.ref 256), some (.int x1), some (.int x2), some (.int x3), some (.int x4), some (.int x5), some (.int x6), some (.int x7), o8, o9] [] (mkH hi hl sw kp) :=
  cW.run (am_in [2, 60, 75, 147, 170]) 38 (And.intro (fun c1 => (And.intro (Nat.le_of_ble_eq_true rfl) (h1 c1))) (fun c2 => (And.intro (fun c3 => (And.intro (Nat.le_of_ble_eq_true rfl) (h2 c2 c3))) (fun c4 => (And.intro (fun c5 => (And.intro (h3 c2 c4 c5) (And.intro (Nat.le_of_ble_eq_true rfl) (And.intro (Nat.le_of_ble_eq_true rfl) (cC.of (h4 c2 c4 c5)))))) (fun c6 => (And.intro (Nat.le_of_ble_eq_true rfl) (And.intro (Nat.le_of_ble_eq_true rfl) (cC.of (h5 c2 c4 c6))))))))))
set_option maxRecDepth 100000 in
theorem k_39_147 {x1 : Int32} {x2 : Int32} {x3 : Int32} {x4 : Int32} {x5 : Int32} {x6 : Int32} {x7 : Int32} {x8 : Int32} {x9 : Int32} {s1 : Int32} {s2 : Int32}
    (h1 : vp_in s1 640)
    (h2 : cS (d + 1) 121 [(.ref 19), (.int x6), (.int x8), (.int x4), (.int (1))] (mkH (u2 hi 258 s1.toNatClampNeg s2) hl sw kp) (am_ret (cW cd_39 (d + 1) Q) 170 [some (.ref 256), some (.int x1), some (.int x2), some (.int x3), some (.int x4), some (.int x5), some (.int x6), some (.int x7), some (.int x8), some (.int x9)] [(.int (x9 + (1))), (.ref 258)]))
    : cW cd_39 (d + 1) Q 147 [some (.ref 256), some (.int x1), some (.int x2), some (.int x3), some (.int x4), some (.int x5), some (.int x6), some (.int x7), some (.int x8), some (.int x9)] [(.int s2), (.int s1), (.ref 258)] (mkH hi hl sw kp) :=
  cW.run (am_in [2, 60, 75, 147, 170]) 13 (And.intro (h1) (cC.of (h2)))
set_option maxRecDepth 100000 in
theorem k_39_170 {x1 : Int32} {x2 : Int32} {x3 : Int32} {x4 : Int32} {x5 : Int32} {x6 : Int32} {x7 : Int32} {x8 : Int32} {x9 : Int32} {s1 : Int32} {s2 : Int32}
    (h1 : vp_in s1 640)
    (h2 : cW cd_39 (d + 1) Q 75 [some (.ref 256), some (.int x1), some (.int x2), some (.int x3), some (.int x4), some (.int x5), some (.int x6), some (.int (x7 + (1))), some (.int x8), some (.int x9)] [] (mkH (u2 hi 258 s1.toNatClampNeg s2) hl sw kp))
    : cW cd_39 (d + 1) Q 170 [some (.ref 256), some (.int x1), some (.int x2), some (.int x3), some (.int x4), some (.int x5), some (.int x6), some (.int x7), some (.int x8), some (.int x9)] [(.int s2), (.int s1), (.ref 258)] (mkH hi hl sw kp) :=
  cW.run (am_in [2, 60, 75, 147, 170]) 3 (And.intro (h1) (And.intro (Nat.le_of_ble_eq_true rfl) (h2)))
-- 61: DogDecrees$PullTelling.tellTerm(I)Z
set_option maxRecDepth 100000 in
theorem k_61_0 {x1 : Int32}
    (h1 : cS (d + 1) 62 [(.ref 18), (.int x1)] (mkH hi hl sw kp) (am_ret (cW cd_61 (d + 1) Q) 5 [some (.ref 18), some (.int x1), none, none] []))
    : cW cd_61 (d + 1) Q 0 [some (.ref 18), some (.int x1), none, none] [] (mkH hi hl sw kp) :=
  cW.run (am_in [5, 12, 47, 52, 66]) 3 (cC.of (h1))
theorem e_61 {x1 : Int32}
    (h1 : cS (d + 1) 62 [(.ref 18), (.int x1)] (mkH hi hl sw kp) (am_ret (cW cd_61 (d + 1) Q) 5 [some (.ref 18), some (.int x1), none, none] []))
    : cS ((d + 1) + 1) 61 [(.ref 18), (.int x1)] (mkH hi hl sw kp) Q := cS.of rfl (k_61_0 h1)
set_option maxRecDepth 100000 in
theorem k_61_5 {x1 : Int32} {s0 : Int32}
    (h1 : s0 = 0 → Q (some (.int (0))) (mkH hi hl sw kp))
    (h2 : ¬ (s0 = 0) → cW cd_61 (d + 1) Q 12 [some (.ref 18), some (.int x1), some (.int (0)), none] [] (mkH hi hl sw kp))
    : cW cd_61 (d + 1) Q 5 [some (.ref 18), some (.int x1), none, none] [(.int s0)] (mkH hi hl sw kp) :=
  cW.run (am_in [5, 12, 47, 52, 66]) 3 (And.intro (fun c1 => (And.intro (Or.inl rfl) (cQ.of (h1 c1)))) (fun c2 => (And.intro (Nat.le_of_ble_eq_true rfl) (h2 c2))))
set_option maxRecDepth 100000 in
theorem k_61_12 {x1 : Int32} {x2 : Int32} {o3 : Option Value}
    (h1 : (1600) ≤ x2 → Q (some (.int (1))) (mkH hi hl sw kp))
    (h2 : ¬ ((1600) ≤ x2) → (g_63 (hi 3 2)) = 0 → Q (some (.int (1))) (mkH hi hl sw kp))
    (h3 : ¬ ((1600) ≤ x2) → ¬ ((g_63 (hi 3 2)) = 0) → cS (d + 1) 67 [(.ref 3)] (mkH hi hl sw kp) (am_ret (cW cd_61 (d + 1) Q) 47 [some (.ref 18), some (.int x1), some (.int x2), some (.int (hi 3 2))] []))
    : cW cd_61 (d + 1) Q 12 [some (.ref 18), some (.int x1), some (.int x2), o3] [] (mkH hi hl sw kp) :=
  cW.run (am_in [5, 12, 47, 52, 66]) 15 (And.intro (fun c1 => (And.intro (Or.inr rfl) (cQ.of (h1 c1)))) (fun c2 => (cC.of (s_63 (And.intro (fun c3 => (And.intro (Or.inr rfl) (cQ.of (h2 c2 c3)))) (fun c4 => (And.intro (Nat.le_of_ble_eq_true rfl) (cC.of (h3 c2 c4)))))))))
set_option maxRecDepth 100000 in
theorem k_61_47 {x1 : Int32} {x2 : Int32} {x3 : Int32}
    (h1 : cS (d + 1) 62 [(.ref 18), (.int x1)] (mkH hi hl sw kp) (am_ret (cW cd_61 (d + 1) Q) 52 [some (.ref 18), some (.int x1), some (.int x2), some (.int x3)] []))
    : cW cd_61 (d + 1) Q 47 [some (.ref 18), some (.int x1), some (.int x2), some (.int x3)] [] (mkH hi hl sw kp) :=
  cW.run (am_in [5, 12, 47, 52, 66]) 3 (cC.of (h1))
set_option maxRecDepth 100000 in
theorem k_61_52 {x1 : Int32} {x2 : Int32} {x3 : Int32} {s0 : Int32}
    (h1 : s0 = 0 → Q (some (.int (0))) (mkH hi hl sw kp))
    (h2 : ¬ (s0 = 0) → cS (d + 1) 8 [(.ref 11), (.int (-x3))] (mkH hi hl sw kp) (am_ret (cW cd_61 (d + 1) Q) 66 [some (.ref 18), some (.int x1), some (.int x2), some (.int x3)] []))
    : cW cd_61 (d + 1) Q 52 [some (.ref 18), some (.int x1), some (.int x2), some (.int x3)] [(.int s0)] (mkH hi hl sw kp) :=
  cW.run (am_in [5, 12, 47, 52, 66]) 6 (And.intro (fun c1 => (And.intro (Or.inl rfl) (cQ.of (h1 c1)))) (fun c2 => (cC.of (h2 c2))))
set_option maxRecDepth 100000 in
theorem k_61_66 {x1 : Int32} {x2 : Int32} {x3 : Int32}
    (h1 : cW cd_61 (d + 1) Q 12 [some (.ref 18), some (.int x1), some (.int (x2 + (1))), some (.int x3)] [] (mkH hi hl sw kp))
    : cW cd_61 (d + 1) Q 66 [some (.ref 18), some (.int x1), some (.int x2), some (.int x3)] [] (mkH hi hl sw kp) :=
  cW.run (am_in [5, 12, 47, 52, 66]) 2 (And.intro (Nat.le_of_ble_eq_true rfl) (h1))
-- 92: DogDecrees$Telling.tellDeed()Z
set_option maxRecDepth 100000 in
theorem k_92_0
    (h1 : (hi 5 0) < (4) → cS d 67 [(.ref 3)] (mkH hi hl sw kp) (am_ret (cW cd_92 d Q) 27 [some (.ref 14)] []))
    (h2 : ¬ ((hi 5 0) < (4)) → cS d 72 [(.ref 3), (.int (2))] (mkH hi hl sw kp) (am_ret (cW cd_92 d Q) 19 [some (.ref 14)] []))
    : cW cd_92 d Q 0 [some (.ref 14)] [] (mkH hi hl sw kp) :=
  cW.run (am_in [19, 27, 42, 69]) 9 (And.intro (fun c1 => (cC.of (h1 c1))) (fun c2 => (cC.of (h2 c2))))
theorem e_92
    (h1 : (hi 5 0) < (4) → cS d 67 [(.ref 3)] (mkH hi hl sw kp) (am_ret (cW cd_92 d Q) 27 [some (.ref 14)] []))
    (h2 : ¬ ((hi 5 0) < (4)) → cS d 72 [(.ref 3), (.int (2))] (mkH hi hl sw kp) (am_ret (cW cd_92 d Q) 19 [some (.ref 14)] []))
    : cS (d + 1) 92 [(.ref 14)] (mkH hi hl sw kp) Q := cS.of rfl (k_92_0 h1 h2)
set_option maxRecDepth 100000 in
theorem k_92_19 {s0 : Int32}
    (h1 : s0 = 0 ∨ s0 = 1)
    (h2 : Q (some (.int s0)) (mkH hi hl sw kp))
    : cW cd_92 d Q 19 [some (.ref 14)] [(.int s0)] (mkH hi hl sw kp) :=
  cW.run (am_in [19, 27, 42, 69]) 1 (And.intro (h1) (cQ.of (h2)))
set_option maxRecDepth 100000 in
theorem k_92_27
    (h1 : cS d 102 [(.ref 14), (.ref 15), (.int (hi 5 0))] (mkH hi hl sw kp) (am_ret (cW cd_92 d Q) 42 [some (.ref 14)] []))
    : cW cd_92 d Q 27 [some (.ref 14)] [] (mkH hi hl sw kp) :=
  cW.run (am_in [19, 27, 42, 69]) 7 (cC.of (h1))
set_option maxRecDepth 100000 in
theorem k_92_42 {s0 : Int32}
    (h1 : s0 = 0 → Q (some (.int (0))) (mkH hi hl sw kp))
    (h2 : ¬ (s0 = 0) → cS d 71 [(.ref 3), (.int (59))] (mkH (u2 hi 5 0 ((hi 5 0) + (1))) hl sw kp) (am_ret (cW cd_92 d Q) 69 [some (.ref 14)] []))
    : cW cd_92 d Q 42 [some (.ref 14)] [(.int s0)] (mkH hi hl sw kp) :=
  cW.run (am_in [19, 27, 42, 69]) 12 (And.intro (fun c1 => (And.intro (Or.inl rfl) (cQ.of (h1 c1)))) (fun c2 => (And.intro rfl (cC.of (h2 c2)))))
set_option maxRecDepth 100000 in
theorem k_92_69 {s0 : Int32}
    (h1 : s0 = 0 ∨ s0 = 1)
    (h2 : Q (some (.int s0)) (mkH hi hl sw kp))
    : cW cd_92 d Q 69 [some (.ref 14)] [(.int s0)] (mkH hi hl sw kp) :=
  cW.run (am_in [19, 27, 42, 69]) 1 (And.intro (h1) (cQ.of (h2)))
-- 93: DogDecrees$Telling.tellPlace()Z
set_option maxRecDepth 100000 in
theorem k_93_0
    (h1 : (hi 5 1) < (8) → cS d 67 [(.ref 3)] (mkH hi hl sw kp) (am_ret (cW cd_93 d Q) 28 [some (.ref 14), none, none] []))
    (h2 : ¬ ((hi 5 1) < (8)) → cS d 72 [(.ref 3), (.int (2))] (mkH hi hl sw kp) (am_ret (cW cd_93 d Q) 20 [some (.ref 14), none, none] []))
    : cW cd_93 d Q 0 [some (.ref 14), none, none] [] (mkH hi hl sw kp) :=
  cW.run (am_in [20, 28, 43, 56, 68, 84, 104, 121, 128, 137]) 9 (And.intro (fun c1 => (cC.of (h1 c1))) (fun c2 => (cC.of (h2 c2))))
theorem e_93
    (h1 : (hi 5 1) < (8) → cS d 67 [(.ref 3)] (mkH hi hl sw kp) (am_ret (cW cd_93 d Q) 28 [some (.ref 14), none, none] []))
    (h2 : ¬ ((hi 5 1) < (8)) → cS d 72 [(.ref 3), (.int (2))] (mkH hi hl sw kp) (am_ret (cW cd_93 d Q) 20 [some (.ref 14), none, none] []))
    : cS (d + 1) 93 [(.ref 14)] (mkH hi hl sw kp) Q := cS.of rfl (k_93_0 h1 h2)
set_option maxRecDepth 100000 in
theorem k_93_20 {s0 : Int32}
    (h1 : s0 = 0 ∨ s0 = 1)
    (h2 : Q (some (.int s0)) (mkH hi hl sw kp))
    : cW cd_93 d Q 20 [some (.ref 14), none, none] [(.int s0)] (mkH hi hl sw kp) :=
  cW.run (am_in [20, 28, 43, 56, 68, 84, 104, 121, 128, 137]) 1 (And.intro (h1) (cQ.of (h2)))
set_option maxRecDepth 100000 in
theorem k_93_28
    (h1 : cS d 102 [(.ref 14), (.ref 16), (.int (hi 5 1))] (mkH hi hl sw kp) (am_ret (cW cd_93 d Q) 43 [some (.ref 14), none, none] []))
    : cW cd_93 d Q 28 [some (.ref 14), none, none] [] (mkH hi hl sw kp) :=
  cW.run (am_in [20, 28, 43, 56, 68, 84, 104, 121, 128, 137]) 7 (cC.of (h1))
set_option maxRecDepth 100000 in
theorem k_93_43 {s0 : Int32}
    (h1 : s0 = 0 → Q (some (.int (0))) (mkH hi hl sw kp))
    (h2 : ¬ (s0 = 0) → cS d 71 [(.ref 3), (.int (211))] (mkH hi hl sw kp) (am_ret (cW cd_93 d Q) 56 [some (.ref 14), none, none] []))
    : cW cd_93 d Q 43 [some (.ref 14), none, none] [(.int s0)] (mkH hi hl sw kp) :=
  cW.run (am_in [20, 28, 43, 56, 68, 84, 104, 121, 128, 137]) 5 (And.intro (fun c1 => (And.intro (Or.inl rfl) (cQ.of (h1 c1)))) (fun c2 => (cC.of (h2 c2))))
set_option maxRecDepth 100000 in
theorem k_93_56 {s0 : Int32}
    (h1 : s0 = 0 → Q (some (.int (0))) (mkH hi hl sw kp))
    (h2 : ¬ (s0 = 0) → cS d 101 [(.ref 14), (.int (0)), (.int (9))] (mkH hi hl sw kp) (am_ret (cW cd_93 d Q) 68 [some (.ref 14), none, none] []))
    : cW cd_93 d Q 56 [some (.ref 14), none, none] [(.int s0)] (mkH hi hl sw kp) :=
  cW.run (am_in [20, 28, 43, 56, 68, 84, 104, 121, 128, 137]) 5 (And.intro (fun c1 => (And.intro (Or.inl rfl) (cQ.of (h1 c1)))) (fun c2 => (cC.of (h2 c2))))
set_option maxRecDepth 100000 in
theorem k_93_68 {s0 : Int32}
    (h1 : s0 = (-1) → Q (some (.int (0))) (mkH hi hl sw kp))
    (h2 : ¬ (s0 = (-1)) → cS d 71 [(.ref 3), (.int (212))] (mkH hi hl sw kp) (am_ret (cW cd_93 d Q) 84 [some (.ref 14), some (.int s0), none] []))
    : cW cd_93 d Q 68 [some (.ref 14), none, none] [(.int s0)] (mkH hi hl sw kp) :=
  cW.run (am_in [20, 28, 43, 56, 68, 84, 104, 121, 128, 137]) 8 (And.intro (Nat.le_of_ble_eq_true rfl) (And.intro (fun c1 => (And.intro (Or.inl rfl) (cQ.of (h1 c1)))) (fun c2 => (cC.of (h2 c2)))))
set_option maxRecDepth 100000 in
theorem k_93_84 {x1 : Int32} {s0 : Int32}
    (h1 : s0 = 0 → Q (some (.int (0))) (mkH hi hl sw kp))
    (h2 : ¬ (s0 = 0) → cS d 103 [(.ref 14), (.ref 15), (.int (hi 5 0))] (mkH hi hl sw kp) (am_ret (cW cd_93 d Q) 104 [some (.ref 14), some (.int x1), none] []))
    : cW cd_93 d Q 84 [some (.ref 14), some (.int x1), none] [(.int s0)] (mkH hi hl sw kp) :=
  cW.run (am_in [20, 28, 43, 56, 68, 84, 104, 121, 128, 137]) 8 (And.intro (fun c1 => (And.intro (Or.inl rfl) (cQ.of (h1 c1)))) (fun c2 => (cC.of (h2 c2))))
set_option maxRecDepth 100000 in
theorem k_93_104 {x1 : Int32} {s0 : Int32}
    (h1 : s0 = (-1) → Q (some (.int (0))) (mkH hi hl sw kp))
    (h2 : ¬ (s0 = (-1)) → cS d 111 [(.ref 5), (.int x1), (.int s0)] (mkH hi hl sw kp) (am_ret (cW cd_93 d Q) 121 [some (.ref 14), some (.int x1), some (.int s0)] []))
    : cW cd_93 d Q 104 [some (.ref 14), some (.int x1), none] [(.int s0)] (mkH hi hl sw kp) :=
  cW.run (am_in [20, 28, 43, 56, 68, 84, 104, 121, 128, 137]) 9 (And.intro (Nat.le_of_ble_eq_true rfl) (And.intro (fun c1 => (And.intro (Or.inl rfl) (cQ.of (h1 c1)))) (fun c2 => (cC.of (h2 c2)))))
set_option maxRecDepth 100000 in
theorem k_93_121 {x1 : Int32} {x2 : Int32}
    (h1 : cS d 67 [(.ref 3)] (mkH hi hl sw kp) (am_ret (cW cd_93 d Q) 128 [some (.ref 14), some (.int x1), some (.int x2)] []))
    : cW cd_93 d Q 121 [some (.ref 14), some (.int x1), some (.int x2)] [] (mkH hi hl sw kp) :=
  cW.run (am_in [20, 28, 43, 56, 68, 84, 104, 121, 128, 137]) 3 (cC.of (h1))
set_option maxRecDepth 100000 in
theorem k_93_128 {x1 : Int32} {x2 : Int32}
    (h1 : cS d 71 [(.ref 3), (.int (59))] (mkH hi hl sw kp) (am_ret (cW cd_93 d Q) 137 [some (.ref 14), some (.int x1), some (.int x2)] []))
    : cW cd_93 d Q 128 [some (.ref 14), some (.int x1), some (.int x2)] [] (mkH hi hl sw kp) :=
  cW.run (am_in [20, 28, 43, 56, 68, 84, 104, 121, 128, 137]) 4 (cC.of (h1))
set_option maxRecDepth 100000 in
theorem k_93_137 {x1 : Int32} {x2 : Int32} {s0 : Int32}
    (h1 : s0 = 0 ∨ s0 = 1)
    (h2 : Q (some (.int s0)) (mkH hi hl sw kp))
    : cW cd_93 d Q 137 [some (.ref 14), some (.int x1), some (.int x2)] [(.int s0)] (mkH hi hl sw kp) :=
  cW.run (am_in [20, 28, 43, 56, 68, 84, 104, 121, 128, 137]) 1 (And.intro (h1) (cQ.of (h2)))
-- 94: DogDecrees$Telling.tellPath()Z
set_option maxRecDepth 100000 in
theorem k_94_0
    (h1 : (hi 5 2) < (16) → cS (d + 2) 67 [(.ref 3)] (mkH hi hl sw kp) (am_ret (cW cd_94 (d + 2) Q) 28 [some (.ref 14), none, none] []))
    (h2 : ¬ ((hi 5 2) < (16)) → cS (d + 2) 72 [(.ref 3), (.int (2))] (mkH hi hl sw kp) (am_ret (cW cd_94 (d + 2) Q) 20 [some (.ref 14), none, none] []))
    : cW cd_94 (d + 2) Q 0 [some (.ref 14), none, none] [] (mkH hi hl sw kp) :=
  cW.run (am_in [20, 28, 43, 58, 68, 88, 121, 131, 138, 147]) 9 (And.intro (fun c1 => (cC.of (h1 c1))) (fun c2 => (cC.of (h2 c2))))
theorem e_94
    (h1 : (hi 5 2) < (16) → cS (d + 2) 67 [(.ref 3)] (mkH hi hl sw kp) (am_ret (cW cd_94 (d + 2) Q) 28 [some (.ref 14), none, none] []))
    (h2 : ¬ ((hi 5 2) < (16)) → cS (d + 2) 72 [(.ref 3), (.int (2))] (mkH hi hl sw kp) (am_ret (cW cd_94 (d + 2) Q) 20 [some (.ref 14), none, none] []))
    : cS ((d + 2) + 1) 94 [(.ref 14)] (mkH hi hl sw kp) Q := cS.of rfl (k_94_0 h1 h2)
set_option maxRecDepth 100000 in
theorem k_94_20 {s0 : Int32}
    (h1 : s0 = 0 ∨ s0 = 1)
    (h2 : Q (some (.int s0)) (mkH hi hl sw kp))
    : cW cd_94 (d + 2) Q 20 [some (.ref 14), none, none] [(.int s0)] (mkH hi hl sw kp) :=
  cW.run (am_in [20, 28, 43, 58, 68, 88, 121, 131, 138, 147]) 1 (And.intro (h1) (cQ.of (h2)))
set_option maxRecDepth 100000 in
theorem k_94_28
    (h1 : cS (d + 2) 103 [(.ref 14), (.ref 16), (.int (hi 5 1))] (mkH hi hl sw kp) (am_ret (cW cd_94 (d + 2) Q) 43 [some (.ref 14), none, none] []))
    : cW cd_94 (d + 2) Q 28 [some (.ref 14), none, none] [] (mkH hi hl sw kp) :=
  cW.run (am_in [20, 28, 43, 58, 68, 88, 121, 131, 138, 147]) 7 (cC.of (h1))
set_option maxRecDepth 100000 in
theorem k_94_43 {s0 : Int32}
    (h1 : s0 = (-1) → Q (some (.int (0))) (mkH hi hl sw kp))
    (h2 : ¬ (s0 = (-1)) → cS (d + 2) 67 [(.ref 3)] (mkH hi hl sw kp) (am_ret (cW cd_94 (d + 2) Q) 58 [some (.ref 14), some (.int s0), none] []))
    : cW cd_94 (d + 2) Q 43 [some (.ref 14), none, none] [(.int s0)] (mkH hi hl sw kp) :=
  cW.run (am_in [20, 28, 43, 58, 68, 88, 121, 131, 138, 147]) 7 (And.intro (Nat.le_of_ble_eq_true rfl) (And.intro (fun c1 => (And.intro (Or.inl rfl) (cQ.of (h1 c1)))) (fun c2 => (cC.of (h2 c2)))))
set_option maxRecDepth 100000 in
theorem k_94_58 {x1 : Int32}
    (h1 : cS (d + 2) 71 [(.ref 3), (.int (213))] (mkH hi hl sw kp) (am_ret (cW cd_94 (d + 2) Q) 68 [some (.ref 14), some (.int x1), none] []))
    : cW cd_94 (d + 2) Q 58 [some (.ref 14), some (.int x1), none] [] (mkH hi hl sw kp) :=
  cW.run (am_in [20, 28, 43, 58, 68, 88, 121, 131, 138, 147]) 4 (cC.of (h1))
set_option maxRecDepth 100000 in
theorem k_94_68 {x1 : Int32} {s0 : Int32}
    (h1 : s0 = 0 → Q (some (.int (0))) (mkH hi hl sw kp))
    (h2 : ¬ (s0 = 0) → cS (d + 2) 103 [(.ref 14), (.ref 16), (.int (hi 5 1))] (mkH hi hl sw kp) (am_ret (cW cd_94 (d + 2) Q) 88 [some (.ref 14), some (.int x1), none] []))
    : cW cd_94 (d + 2) Q 68 [some (.ref 14), some (.int x1), none] [(.int s0)] (mkH hi hl sw kp) :=
  cW.run (am_in [20, 28, 43, 58, 68, 88, 121, 131, 138, 147]) 8 (And.intro (fun c1 => (And.intro (Or.inl rfl) (cQ.of (h1 c1)))) (fun c2 => (cC.of (h2 c2))))
set_option maxRecDepth 100000 in
theorem k_94_88 {x1 : Int32} {s0 : Int32}
    (h1 : s0 = (-1) → Q (some (.int (0))) (mkH hi hl sw kp))
    (h2 : ¬ (s0 = (-1)) → x1 = s0 → cS (d + 2) 72 [(.ref 3), (.int (3))] (mkH hi hl sw kp) (am_ret (cW cd_94 (d + 2) Q) 121 [some (.ref 14), some (.int x1), some (.int s0)] []))
    (h3 : ¬ (s0 = (-1)) → ¬ (x1 = s0) → ¬ ((g_108d hi x1) = 0) → vp_in x1 8)
    (h4 : ¬ (s0 = (-1)) → ¬ (x1 = s0) → (g_112 hi x1 s0) = 0 → cS (d + 2) 113 [(.ref 5), (.int x1), (.int s0)] (mkH hi hl sw kp) (am_ret (cW cd_94 (d + 2) Q) 131 [some (.ref 14), some (.int x1), some (.int s0)] []))
    (h5 : ¬ (s0 = (-1)) → ¬ (x1 = s0) → ¬ ((g_112 hi x1 s0) = 0) → cS (d + 2) 72 [(.ref 3), (.int (3))] (mkH hi hl sw kp) (am_ret (cW cd_94 (d + 2) Q) 121 [some (.ref 14), some (.int x1), some (.int s0)] []))
    : cW cd_94 (d + 2) Q 88 [some (.ref 14), some (.int x1), none] [(.int s0)] (mkH hi hl sw kp) :=
  cW.run (am_in [20, 28, 43, 58, 68, 88, 121, 131, 138, 147]) 18 (And.intro (Nat.le_of_ble_eq_true rfl) (And.intro (fun c1 => (And.intro (Or.inl rfl) (cQ.of (h1 c1)))) (fun c2 => (And.intro (fun c3 => (cC.of (h2 c2 c3))) (fun c4 => (cC.of (s_112 (h3 c2 c4) (And.intro (fun c5 => (cC.of (h4 c2 c4 c5))) (fun c6 => (cC.of (h5 c2 c4 c6)))))))))))
set_option maxRecDepth 100000 in
theorem k_94_121 {x1 : Int32} {x2 : Int32} {s0 : Int32}
    (h1 : s0 = 0 ∨ s0 = 1)
    (h2 : Q (some (.int s0)) (mkH hi hl sw kp))
    : cW cd_94 (d + 2) Q 121 [some (.ref 14), some (.int x1), some (.int x2)] [(.int s0)] (mkH hi hl sw kp) :=
  cW.run (am_in [20, 28, 43, 58, 68, 88, 121, 131, 138, 147]) 1 (And.intro (h1) (cQ.of (h2)))
set_option maxRecDepth 100000 in
theorem k_94_131 {x1 : Int32} {x2 : Int32}
    (h1 : cS (d + 2) 67 [(.ref 3)] (mkH hi hl sw kp) (am_ret (cW cd_94 (d + 2) Q) 138 [some (.ref 14), some (.int x1), some (.int x2)] []))
    : cW cd_94 (d + 2) Q 131 [some (.ref 14), some (.int x1), some (.int x2)] [] (mkH hi hl sw kp) :=
  cW.run (am_in [20, 28, 43, 58, 68, 88, 121, 131, 138, 147]) 3 (cC.of (h1))
set_option maxRecDepth 100000 in
theorem k_94_138 {x1 : Int32} {x2 : Int32}
    (h1 : cS (d + 2) 71 [(.ref 3), (.int (59))] (mkH hi hl sw kp) (am_ret (cW cd_94 (d + 2) Q) 147 [some (.ref 14), some (.int x1), some (.int x2)] []))
    : cW cd_94 (d + 2) Q 138 [some (.ref 14), some (.int x1), some (.int x2)] [] (mkH hi hl sw kp) :=
  cW.run (am_in [20, 28, 43, 58, 68, 88, 121, 131, 138, 147]) 4 (cC.of (h1))
set_option maxRecDepth 100000 in
theorem k_94_147 {x1 : Int32} {x2 : Int32} {s0 : Int32}
    (h1 : s0 = 0 ∨ s0 = 1)
    (h2 : Q (some (.int s0)) (mkH hi hl sw kp))
    : cW cd_94 (d + 2) Q 147 [some (.ref 14), some (.int x1), some (.int x2)] [(.int s0)] (mkH hi hl sw kp) :=
  cW.run (am_in [20, 28, 43, 58, 68, 88, 121, 131, 138, 147]) 1 (And.intro (h1) (cQ.of (h2)))
-- 95: DogDecrees$Telling.tellCase()Z
set_option maxRecDepth 100000 in
theorem k_95_0
    (h1 : (hi 5 3) < (4) → cS d 67 [(.ref 3)] (mkH hi hl sw kp) (am_ret (cW cd_95 d Q) 27 [some (.ref 14), none] []))
    (h2 : ¬ ((hi 5 3) < (4)) → cS d 72 [(.ref 3), (.int (2))] (mkH hi hl sw kp) (am_ret (cW cd_95 d Q) 19 [some (.ref 14), none] []))
    : cW cd_95 d Q 0 [some (.ref 14), none] [] (mkH hi hl sw kp) :=
  cW.run (am_in [19, 27, 42, 55, 67, 83, 92]) 9 (And.intro (fun c1 => (cC.of (h1 c1))) (fun c2 => (cC.of (h2 c2))))
theorem e_95
    (h1 : (hi 5 3) < (4) → cS d 67 [(.ref 3)] (mkH hi hl sw kp) (am_ret (cW cd_95 d Q) 27 [some (.ref 14), none] []))
    (h2 : ¬ ((hi 5 3) < (4)) → cS d 72 [(.ref 3), (.int (2))] (mkH hi hl sw kp) (am_ret (cW cd_95 d Q) 19 [some (.ref 14), none] []))
    : cS (d + 1) 95 [(.ref 14)] (mkH hi hl sw kp) Q := cS.of rfl (k_95_0 h1 h2)
set_option maxRecDepth 100000 in
theorem k_95_19 {s0 : Int32}
    (h1 : s0 = 0 ∨ s0 = 1)
    (h2 : Q (some (.int s0)) (mkH hi hl sw kp))
    : cW cd_95 d Q 19 [some (.ref 14), none] [(.int s0)] (mkH hi hl sw kp) :=
  cW.run (am_in [19, 27, 42, 55, 67, 83, 92]) 1 (And.intro (h1) (cQ.of (h2)))
set_option maxRecDepth 100000 in
theorem k_95_27
    (h1 : cS d 102 [(.ref 14), (.ref 17), (.int (hi 5 3))] (mkH hi hl sw kp) (am_ret (cW cd_95 d Q) 42 [some (.ref 14), none] []))
    : cW cd_95 d Q 27 [some (.ref 14), none] [] (mkH hi hl sw kp) :=
  cW.run (am_in [19, 27, 42, 55, 67, 83, 92]) 7 (cC.of (h1))
set_option maxRecDepth 100000 in
theorem k_95_42 {s0 : Int32}
    (h1 : s0 = 0 → Q (some (.int (0))) (mkH hi hl sw kp))
    (h2 : ¬ (s0 = 0) → cS d 71 [(.ref 3), (.int (214))] (mkH hi hl sw kp) (am_ret (cW cd_95 d Q) 55 [some (.ref 14), none] []))
    : cW cd_95 d Q 42 [some (.ref 14), none] [(.int s0)] (mkH hi hl sw kp) :=
  cW.run (am_in [19, 27, 42, 55, 67, 83, 92]) 5 (And.intro (fun c1 => (And.intro (Or.inl rfl) (cQ.of (h1 c1)))) (fun c2 => (cC.of (h2 c2))))
set_option maxRecDepth 100000 in
theorem k_95_55 {s0 : Int32}
    (h1 : s0 = 0 → Q (some (.int (0))) (mkH hi hl sw kp))
    (h2 : ¬ (s0 = 0) → cS d 101 [(.ref 14), (.int (1)), (.int (15))] (mkH hi hl sw kp) (am_ret (cW cd_95 d Q) 67 [some (.ref 14), none] []))
    : cW cd_95 d Q 55 [some (.ref 14), none] [(.int s0)] (mkH hi hl sw kp) :=
  cW.run (am_in [19, 27, 42, 55, 67, 83, 92]) 5 (And.intro (fun c1 => (And.intro (Or.inl rfl) (cQ.of (h1 c1)))) (fun c2 => (cC.of (h2 c2))))
set_option maxRecDepth 100000 in
theorem k_95_67 {s0 : Int32}
    (h1 : s0 = (-1) → Q (some (.int (0))) (mkH hi hl sw kp))
    (h2 : ¬ (s0 = (-1)) → cS d 114 [(.ref 5), (.int s0)] (mkH hi hl sw kp) (am_ret (cW cd_95 d Q) 83 [some (.ref 14), some (.int s0)] []))
    : cW cd_95 d Q 67 [some (.ref 14), none] [(.int s0)] (mkH hi hl sw kp) :=
  cW.run (am_in [19, 27, 42, 55, 67, 83, 92]) 8 (And.intro (Nat.le_of_ble_eq_true rfl) (And.intro (fun c1 => (And.intro (Or.inl rfl) (cQ.of (h1 c1)))) (fun c2 => (cC.of (h2 c2)))))
set_option maxRecDepth 100000 in
theorem k_95_83 {x1 : Int32}
    (h1 : cS d 71 [(.ref 3), (.int (59))] (mkH hi hl sw kp) (am_ret (cW cd_95 d Q) 92 [some (.ref 14), some (.int x1)] []))
    : cW cd_95 d Q 83 [some (.ref 14), some (.int x1)] [] (mkH hi hl sw kp) :=
  cW.run (am_in [19, 27, 42, 55, 67, 83, 92]) 4 (cC.of (h1))
set_option maxRecDepth 100000 in
theorem k_95_92 {x1 : Int32} {s0 : Int32}
    (h1 : s0 = 0 ∨ s0 = 1)
    (h2 : Q (some (.int s0)) (mkH hi hl sw kp))
    : cW cd_95 d Q 92 [some (.ref 14), some (.int x1)] [(.int s0)] (mkH hi hl sw kp) :=
  cW.run (am_in [19, 27, 42, 55, 67, 83, 92]) 1 (And.intro (h1) (cQ.of (h2)))
-- 96: DogDecrees$Telling.tellWhen()Z
set_option maxRecDepth 100000 in
theorem k_96_0
    (h1 : (g_279 (hi 14 7)) < (16) → cS (d + 1) 67 [(.ref 3)] (mkH hi hl sw kp) (am_ret (cW cd_96 (d + 1) Q) 28 [some (.ref 14), none, none, none] []))
    (h2 : ¬ ((g_279 (hi 14 7)) < (16)) → cS (d + 1) 72 [(.ref 3), (.int (2))] (mkH hi hl sw kp) (am_ret (cW cd_96 (d + 1) Q) 20 [some (.ref 14), none, none, none] []))
    : cW cd_96 (d + 1) Q 0 [some (.ref 14), none, none, none] [] (mkH hi hl sw kp) :=
  cW.run (am_in [20, 28, 43, 58, 73, 106, 124, 130, 142]) 9 (cC.of (s_279 (And.intro (fun c1 => (cC.of (h1 c1))) (fun c2 => (cC.of (h2 c2))))))
theorem e_96
    (h1 : (g_279 (hi 14 7)) < (16) → cS (d + 1) 67 [(.ref 3)] (mkH hi hl sw kp) (am_ret (cW cd_96 (d + 1) Q) 28 [some (.ref 14), none, none, none] []))
    (h2 : ¬ ((g_279 (hi 14 7)) < (16)) → cS (d + 1) 72 [(.ref 3), (.int (2))] (mkH hi hl sw kp) (am_ret (cW cd_96 (d + 1) Q) 20 [some (.ref 14), none, none, none] []))
    : cS ((d + 1) + 1) 96 [(.ref 14)] (mkH hi hl sw kp) Q := cS.of rfl (k_96_0 h1 h2)
set_option maxRecDepth 100000 in
theorem k_96_20 {s0 : Int32}
    (h1 : s0 = 0 ∨ s0 = 1)
    (h2 : Q (some (.int s0)) (mkH hi hl sw kp))
    : cW cd_96 (d + 1) Q 20 [some (.ref 14), none, none, none] [(.int s0)] (mkH hi hl sw kp) :=
  cW.run (am_in [20, 28, 43, 58, 73, 106, 124, 130, 142]) 1 (And.intro (h1) (cQ.of (h2)))
set_option maxRecDepth 100000 in
theorem k_96_28
    (h1 : cS (d + 1) 103 [(.ref 14), (.ref 15), (.int (hi 5 0))] (mkH hi hl sw kp) (am_ret (cW cd_96 (d + 1) Q) 43 [some (.ref 14), none, none, none] []))
    : cW cd_96 (d + 1) Q 28 [some (.ref 14), none, none, none] [] (mkH hi hl sw kp) :=
  cW.run (am_in [20, 28, 43, 58, 73, 106, 124, 130, 142]) 7 (cC.of (h1))
set_option maxRecDepth 100000 in
theorem k_96_43 {s0 : Int32}
    (h1 : s0 = (-1) → Q (some (.int (0))) (mkH hi hl sw kp))
    (h2 : ¬ (s0 = (-1)) → cS (d + 1) 67 [(.ref 3)] (mkH hi hl sw kp) (am_ret (cW cd_96 (d + 1) Q) 58 [some (.ref 14), some (.int s0), none, none] []))
    : cW cd_96 (d + 1) Q 43 [some (.ref 14), none, none, none] [(.int s0)] (mkH hi hl sw kp) :=
  cW.run (am_in [20, 28, 43, 58, 73, 106, 124, 130, 142]) 7 (And.intro (Nat.le_of_ble_eq_true rfl) (And.intro (fun c1 => (And.intro (Or.inl rfl) (cQ.of (h1 c1)))) (fun c2 => (cC.of (h2 c2)))))
set_option maxRecDepth 100000 in
theorem k_96_58 {x1 : Int32}
    (h1 : cS (d + 1) 103 [(.ref 14), (.ref 17), (.int (hi 5 3))] (mkH hi hl sw kp) (am_ret (cW cd_96 (d + 1) Q) 73 [some (.ref 14), some (.int x1), none, none] []))
    : cW cd_96 (d + 1) Q 58 [some (.ref 14), some (.int x1), none, none] [] (mkH hi hl sw kp) :=
  cW.run (am_in [20, 28, 43, 58, 73, 106, 124, 130, 142]) 7 (cC.of (h1))
set_option maxRecDepth 100000 in
theorem k_96_73 {x1 : Int32} {s0 : Int32}
    (h1 : s0 = (-1) → Q (some (.int (0))) (mkH hi hl sw kp))
    (h2 : ¬ (s0 = (-1)) → ((hi 14 7) &&& ((1) <<< (((x1 * (4)) + s0) &&& 31))) = 0 → cS (d + 1) 67 [(.ref 3)] (mkH (u2 hi 14 7 ((hi 14 7) ||| ((1) <<< (((x1 * (4)) + s0) &&& 31)))) hl sw kp) (am_ret (cW cd_96 (d + 1) Q) 124 [some (.ref 14), some (.int x1), some (.int s0), some (.int ((1) <<< (((x1 * (4)) + s0) &&& 31)))] []))
    (h3 : ¬ (s0 = (-1)) → ¬ (((hi 14 7) &&& ((1) <<< (((x1 * (4)) + s0) &&& 31))) = 0) → cS (d + 1) 72 [(.ref 3), (.int (3))] (mkH hi hl sw kp) (am_ret (cW cd_96 (d + 1) Q) 106 [some (.ref 14), some (.int x1), some (.int s0), some (.int ((1) <<< (((x1 * (4)) + s0) &&& 31)))] []))
    : cW cd_96 (d + 1) Q 73 [some (.ref 14), some (.int x1), none, none] [(.int s0)] (mkH hi hl sw kp) :=
  cW.run (am_in [20, 28, 43, 58, 73, 106, 124, 130, 142]) 26 (And.intro (Nat.le_of_ble_eq_true rfl) (And.intro (fun c1 => (And.intro (Or.inl rfl) (cQ.of (h1 c1)))) (fun c2 => (And.intro (Nat.le_of_ble_eq_true rfl) (And.intro (fun c3 => (And.intro rfl (cC.of (h2 c2 c3)))) (fun c4 => (cC.of (h3 c2 c4))))))))
set_option maxRecDepth 100000 in
theorem k_96_106 {x1 : Int32} {x2 : Int32} {x3 : Int32} {s0 : Int32}
    (h1 : s0 = 0 ∨ s0 = 1)
    (h2 : Q (some (.int s0)) (mkH hi hl sw kp))
    : cW cd_96 (d + 1) Q 106 [some (.ref 14), some (.int x1), some (.int x2), some (.int x3)] [(.int s0)] (mkH hi hl sw kp) :=
  cW.run (am_in [20, 28, 43, 58, 73, 106, 124, 130, 142]) 1 (And.intro (h1) (cQ.of (h2)))
set_option maxRecDepth 100000 in
theorem k_96_124 {x1 : Int32} {x2 : Int32} {x3 : Int32}
    (h1 : cS (d + 1) 97 [(.ref 14), (.int x1), (.int x2)] (mkH hi hl sw kp) (am_ret (cW cd_96 (d + 1) Q) 130 [some (.ref 14), some (.int x1), some (.int x2), some (.int x3)] []))
    : cW cd_96 (d + 1) Q 124 [some (.ref 14), some (.int x1), some (.int x2), some (.int x3)] [] (mkH hi hl sw kp) :=
  cW.run (am_in [20, 28, 43, 58, 73, 106, 124, 130, 142]) 4 (cC.of (h1))
set_option maxRecDepth 100000 in
theorem k_96_130 {x1 : Int32} {x2 : Int32} {x3 : Int32} {s0 : Int32}
    (h1 : s0 = 0 → Q (some (.int (0))) (mkH hi hl sw kp))
    (h2 : ¬ (s0 = 0) → cS (d + 1) 71 [(.ref 3), (.int (59))] (mkH hi hl sw kp) (am_ret (cW cd_96 (d + 1) Q) 142 [some (.ref 14), some (.int x1), some (.int x2), some (.int x3)] []))
    : cW cd_96 (d + 1) Q 130 [some (.ref 14), some (.int x1), some (.int x2), some (.int x3)] [(.int s0)] (mkH hi hl sw kp) :=
  cW.run (am_in [20, 28, 43, 58, 73, 106, 124, 130, 142]) 5 (And.intro (fun c1 => (And.intro (Or.inl rfl) (cQ.of (h1 c1)))) (fun c2 => (cC.of (h2 c2))))
set_option maxRecDepth 100000 in
theorem k_96_142 {x1 : Int32} {x2 : Int32} {x3 : Int32} {s0 : Int32}
    (h1 : s0 = 0 → Q (some (.int (0))) (mkH hi hl sw kp))
    (h2 : ¬ (s0 = 0) → Q (some (.int (1))) (mkH hi hl sw kp))
    : cW cd_96 (d + 1) Q 142 [some (.ref 14), some (.int x1), some (.int x2), some (.int x3)] [(.int s0)] (mkH hi hl sw kp) :=
  cW.run (am_in [20, 28, 43, 58, 73, 106, 124, 130, 142]) 4 (And.intro (fun c1 => (And.intro (Or.inl rfl) (cQ.of (h1 c1)))) (fun c2 => (And.intro (Or.inr rfl) (cQ.of (h2 c2)))))
-- 127: DogDecrees.place(II)I
set_option maxRecDepth 100000 in
theorem k_127_0 {x1 : Int32} {x2 : Int32}
    (h1 : (g_108 hi x1) = 0 → Q (some (.int (-1))) (mkH hi hl sw kp))
    (h2 : ¬ ((g_108 hi x1) = 0) → x2 = 0 → vp_in x1 8)
    (h3 : ¬ ((g_108 hi x1) = 0) → x2 = 0 → Q (some (.int (hi 20 x1.toNatClampNeg))) (mkH hi hl sw kp))
    (h4 : ¬ ((g_108 hi x1) = 0) → ¬ x2 = 0 → x2 = 1 → vp_in x1 8)
    (h5 : ¬ ((g_108 hi x1) = 0) → ¬ x2 = 0 → x2 = 1 → Q (some (.int (hi 29 x1.toNatClampNeg))) (mkH hi hl sw kp))
    (h6 : ¬ ((g_108 hi x1) = 0) → ¬ x2 = 0 → ¬ x2 = 1 → x2 = 2 → vp_in x1 8)
    (h7 : ¬ ((g_108 hi x1) = 0) → ¬ x2 = 0 → ¬ x2 = 1 → x2 = 2 → Q (some (.int (hi 21 x1.toNatClampNeg))) (mkH hi hl sw kp))
    (h8 : ¬ ((g_108 hi x1) = 0) → ¬ x2 = 0 → ¬ x2 = 1 → ¬ x2 = 2 → x2 = 3 → vp_in x1 8)
    (h9 : ¬ ((g_108 hi x1) = 0) → ¬ x2 = 0 → ¬ x2 = 1 → ¬ x2 = 2 → x2 = 3 → Q (some (.int (hi 22 x1.toNatClampNeg))) (mkH hi hl sw kp))
    (h10 : ¬ ((g_108 hi x1) = 0) → ¬ x2 = 0 → ¬ x2 = 1 → ¬ x2 = 2 → ¬ x2 = 3 → x2 = 4 → vp_in x1 8)
    (h11 : ¬ ((g_108 hi x1) = 0) → ¬ x2 = 0 → ¬ x2 = 1 → ¬ x2 = 2 → ¬ x2 = 3 → x2 = 4 → (hi 28 0) = x1 → cS (d + 1) 121 [(.ref 19), (.int x1), (.int (hi 29 x1.toNatClampNeg)), (.int (hi 28 1)), (.int (1))] (mkH hi hl sw kp) (am_ret (cW cd_127 (d + 1) Q) 128 [some (.ref 0), some (.int x1), some (.int x2)] []))
    (h12 : ¬ ((g_108 hi x1) = 0) → ¬ x2 = 0 → ¬ x2 = 1 → ¬ x2 = 2 → ¬ x2 = 3 → x2 = 4 → ¬ ((hi 28 0) = x1) → cS (d + 1) 121 [(.ref 19), (.int x1), (.int (hi 29 x1.toNatClampNeg)), (.int (hi 28 1)), (.int (0))] (mkH hi hl sw kp) (am_ret (cW cd_127 (d + 1) Q) 128 [some (.ref 0), some (.int x1), some (.int x2)] []))
    (h13 : ¬ ((g_108 hi x1) = 0) → ¬ x2 = 0 → ¬ x2 = 1 → ¬ x2 = 2 → ¬ x2 = 3 → ¬ x2 = 4 → Q (some (.int (-1))) (mkH hi hl sw kp))
    : cW cd_127 (d + 1) Q 0 [some (.ref 0), some (.int x1), some (.int x2)] [] (mkH hi hl sw kp) :=
  cW.run (am_in [128]) 26 (cC.of (s_108 (And.intro (fun c1 => (cQ.of (h1 c1))) (fun c2 => (And.intro (fun c3 => (And.intro (h2 c2 c3) (cQ.of (h3 c2 c3)))) (fun c4 => (And.intro (fun c5 => (And.intro (h4 c2 c4 c5) (cQ.of (h5 c2 c4 c5)))) (fun c6 => (And.intro (fun c7 => (And.intro (h6 c2 c4 c6 c7) (cQ.of (h7 c2 c4 c6 c7)))) (fun c8 => (And.intro (fun c9 => (And.intro (h8 c2 c4 c6 c8 c9) (cQ.of (h9 c2 c4 c6 c8 c9)))) (fun c10 => (And.intro (fun c11 => (And.intro (h10 c2 c4 c6 c8 c10 c11) (And.intro (fun c12 => (cC.of (h11 c2 c4 c6 c8 c10 c11 c12))) (fun c13 => (cC.of (h12 c2 c4 c6 c8 c10 c11 c13)))))) (fun c14 => (cQ.of (h13 c2 c4 c6 c8 c10 c14))))))))))))))))
theorem e_127 {x1 : Int32} {x2 : Int32}
    (h1 : (g_108 hi x1) = 0 → Q (some (.int (-1))) (mkH hi hl sw kp))
    (h2 : ¬ ((g_108 hi x1) = 0) → x2 = 0 → vp_in x1 8)
    (h3 : ¬ ((g_108 hi x1) = 0) → x2 = 0 → Q (some (.int (hi 20 x1.toNatClampNeg))) (mkH hi hl sw kp))
    (h4 : ¬ ((g_108 hi x1) = 0) → ¬ x2 = 0 → x2 = 1 → vp_in x1 8)
    (h5 : ¬ ((g_108 hi x1) = 0) → ¬ x2 = 0 → x2 = 1 → Q (some (.int (hi 29 x1.toNatClampNeg))) (mkH hi hl sw kp))
    (h6 : ¬ ((g_108 hi x1) = 0) → ¬ x2 = 0 → ¬ x2 = 1 → x2 = 2 → vp_in x1 8)
    (h7 : ¬ ((g_108 hi x1) = 0) → ¬ x2 = 0 → ¬ x2 = 1 → x2 = 2 → Q (some (.int (hi 21 x1.toNatClampNeg))) (mkH hi hl sw kp))
    (h8 : ¬ ((g_108 hi x1) = 0) → ¬ x2 = 0 → ¬ x2 = 1 → ¬ x2 = 2 → x2 = 3 → vp_in x1 8)
    (h9 : ¬ ((g_108 hi x1) = 0) → ¬ x2 = 0 → ¬ x2 = 1 → ¬ x2 = 2 → x2 = 3 → Q (some (.int (hi 22 x1.toNatClampNeg))) (mkH hi hl sw kp))
    (h10 : ¬ ((g_108 hi x1) = 0) → ¬ x2 = 0 → ¬ x2 = 1 → ¬ x2 = 2 → ¬ x2 = 3 → x2 = 4 → vp_in x1 8)
    (h11 : ¬ ((g_108 hi x1) = 0) → ¬ x2 = 0 → ¬ x2 = 1 → ¬ x2 = 2 → ¬ x2 = 3 → x2 = 4 → (hi 28 0) = x1 → cS (d + 1) 121 [(.ref 19), (.int x1), (.int (hi 29 x1.toNatClampNeg)), (.int (hi 28 1)), (.int (1))] (mkH hi hl sw kp) (am_ret (cW cd_127 (d + 1) Q) 128 [some (.ref 0), some (.int x1), some (.int x2)] []))
    (h12 : ¬ ((g_108 hi x1) = 0) → ¬ x2 = 0 → ¬ x2 = 1 → ¬ x2 = 2 → ¬ x2 = 3 → x2 = 4 → ¬ ((hi 28 0) = x1) → cS (d + 1) 121 [(.ref 19), (.int x1), (.int (hi 29 x1.toNatClampNeg)), (.int (hi 28 1)), (.int (0))] (mkH hi hl sw kp) (am_ret (cW cd_127 (d + 1) Q) 128 [some (.ref 0), some (.int x1), some (.int x2)] []))
    (h13 : ¬ ((g_108 hi x1) = 0) → ¬ x2 = 0 → ¬ x2 = 1 → ¬ x2 = 2 → ¬ x2 = 3 → ¬ x2 = 4 → Q (some (.int (-1))) (mkH hi hl sw kp))
    : cS ((d + 1) + 1) 127 [(.ref 0), (.int x1), (.int x2)] (mkH hi hl sw kp) Q := cS.of rfl (k_127_0 h1 h2 h3 h4 h5 h6 h7 h8 h9 h10 h11 h12 h13)
set_option maxRecDepth 100000 in
theorem k_127_128 {x1 : Int32} {x2 : Int32} {s0 : Int32}
    (h1 : Q (some (.int s0)) (mkH hi hl sw kp))
    : cW cd_127 (d + 1) Q 128 [some (.ref 0), some (.int x1), some (.int x2)] [(.int s0)] (mkH hi hl sw kp) :=
  cW.run (am_in [128]) 1 (cQ.of (h1))
-- 193: DogDecreesModel.readPull()V
set_option maxRecDepth 100000 in
theorem k_193_0
    (h1 : cS (d + 2) 170 [(.ref 279)] (mkH hi hl sw kp) (am_ret (cW cd_193 (d + 2) Q) 4 [some (.ref 279), none, none] []))
    : cW cd_193 (d + 2) Q 0 [some (.ref 279), none, none] [] (mkH hi hl sw kp) :=
  cW.run (am_in [4, 28, 30, 59, 67, 91, 110, 121, 145, 149, 168, 176, 188]) 2 (cC.of (h1))
theorem e_193
    (h1 : cS (d + 2) 170 [(.ref 279)] (mkH hi hl sw kp) (am_ret (cW cd_193 (d + 2) Q) 4 [some (.ref 279), none, none] []))
    : cS ((d + 2) + 1) 193 [(.ref 279)] (mkH hi hl sw kp) Q := cS.of rfl (k_193_0 h1)
set_option maxRecDepth 100000 in
theorem k_193_4
    (h1 : cS (d + 2) 190 [(.ref 279)] (mkH (u2 (u2 (u2 (u2 hi 279 17 (0)) 279 19 (0)) 279 23 (0)) 279 22 (0)) hl sw kp) (am_ret (cW cd_193 (d + 2) Q) 28 [some (.ref 279), none, none] []))
    : cW cd_193 (d + 2) Q 4 [some (.ref 279), none, none] [] (mkH hi hl sw kp) :=
  cW.run (am_in [4, 28, 30, 59, 67, 91, 110, 121, 145, 149, 168, 176, 188]) 14 (cC.of (h1))
set_option maxRecDepth 100000 in
theorem k_193_28
    (h1 : cW cd_193 (d + 2) Q 30 [some (.ref 279), some (.int (1)), none] [] (mkH hi hl sw kp))
    : cW cd_193 (d + 2) Q 28 [some (.ref 279), none, none] [] (mkH hi hl sw kp) :=
  cW.run (am_in [4, 28, 30, 59, 67, 91, 110, 121, 145, 149, 168, 176, 188]) 2 (And.intro (Nat.le_of_ble_eq_true rfl) (h1))
set_option maxRecDepth 100000 in
theorem k_193_30 {x1 : Int32} {o2 : Option Value}
    (h1 : x1 = 0 → (hi 279 2) = 0 → cS (d + 2) 192 [(.ref 279)] (mkH hi hl sw kp) (am_ret (cW cd_193 (d + 2) Q) 168 [some (.ref 279), some (.int x1), o2] []))
    (h2 : x1 = 0 → ¬ ((hi 279 2) = 0) → cW cd_193 (d + 2) Q 176 [some (.ref 279), some (.int x1), o2] [] (mkH hi hl sw kp))
    (h3 : ¬ (x1 = 0) → (hi 279 2) = 0 → (hi 279 6) = (41) → cS (d + 2) 192 [(.ref 279)] (mkH hi hl sw kp) (am_ret (cW cd_193 (d + 2) Q) 59 [some (.ref 279), some (.int x1), some (.int (g_191 hi hl))] []))
    (h4 : ¬ (x1 = 0) → (hi 279 2) = 0 → ¬ ((hi 279 6) = (41)) → (g_191 hi hl) = 0 → cW cd_193 (d + 2) Q 30 [some (.ref 279), some (.int (0)), some (.int (g_191 hi hl))] [] (mkH hi hl sw kp))
    (h5 : ¬ (x1 = 0) → (hi 279 2) = 0 → ¬ ((hi 279 6) = (41)) → ¬ ((g_191 hi hl) = 0) → (g_182 (g_191 hi hl)) = (4) → cS (d + 2) 184 [(.ref 279)] (mkH hi hl sw kp) (am_ret (cW cd_193 (d + 2) Q) 110 [some (.ref 279), some (.int x1), some (.int (g_191 hi hl))] []))
    (h6 : ¬ (x1 = 0) → (hi 279 2) = 0 → ¬ ((hi 279 6) = (41)) → ¬ ((g_191 hi hl) = 0) → ¬ ((g_182 (g_191 hi hl)) = (4)) → cS (d + 2) 183 [(.ref 279), (.int (g_182 (g_191 hi hl)))] (mkH hi hl sw kp) (am_ret (cW cd_193 (d + 2) Q) 121 [some (.ref 279), some (.int x1), some (.int (g_191 hi hl))] []))
    (h7 : ¬ (x1 = 0) → ¬ ((hi 279 2) = 0) → (hi 279 2) = 0 → cS (d + 2) 192 [(.ref 279)] (mkH hi hl sw kp) (am_ret (cW cd_193 (d + 2) Q) 168 [some (.ref 279), some (.int x1), o2] []))
    (h8 : ¬ (x1 = 0) → ¬ ((hi 279 2) = 0) → ¬ ((hi 279 2) = 0) → cW cd_193 (d + 2) Q 176 [some (.ref 279), some (.int x1), o2] [] (mkH hi hl sw kp))
    : cW cd_193 (d + 2) Q 30 [some (.ref 279), some (.int x1), o2] [] (mkH hi hl sw kp) :=
  cW.run (am_in [4, 28, 30, 59, 67, 91, 110, 121, 145, 149, 168, 176, 188]) 22 (And.intro (fun c1 => (And.intro (fun c2 => (cC.of (h1 c1 c2))) (fun c3 => (h2 c1 c3)))) (fun c4 => (And.intro (fun c5 => (cC.of (s_191 (And.intro (Nat.le_of_ble_eq_true rfl) (And.intro (fun c6 => (cC.of (h3 c4 c5 c6))) (fun c7 => (And.intro (fun c8 => (And.intro (Nat.le_of_ble_eq_true rfl) (h4 c4 c5 c7 c8))) (fun c9 => (cC.of (s_182 (And.intro (fun c10 => (cC.of (h5 c4 c5 c7 c9 c10))) (fun c11 => (cC.of (s_182 (cC.of (h6 c4 c5 c7 c9 c11)))))))))))))))) (fun c12 => (And.intro (fun c13 => (cC.of (h7 c4 c12 c13))) (fun c14 => (h8 c4 c12 c14)))))))
set_option maxRecDepth 100000 in
theorem k_193_59 {x1 : Int32} {x2 : Int32} {s0 : Int32}
    (h1 : s0 = 0 → x2 = 0 → cW cd_193 (d + 2) Q 30 [some (.ref 279), some (.int (0)), some (.int x2)] [] (mkH hi hl sw kp))
    (h2 : s0 = 0 → ¬ (x2 = 0) → (g_182 x2) = (4) → cS (d + 2) 184 [(.ref 279)] (mkH hi hl sw kp) (am_ret (cW cd_193 (d + 2) Q) 110 [some (.ref 279), some (.int x1), some (.int x2)] []))
    (h3 : s0 = 0 → ¬ (x2 = 0) → ¬ ((g_182 x2) = (4)) → cS (d + 2) 183 [(.ref 279), (.int (g_182 x2))] (mkH hi hl sw kp) (am_ret (cW cd_193 (d + 2) Q) 121 [some (.ref 279), some (.int x1), some (.int x2)] []))
    (h4 : ¬ (s0 = 0) → cS (d + 2) 183 [(.ref 279), (.int (0))] (mkH hi hl sw kp) (am_ret (cW cd_193 (d + 2) Q) 67 [some (.ref 279), some (.int x1), some (.int x2)] []))
    : cW cd_193 (d + 2) Q 59 [some (.ref 279), some (.int x1), some (.int x2)] [(.int s0)] (mkH hi hl sw kp) :=
  cW.run (am_in [4, 28, 30, 59, 67, 91, 110, 121, 145, 149, 168, 176, 188]) 11 (And.intro (fun c1 => (And.intro (fun c2 => (And.intro (Nat.le_of_ble_eq_true rfl) (h1 c1 c2))) (fun c3 => (cC.of (s_182 (And.intro (fun c4 => (cC.of (h2 c1 c3 c4))) (fun c5 => (cC.of (s_182 (cC.of (h3 c1 c3 c5))))))))))) (fun c6 => (cC.of (h4 c6))))
set_option maxRecDepth 100000 in
theorem k_193_67 {x1 : Int32} {x2 : Int32}
    (h1 : cS (d + 2) 170 [(.ref 279)] (mkH (u2 (u2 hi 279 19 ((hi 279 19) - (1))) 279 23 ((hi 279 23) - (1))) hl sw kp) (am_ret (cW cd_193 (d + 2) Q) 91 [some (.ref 279), some (.int x1), some (.int x2)] []))
    : cW cd_193 (d + 2) Q 67 [some (.ref 279), some (.int x1), some (.int x2)] [] (mkH hi hl sw kp) :=
  cW.run (am_in [4, 28, 30, 59, 67, 91, 110, 121, 145, 149, 168, 176, 188]) 14 (And.intro rfl (And.intro rfl (cC.of (h1))))
set_option maxRecDepth 100000 in
theorem k_193_91 {x1 : Int32} {x2 : Int32}
    (h1 : cW cd_193 (d + 2) Q 30 [some (.ref 279), some (.int x1), some (.int x2)] [] (mkH hi hl sw kp))
    : cW cd_193 (d + 2) Q 91 [some (.ref 279), some (.int x1), some (.int x2)] [] (mkH hi hl sw kp) :=
  cW.run (am_in [4, 28, 30, 59, 67, 91, 110, 121, 145, 149, 168, 176, 188]) 2 (h1)
set_option maxRecDepth 100000 in
theorem k_193_110 {x1 : Int32} {x2 : Int32} {s0 : Int32}
    (h1 : s0 = 0 → cS (d + 2) 183 [(.ref 279), (.int (g_182 x2))] (mkH hi hl sw kp) (am_ret (cW cd_193 (d + 2) Q) 121 [some (.ref 279), some (.int x1), some (.int x2)] []))
    (h2 : ¬ (s0 = 0) → cW cd_193 (d + 2) Q 30 [some (.ref 279), some (.int (0)), some (.int x2)] [] (mkH hi hl sw kp))
    : cW cd_193 (d + 2) Q 110 [some (.ref 279), some (.int x1), some (.int x2)] [(.int s0)] (mkH hi hl sw kp) :=
  cW.run (am_in [4, 28, 30, 59, 67, 91, 110, 121, 145, 149, 168, 176, 188]) 5 (And.intro (fun c1 => (cC.of (s_182 (cC.of (h1 c1))))) (fun c2 => (And.intro (Nat.le_of_ble_eq_true rfl) (h2 c2))))
set_option maxRecDepth 100000 in
theorem k_193_121 {x1 : Int32} {x2 : Int32}
    (h1 : vp_in (hi 279 19) 160)
    (h2 : cS (d + 2) 170 [(.ref 279)] (mkH (u2 (u2 hi 286 (hi 279 19).toNatClampNeg x2) 279 19 ((hi 279 19) + (1))) hl sw kp) (am_ret (cW cd_193 (d + 2) Q) 145 [some (.ref 279), some (.int x1), some (.int x2)] []))
    : cW cd_193 (d + 2) Q 121 [some (.ref 279), some (.int x1), some (.int x2)] [] (mkH hi hl sw kp) :=
  cW.run (am_in [4, 28, 30, 59, 67, 91, 110, 121, 145, 149, 168, 176, 188]) 14 (And.intro (h1) (And.intro rfl (cC.of (h2))))
set_option maxRecDepth 100000 in
theorem k_193_145 {x1 : Int32} {x2 : Int32}
    (h1 : cS (d + 2) 190 [(.ref 279)] (mkH hi hl sw kp) (am_ret (cW cd_193 (d + 2) Q) 149 [some (.ref 279), some (.int x1), some (.int x2)] []))
    : cW cd_193 (d + 2) Q 145 [some (.ref 279), some (.int x1), some (.int x2)] [] (mkH hi hl sw kp) :=
  cW.run (am_in [4, 28, 30, 59, 67, 91, 110, 121, 145, 149, 168, 176, 188]) 2 (cC.of (h1))
set_option maxRecDepth 100000 in
theorem k_193_149 {x1 : Int32} {x2 : Int32}
    (h1 : cW cd_193 (d + 2) Q 30 [some (.ref 279), some (.int x1), some (.int x2)] [] (mkH hi hl sw kp))
    : cW cd_193 (d + 2) Q 149 [some (.ref 279), some (.int x1), some (.int x2)] [] (mkH hi hl sw kp) :=
  cW.run (am_in [4, 28, 30, 59, 67, 91, 110, 121, 145, 149, 168, 176, 188]) 2 (h1)
set_option maxRecDepth 100000 in
theorem k_193_168 {x1 : Int32} {o2 : Option Value} {s0 : Int32}
    (h1 : s0 = 0 → cW cd_193 (d + 2) Q 176 [some (.ref 279), some (.int x1), o2] [] (mkH hi hl sw kp))
    (h2 : ¬ (s0 = 0) → cS (d + 2) 171 [(.ref 279), (.int (2))] (mkH hi hl sw kp) (am_ret (cW cd_193 (d + 2) Q) 176 [some (.ref 279), some (.int x1), o2] []))
    : cW cd_193 (d + 2) Q 168 [some (.ref 279), some (.int x1), o2] [(.int s0)] (mkH hi hl sw kp) :=
  cW.run (am_in [4, 28, 30, 59, 67, 91, 110, 121, 145, 149, 168, 176, 188]) 4 (And.intro (fun c1 => (h1 c1)) (fun c2 => (cC.of (h2 c2))))
set_option maxRecDepth 100000 in
theorem k_193_176 {x1 : Int32} {o2 : Option Value}
    (h1 : (hi 279 2) = 0 → cS (d + 2) 183 [(.ref 279), (.int (0))] (mkH hi hl sw kp) (am_ret (cW cd_193 (d + 2) Q) 188 [some (.ref 279), some (.int x1), o2] []))
    (h2 : ¬ ((hi 279 2) = 0) → cW cd_193 (d + 2) Q 188 [some (.ref 279), some (.int x1), o2] [] (mkH hi hl sw kp))
    : cW cd_193 (d + 2) Q 176 [some (.ref 279), some (.int x1), o2] [] (mkH hi hl sw kp) :=
  cW.run (am_in [4, 28, 30, 59, 67, 91, 110, 121, 145, 149, 168, 176, 188]) 6 (And.intro (fun c1 => (cC.of (h1 c1))) (fun c2 => (h2 c2)))
set_option maxRecDepth 100000 in
theorem k_193_188 {x1 : Int32} {o2 : Option Value}
    (h1 : Q none (mkH hi hl sw kp))
    : cW cd_193 (d + 2) Q 188 [some (.ref 279), some (.int x1), o2] [] (mkH hi hl sw kp) :=
  cW.run (am_in [4, 28, 30, 59, 67, 91, 110, 121, 145, 149, 168, 176, 188]) 1 (cQ.of (h1))
-- 198: DogDecreesModel.readPlace()V
set_option maxRecDepth 100000 in
theorem k_198_0
    (h1 : cS d 179 [(.ref 279), (.int (4)), (.int (hi 279 36))] (mkH hi hl sw kp) (am_ret (cW cd_198 d Q) 9 [some (.ref 279), none] []))
    : cW cd_198 d Q 0 [some (.ref 279), none] [] (mkH hi hl sw kp) :=
  cW.run (am_in [9, 29, 37, 51, 63]) 5 (cC.of (h1))
theorem e_198
    (h1 : cS d 179 [(.ref 279), (.int (4)), (.int (hi 279 36))] (mkH hi hl sw kp) (am_ret (cW cd_198 d Q) 9 [some (.ref 279), none] []))
    : cS (d + 1) 198 [(.ref 279)] (mkH hi hl sw kp) Q := cS.of rfl (k_198_0 h1)
set_option maxRecDepth 100000 in
theorem k_198_9
    (h1 : cS d 177 [(.ref 279), (.long (495756602476)), (.int (0)), (.int (9))] (mkH hi hl sw kp) (am_ret (cW cd_198 d Q) 29 [some (.ref 279), some (.int (hi 279 36))] [(.int (hi 279 36)), (.ref 289)]))
    : cW cd_198 d Q 9 [some (.ref 279), none] [] (mkH hi hl sw kp) :=
  cW.run (am_in [9, 29, 37, 51, 63]) 11 (And.intro (Nat.le_of_ble_eq_true rfl) (cC.of (h1)))
set_option maxRecDepth 100000 in
theorem k_198_29 {x1 : Int32} {s1 : Int32} {s2 : Int32}
    (h1 : vp_in s1 8)
    (h2 : cS d 175 [(.ref 279), (.long (1685022067))] (mkH (u2 hi 289 s1.toNatClampNeg s2) hl sw kp) (am_ret (cW cd_198 d Q) 37 [some (.ref 279), some (.int x1)] []))
    : cW cd_198 d Q 29 [some (.ref 279), some (.int x1)] [(.int s2), (.int s1), (.ref 289)] (mkH hi hl sw kp) :=
  cW.run (am_in [9, 29, 37, 51, 63]) 4 (And.intro (h1) (cC.of (h2)))
set_option maxRecDepth 100000 in
theorem k_198_37 {x1 : Int32}
    (h1 : cS d 180 [(.ref 279), (.int (0)), (.int (hi 279 35))] (mkH hi hl sw kp) (am_ret (cW cd_198 d Q) 51 [some (.ref 279), some (.int x1)] [(.int x1), (.ref 290)]))
    : cW cd_198 d Q 37 [some (.ref 279), some (.int x1)] [] (mkH hi hl sw kp) :=
  cW.run (am_in [9, 29, 37, 51, 63]) 8 (cC.of (h1))
set_option maxRecDepth 100000 in
theorem k_198_51 {x1 : Int32} {s1 : Int32} {s2 : Int32}
    (h1 : vp_in s1 8)
    (h2 : (hi 279 2) = 0 → cS d 170 [(.ref 279)] (mkH (u2 hi 290 s1.toNatClampNeg s2) hl sw kp) (am_ret (cW cd_198 d Q) 63 [some (.ref 279), some (.int x1)] []))
    (h3 : ¬ ((hi 279 2) = 0) → cW cd_198 d Q 63 [some (.ref 279), some (.int x1)] [] (mkH (u2 hi 290 s1.toNatClampNeg s2) hl sw kp))
    : cW cd_198 d Q 51 [some (.ref 279), some (.int x1)] [(.int s2), (.int s1), (.ref 290)] (mkH hi hl sw kp) :=
  cW.run (am_in [9, 29, 37, 51, 63]) 6 (And.intro (h1) (And.intro (fun c1 => (cC.of (h2 c1))) (fun c2 => (h3 c2))))
set_option maxRecDepth 100000 in
theorem k_198_63 {x1 : Int32}
    (h1 : vp_in x1 8)
    (h2 : (hi 279 2) = 0 → Q none (mkH (u2 (u2 hi 291 x1.toNatClampNeg (0)) 279 36 ((hi 279 36) + (1))) hl sw kp))
    (h3 : ¬ ((hi 279 2) = 0) → Q none (mkH (u2 hi 291 x1.toNatClampNeg (0)) hl sw kp))
    : cW cd_198 d Q 63 [some (.ref 279), some (.int x1)] [] (mkH hi hl sw kp) :=
  cW.run (am_in [9, 29, 37, 51, 63]) 15 (And.intro (h1) (And.intro (fun c1 => (And.intro rfl (cQ.of (h2 c1)))) (fun c2 => (cQ.of (h3 c2)))))
-- 200: DogDecreesModel.readCase()V
set_option maxRecDepth 100000 in
theorem k_200_0
    (h1 : cS d 179 [(.ref 279), (.int (12)), (.int (hi 279 38))] (mkH hi hl sw kp) (am_ret (cW cd_200 d Q) 10 [some (.ref 279)] []))
    : cW cd_200 d Q 0 [some (.ref 279)] [] (mkH hi hl sw kp) :=
  cW.run (am_in [10, 28]) 5 (cC.of (h1))
theorem e_200
    (h1 : cS d 179 [(.ref 279), (.int (12)), (.int (hi 279 38))] (mkH hi hl sw kp) (am_ret (cW cd_200 d Q) 10 [some (.ref 279)] []))
    : cS (d + 1) 200 [(.ref 279)] (mkH hi hl sw kp) Q := cS.of rfl (k_200_0 h1)
set_option maxRecDepth 100000 in
theorem k_200_10
    (h1 : cS d 177 [(.ref 279), (.long (6447474)), (.int (1)), (.int (15))] (mkH hi hl sw kp) (am_ret (cW cd_200 d Q) 28 [some (.ref 279)] [(.int (hi 279 38)), (.ref 292)]))
    : cW cd_200 d Q 10 [some (.ref 279)] [] (mkH hi hl sw kp) :=
  cW.run (am_in [10, 28]) 9 (cC.of (h1))
set_option maxRecDepth 100000 in
theorem k_200_28 {s1 : Int32} {s2 : Int32}
    (h1 : vp_in s1 4)
    (h2 : (hi 279 2) = 0 → Q none (mkH (u2 (u2 hi 292 s1.toNatClampNeg s2) 279 38 ((hi 279 38) + (1))) hl sw kp))
    (h3 : ¬ ((hi 279 2) = 0) → Q none (mkH (u2 hi 292 s1.toNatClampNeg s2) hl sw kp))
    : cW cd_200 d Q 28 [some (.ref 279)] [(.int s2), (.int s1), (.ref 292)] (mkH hi hl sw kp) :=
  cW.run (am_in [10, 28]) 11 (And.intro (h1) (And.intro (fun c1 => (And.intro rfl (cQ.of (h2 c1)))) (fun c2 => (cQ.of (h3 c2)))))
-- 215: DogDecreesModel.layPulls(I)I
set_option maxRecDepth 100000 in
theorem k_215_0 {x1 : Int32}
    (h1 : cW cd_215 (d + 1) Q 4 [some (.ref 279), some (.int x1), some (.int (0)), some (.int (0))] [] (mkH hi hl sw kp))
    : cW cd_215 (d + 1) Q 0 [some (.ref 279), some (.int x1), none, none] [] (mkH hi hl sw kp) :=
  cW.run (am_in [4, 41]) 4 (And.intro (Nat.le_of_ble_eq_true rfl) (And.intro (Nat.le_of_ble_eq_true rfl) (h1)))
theorem e_215 {x1 : Int32}
    (h1 : cW cd_215 (d + 1) Q 4 [some (.ref 279), some (.int x1), some (.int (0)), some (.int (0))] [] (mkH hi hl sw kp))
    : cS ((d + 1) + 1) 215 [(.ref 279), (.int x1)] (mkH hi hl sw kp) Q := cS.of rfl (k_215_0 h1)
set_option maxRecDepth 100000 in
theorem k_215_4 {x1 : Int32} {x2 : Int32} {x3 : Int32}
    (h1 : (hi 279 46) ≤ x3 → Q (some (.int x2)) (mkH hi hl sw kp))
    (h2 : ¬ ((hi 279 46) ≤ x3) → ¬ (x1 = x3) → vp_in x1 8)
    (h3 : ¬ ((hi 279 46) ≤ x3) → (g_214 hi x1 x3) = 0 → vp_in x3 8)
    (h4 : ¬ ((hi 279 46) ≤ x3) → (g_214 hi x1 x3) = 0 → cW cd_215 (d + 1) Q 4 [some (.ref 279), some (.int x1), some (.int (x2 + ((u2 hi 301 x3.toNatClampNeg (0)) 301 x3.toNatClampNeg))), some (.int (x3 + (1)))] [] (mkH (u2 hi 301 x3.toNatClampNeg (0)) hl sw kp))
    (h5 : ¬ ((hi 279 46) ≤ x3) → ¬ ((g_214 hi x1 x3) = 0) → x3 = x1 → cS (d + 1) 213 [(.ref 279), (.int x3), (.int (1))] (mkH hi hl sw kp) (am_ret (cW cd_215 (d + 1) Q) 41 [some (.ref 279), some (.int x1), some (.int x2), some (.int x3)] [(.int x3), (.ref 301)]))
    (h6 : ¬ ((hi 279 46) ≤ x3) → ¬ ((g_214 hi x1 x3) = 0) → ¬ (x3 = x1) → cS (d + 1) 213 [(.ref 279), (.int x3), (.int (0))] (mkH hi hl sw kp) (am_ret (cW cd_215 (d + 1) Q) 41 [some (.ref 279), some (.int x1), some (.int x2), some (.int x3)] [(.int x3), (.ref 301)]))
    : cW cd_215 (d + 1) Q 4 [some (.ref 279), some (.int x1), some (.int x2), some (.int x3)] [] (mkH hi hl sw kp) :=
  cW.run (am_in [4, 41]) 23 (And.intro (fun c1 => (cQ.of (h1 c1))) (fun c2 => (cC.of (s_214 (h2 c2) (And.intro (fun c3 => (And.intro (h3 c2 c3) (And.intro (h3 c2 c3) (And.intro (Nat.le_of_ble_eq_true rfl) (And.intro (Nat.le_of_ble_eq_true rfl) (h4 c2 c3)))))) (fun c4 => (And.intro (fun c5 => (cC.of (h5 c2 c4 c5))) (fun c6 => (cC.of (h6 c2 c4 c6))))))))))
set_option maxRecDepth 100000 in
theorem k_215_41 {x1 : Int32} {x2 : Int32} {x3 : Int32} {s1 : Int32} {s2 : Int32}
    (h1 : vp_in s1 8)
    (h2 : vp_in x3 8)
    (h3 : cW cd_215 (d + 1) Q 4 [some (.ref 279), some (.int x1), some (.int (x2 + ((u2 hi 301 s1.toNatClampNeg s2) 301 x3.toNatClampNeg))), some (.int (x3 + (1)))] [] (mkH (u2 hi 301 s1.toNatClampNeg s2) hl sw kp))
    : cW cd_215 (d + 1) Q 41 [some (.ref 279), some (.int x1), some (.int x2), some (.int x3)] [(.int s2), (.int s1), (.ref 301)] (mkH hi hl sw kp) :=
  cW.run (am_in [4, 41]) 11 (And.intro (h1) (And.intro (h2) (And.intro (Nat.le_of_ble_eq_true rfl) (And.intro (Nat.le_of_ble_eq_true rfl) (h3)))))
end BLK
