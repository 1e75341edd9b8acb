/-! ===== blocks of methods, by program ===== -/
section BLK
variable {d : Nat} {Q : am_Q} {hi : Nat → Nat → Int32} {hl : Nat → Nat → Int64} {sw : Bool} {kp : Nat → Nat}
-- 123: DogDecrees.feed(IIIII)I
set_option maxRecDepth 100000 in
theorem k_123_0 {x1 : Int32} {x2 : Int32} {x3 : Int32} {x4 : Int32} {x5 : Int32}
    (h1 : (hi 1 1) ≤ (1580) → cS d 87 [(.ref 1), (.int x1)] (mkH hi hl sw kp) (am_ret (cW cd_123 d Q) 23 [some (.ref 0), some (.int x1), some (.int x2), some (.int x3), some (.int x4), some (.int x5)] []))
    (h2 : ¬ ((hi 1 1) ≤ (1580)) → Q (some (.int (-1))) (mkH hi hl sw kp))
    : cW cd_123 d Q 0 [some (.ref 0), some (.int x1), some (.int x2), some (.int x3), some (.int x4), some (.int x5)] [] (mkH hi hl sw kp) :=
  cW.run (am_in [23, 31, 39, 48, 57]) 9 (And.intro (fun c1 => (cC.of (h1 c1))) (fun c2 => (cQ.of (h2 c2))))
theorem e_123 {x1 : Int32} {x2 : Int32} {x3 : Int32} {x4 : Int32} {x5 : Int32}
    (h1 : (hi 1 1) ≤ (1580) → cS d 87 [(.ref 1), (.int x1)] (mkH hi hl sw kp) (am_ret (cW cd_123 d Q) 23 [some (.ref 0), some (.int x1), some (.int x2), some (.int x3), some (.int x4), some (.int x5)] []))
    (h2 : ¬ ((hi 1 1) ≤ (1580)) → Q (some (.int (-1))) (mkH hi hl sw kp))
    : cS (d + 1) 123 [(.ref 0), (.int x1), (.int x2), (.int x3), (.int x4), (.int x5)] (mkH hi hl sw kp) Q := cS.of rfl (k_123_0 h1 h2)
set_option maxRecDepth 100000 in
theorem k_123_23 {x1 : Int32} {x2 : Int32} {x3 : Int32} {x4 : Int32} {x5 : Int32}
    (h1 : cS d 87 [(.ref 1), (.int x2)] (mkH hi hl sw kp) (am_ret (cW cd_123 d Q) 31 [some (.ref 0), some (.int x1), some (.int x2), some (.int x3), some (.int x4), some (.int x5)] []))
    : cW cd_123 d Q 23 [some (.ref 0), some (.int x1), some (.int x2), some (.int x3), some (.int x4), some (.int x5)] [] (mkH hi hl sw kp) :=
  cW.run (am_in [23, 31, 39, 48, 57]) 4 (cC.of (h1))
set_option maxRecDepth 100000 in
theorem k_123_31 {x1 : Int32} {x2 : Int32} {x3 : Int32} {x4 : Int32} {x5 : Int32}
    (h1 : cS d 87 [(.ref 1), (.int x3)] (mkH hi hl sw kp) (am_ret (cW cd_123 d Q) 39 [some (.ref 0), some (.int x1), some (.int x2), some (.int x3), some (.int x4), some (.int x5)] []))
    : cW cd_123 d Q 31 [some (.ref 0), some (.int x1), some (.int x2), some (.int x3), some (.int x4), some (.int x5)] [] (mkH hi hl sw kp) :=
  cW.run (am_in [23, 31, 39, 48, 57]) 4 (cC.of (h1))
set_option maxRecDepth 100000 in
theorem k_123_39 {x1 : Int32} {x2 : Int32} {x3 : Int32} {x4 : Int32} {x5 : Int32}
    (h1 : cS d 87 [(.ref 1), (.int x4)] (mkH hi hl sw kp) (am_ret (cW cd_123 d Q) 48 [some (.ref 0), some (.int x1), some (.int x2), some (.int x3), some (.int x4), some (.int x5)] []))
    : cW cd_123 d Q 39 [some (.ref 0), some (.int x1), some (.int x2), some (.int x3), some (.int x4), some (.int x5)] [] (mkH hi hl sw kp) :=
  cW.run (am_in [23, 31, 39, 48, 57]) 4 (cC.of (h1))
set_option maxRecDepth 100000 in
theorem k_123_48 {x1 : Int32} {x2 : Int32} {x3 : Int32} {x4 : Int32} {x5 : Int32}
    (h1 : cS d 87 [(.ref 1), (.int x5)] (mkH hi hl sw kp) (am_ret (cW cd_123 d Q) 57 [some (.ref 0), some (.int x1), some (.int x2), some (.int x3), some (.int x4), some (.int x5)] []))
    : cW cd_123 d Q 48 [some (.ref 0), some (.int x1), some (.int x2), some (.int x3), some (.int x4), some (.int x5)] [] (mkH hi hl sw kp) :=
  cW.run (am_in [23, 31, 39, 48, 57]) 4 (cC.of (h1))
set_option maxRecDepth 100000 in
theorem k_123_57 {x1 : Int32} {x2 : Int32} {x3 : Int32} {x4 : Int32} {x5 : Int32}
    (h1 : Q (some (.int (hi 1 1))) (mkH hi hl sw kp))
    : cW cd_123 d Q 57 [some (.ref 0), some (.int x1), some (.int x2), some (.int x3), some (.int x4), some (.int x5)] [] (mkH hi hl sw kp) :=
  cW.run (am_in [23, 31, 39, 48, 57]) 4 (cQ.of (h1))
-- 128: DogDecrees.hearing(II)I
set_option maxRecDepth 100000 in
theorem k_128_0 {x1 : Int32} {x2 : Int32}
    (h1 : (g_109 hi x1) = 0 → Q (some (.int (-1000000))) (mkH hi hl sw kp))
    (h2 : ¬ ((g_109 hi x1) = 0) → x2 = 0 → vp_in x1 4)
    (h3 : ¬ ((g_109 hi x1) = 0) → x2 = 0 → Q (some (.int (hi 30 x1.toNatClampNeg))) (mkH hi hl sw kp))
    (h4 : ¬ ((g_109 hi x1) = 0) → ¬ x2 = 0 → x2 = 1 → vp_in x1 4)
    (h5 : ¬ ((g_109 hi x1) = 0) → ¬ x2 = 0 → x2 = 1 → Q (some (.int (hi 23 x1.toNatClampNeg))) (mkH hi hl sw kp))
    (h6 : ¬ ((g_109 hi x1) = 0) → ¬ x2 = 0 → ¬ x2 = 1 → x2 = 2 → vp_in x1 4)
    (h7 : ¬ ((g_109 hi x1) = 0) → ¬ x2 = 0 → ¬ x2 = 1 → x2 = 2 → Q (some (.int (hi 31 x1.toNatClampNeg))) (mkH hi hl sw kp))
    (h8 : ¬ ((g_109 hi x1) = 0) → ¬ x2 = 0 → ¬ x2 = 1 → ¬ x2 = 2 → x2 = 3 → (g_120 hi (hi 28 1)) = x1 → Q (some (.int (1))) (mkH hi hl sw kp))
    (h9 : ¬ ((g_109 hi x1) = 0) → ¬ x2 = 0 → ¬ x2 = 1 → ¬ x2 = 2 → x2 = 3 → ¬ ((g_120 hi (hi 28 1)) = x1) → Q (some (.int (0))) (mkH hi hl sw kp))
    (h10 : ¬ ((g_109 hi x1) = 0) → ¬ x2 = 0 → ¬ x2 = 1 → ¬ x2 = 2 → ¬ x2 = 3 → Q (some (.int (-1000000))) (mkH hi hl sw kp))
    : cW cd_128 (d + 1) Q 0 [some (.ref 0), some (.int x1), some (.int x2)] [] (mkH hi hl sw kp) :=
  cW.run (am_in []) 18 (cC.of (s_109 (And.intro (fun c1 => (cQ.of (h1 c1))) (fun c2 => (And.intro (fun c3 => (And.intro (h2 c2 c3) (cQ.of (h3 c2 c3)))) (fun c4 => (And.intro (fun c5 => (And.intro (h4 c2 c4 c5) (cQ.of (h5 c2 c4 c5)))) (fun c6 => (And.intro (fun c7 => (And.intro (h6 c2 c4 c6 c7) (cQ.of (h7 c2 c4 c6 c7)))) (fun c8 => (And.intro (fun c9 => (cC.of (s_120 (And.intro (fun c10 => (cQ.of (h8 c2 c4 c6 c8 c9 c10))) (fun c11 => (cQ.of (h9 c2 c4 c6 c8 c9 c11))))))) (fun c12 => (cQ.of (h10 c2 c4 c6 c8 c12))))))))))))))
theorem e_128 {x1 : Int32} {x2 : Int32}
    (h1 : (g_109 hi x1) = 0 → Q (some (.int (-1000000))) (mkH hi hl sw kp))
    (h2 : ¬ ((g_109 hi x1) = 0) → x2 = 0 → vp_in x1 4)
    (h3 : ¬ ((g_109 hi x1) = 0) → x2 = 0 → Q (some (.int (hi 30 x1.toNatClampNeg))) (mkH hi hl sw kp))
    (h4 : ¬ ((g_109 hi x1) = 0) → ¬ x2 = 0 → x2 = 1 → vp_in x1 4)
    (h5 : ¬ ((g_109 hi x1) = 0) → ¬ x2 = 0 → x2 = 1 → Q (some (.int (hi 23 x1.toNatClampNeg))) (mkH hi hl sw kp))
    (h6 : ¬ ((g_109 hi x1) = 0) → ¬ x2 = 0 → ¬ x2 = 1 → x2 = 2 → vp_in x1 4)
    (h7 : ¬ ((g_109 hi x1) = 0) → ¬ x2 = 0 → ¬ x2 = 1 → x2 = 2 → Q (some (.int (hi 31 x1.toNatClampNeg))) (mkH hi hl sw kp))
    (h8 : ¬ ((g_109 hi x1) = 0) → ¬ x2 = 0 → ¬ x2 = 1 → ¬ x2 = 2 → x2 = 3 → (g_120 hi (hi 28 1)) = x1 → Q (some (.int (1))) (mkH hi hl sw kp))
    (h9 : ¬ ((g_109 hi x1) = 0) → ¬ x2 = 0 → ¬ x2 = 1 → ¬ x2 = 2 → x2 = 3 → ¬ ((g_120 hi (hi 28 1)) = x1) → Q (some (.int (0))) (mkH hi hl sw kp))
    (h10 : ¬ ((g_109 hi x1) = 0) → ¬ x2 = 0 → ¬ x2 = 1 → ¬ x2 = 2 → ¬ x2 = 3 → Q (some (.int (-1000000))) (mkH hi hl sw kp))
    : cS ((d + 1) + 1) 128 [(.ref 0), (.int x1), (.int x2)] (mkH hi hl sw kp) Q := cS.of rfl (k_128_0 h1 h2 h3 h4 h5 h6 h7 h8 h9 h10)
def g_128 (hi : Nat → Nat → Int32) (x1 : Int32) (x2 : Int32) : Int32 := if (g_109 hi x1) = 0 then (-1000000) else (if x2 = 0 then (hi 30 x1.toNatClampNeg) else (if x2 = 1 then (hi 23 x1.toNatClampNeg) else (if x2 = 2 then (hi 31 x1.toNatClampNeg) else (if x2 = 3 then if (g_120 hi (hi 28 1)) = x1 then (1) else ((0)) else ((-1000000))))))
set_option maxRecDepth 100000 in
theorem s_128 {x1 : Int32} {x2 : Int32} (o1 : ¬ ((g_109 hi x1) = 0) → x2 = 0 → vp_in x1 4) (o2 : ¬ ((g_109 hi x1) = 0) → ¬ x2 = 0 → x2 = 1 → vp_in x1 4) (o3 : ¬ ((g_109 hi x1) = 0) → ¬ x2 = 0 → ¬ x2 = 1 → x2 = 2 → vp_in x1 4) (w : Q (some (.int (g_128 hi x1 x2))) (mkH hi hl sw kp)) : cS ((d + 1) + 1) 128 [(.ref 0), (.int x1), (.int x2)] (mkH hi hl sw kp) Q :=
  e_128 (fun c1 => by
      have e : g_128 hi x1 x2 = (-1000000) := by
        unfold g_128
        rw [if_pos c1]
      rw [e] at w
      exact w) o1 (fun c2 c3 => by
      have e : g_128 hi x1 x2 = (hi 30 x1.toNatClampNeg) := by
        unfold g_128
        rw [if_neg c2, if_pos c3]
      rw [e] at w
      exact w) o2 (fun c2 c4 c5 => by
      have e : g_128 hi x1 x2 = (hi 23 x1.toNatClampNeg) := by
        unfold g_128
        rw [if_neg c2, if_neg c4, if_pos c5]
      rw [e] at w
      exact w) o3 (fun c2 c4 c6 c7 => by
      have e : g_128 hi x1 x2 = (hi 31 x1.toNatClampNeg) := by
        unfold g_128
        rw [if_neg c2, if_neg c4, if_neg c6, if_pos c7]
      rw [e] at w
      exact w) (fun c2 c4 c6 c8 c9 c10 => by
      have e : g_128 hi x1 x2 = (1) := by
        unfold g_128
        rw [if_neg c2, if_neg c4, if_neg c6, if_neg c8, if_pos c9, if_pos c10]
      rw [e] at w
      exact w) (fun c2 c4 c6 c8 c9 c11 => by
      have e : g_128 hi x1 x2 = (0) := by
        unfold g_128
        rw [if_neg c2, if_neg c4, if_neg c6, if_neg c8, if_pos c9, if_neg c11]
      rw [e] at w
      exact w) (fun c2 c4 c6 c8 c12 => by
      have e : g_128 hi x1 x2 = (-1000000) := by
        unfold g_128
        rw [if_neg c2, if_neg c4, if_neg c6, if_neg c8, if_neg c12]
      rw [e] at w
      exact w)
-- 129: DogDecrees.table(II)I
set_option maxRecDepth 100000 in
theorem k_129_0 {x1 : Int32} {x2 : Int32}
    (h1 : (g_110 hi x1) = 0 → Q (some (.int (-1000000))) (mkH hi hl sw kp))
    (h2 : ¬ ((g_110 hi x1) = 0) → (g_109 hi x2) = 0 → Q (some (.int (-1000000))) (mkH hi hl sw kp))
    (h3 : ¬ ((g_110 hi x1) = 0) → ¬ ((g_109 hi x2) = 0) → vp_in ((x1 * (4)) + x2) 16)
    (h4 : ¬ ((g_110 hi x1) = 0) → ¬ ((g_109 hi x2) = 0) → Q (some (.int (hi 24 ((x1 * (4)) + x2).toNatClampNeg))) (mkH hi hl sw kp))
    : cW cd_129 (d + 1) Q 0 [some (.ref 0), some (.int x1), some (.int x2)] [] (mkH hi hl sw kp) :=
  cW.run (am_in []) 20 (cC.of (s_110 (And.intro (fun c1 => (cQ.of (h1 c1))) (fun c2 => (cC.of (s_109 (And.intro (fun c3 => (cQ.of (h2 c2 c3))) (fun c4 => (And.intro (h3 c2 c4) (cQ.of (h4 c2 c4)))))))))))
theorem e_129 {x1 : Int32} {x2 : Int32}
    (h1 : (g_110 hi x1) = 0 → Q (some (.int (-1000000))) (mkH hi hl sw kp))
    (h2 : ¬ ((g_110 hi x1) = 0) → (g_109 hi x2) = 0 → Q (some (.int (-1000000))) (mkH hi hl sw kp))
    (h3 : ¬ ((g_110 hi x1) = 0) → ¬ ((g_109 hi x2) = 0) → vp_in ((x1 * (4)) + x2) 16)
    (h4 : ¬ ((g_110 hi x1) = 0) → ¬ ((g_109 hi x2) = 0) → Q (some (.int (hi 24 ((x1 * (4)) + x2).toNatClampNeg))) (mkH hi hl sw kp))
    : cS ((d + 1) + 1) 129 [(.ref 0), (.int x1), (.int x2)] (mkH hi hl sw kp) Q := cS.of rfl (k_129_0 h1 h2 h3 h4)
def g_129 (hi : Nat → Nat → Int32) (x1 : Int32) (x2 : Int32) : Int32 := if (g_110 hi x1) = 0 then (-1000000) else (if (g_109 hi x2) = 0 then (-1000000) else ((hi 24 ((x1 * (4)) + x2).toNatClampNeg)))
set_option maxRecDepth 100000 in
theorem s_129 {x1 : Int32} {x2 : Int32} (o1 : ¬ ((g_110 hi x1) = 0) → ¬ ((g_109 hi x2) = 0) → vp_in ((x1 * (4)) + x2) 16) (w : Q (some (.int (g_129 hi x1 x2))) (mkH hi hl sw kp)) : cS ((d + 1) + 1) 129 [(.ref 0), (.int x1), (.int x2)] (mkH hi hl sw kp) Q :=
  e_129 (fun c1 => by
      have e : g_129 hi x1 x2 = (-1000000) := by
        unfold g_129
        rw [if_pos c1]
      rw [e] at w
      exact w) (fun c2 c3 => by
      have e : g_129 hi x1 x2 = (-1000000) := by
        unfold g_129
        rw [if_neg c2, if_pos c3]
      rw [e] at w
      exact w) o1 (fun c2 c4 => by
      have e : g_129 hi x1 x2 = (hi 24 ((x1 * (4)) + x2).toNatClampNeg) := by
        unfold g_129
        rw [if_neg c2, if_neg c4]
      rw [e] at w
      exact w)
-- 145: DogDecrees.walk(I)I
set_option maxRecDepth 100000 in
theorem k_145_0 {x1 : Int32}
    (h1 : ¬ (x1 < 0) → ¬ ((60) ≤ x1) → x1 < (hi 28 1) → vp_in ((((hi 28 1) - (1)) - x1) - (((hi 28 1) - (1)) - x1) / (60) * (60)) 60)
    (h2 : Q (some (.int (g_83 hi x1))) (mkH hi hl sw kp))
    : cW cd_145 (d + 1) Q 0 [some (.ref 0), some (.int x1)] [] (mkH hi hl sw kp) :=
  cW.run (am_in []) 5 (cC.of (s_83 (h1) (cQ.of (h2))))
theorem e_145 {x1 : Int32}
    (h1 : ¬ (x1 < 0) → ¬ ((60) ≤ x1) → x1 < (hi 28 1) → vp_in ((((hi 28 1) - (1)) - x1) - (((hi 28 1) - (1)) - x1) / (60) * (60)) 60)
    (h2 : Q (some (.int (g_83 hi x1))) (mkH hi hl sw kp))
    : cS ((d + 1) + 1) 145 [(.ref 0), (.int x1)] (mkH hi hl sw kp) Q := cS.of rfl (k_145_0 h1 h2)
def g_145 (hi : Nat → Nat → Int32) (x1 : Int32) : Int32 := (g_83 hi x1)
set_option maxRecDepth 100000 in
theorem s_145 {x1 : Int32} (o1 : ¬ (x1 < 0) → ¬ ((60) ≤ x1) → x1 < (hi 28 1) → vp_in ((((hi 28 1) - (1)) - x1) - (((hi 28 1) - (1)) - x1) / (60) * (60)) 60) (w : Q (some (.int (g_145 hi x1))) (mkH hi hl sw kp)) : cS ((d + 1) + 1) 145 [(.ref 0), (.int x1)] (mkH hi hl sw kp) Q :=
  e_145 o1 (by
      have e : g_145 hi x1 = (g_83 hi x1) := by
        unfold g_145
        rfl
      rw [e] at w
      exact w)
-- 148: DogDecrees.count(IIIIII)I
set_option maxRecDepth 100000 in
theorem k_148_0 {x1 : Int32} {x2 : Int32} {x3 : Int32} {x4 : Int32} {x5 : Int32} {x6 : Int32}
    (h1 : (g_109 hi x1) = 0 → Q (some (.int (-1))) (mkH hi hl sw kp))
    (h2 : ¬ ((g_109 hi x1) = 0) → (g_110 hi x2) = 0 → Q (some (.int (-1))) (mkH hi hl sw kp))
    (h3 : ¬ ((g_109 hi x1) = 0) → ¬ ((g_110 hi x2) = 0) → (g_110 hi x4) = 0 → Q (some (.int (-1))) (mkH hi hl sw kp))
    (h4 : ¬ ((g_109 hi x1) = 0) → ¬ ((g_110 hi x2) = 0) → ¬ ((g_110 hi x4) = 0) → (g_158 x3 (0 : Int32) (9 : Int32)) = 0 → Q (some (.int (-1))) (mkH hi hl sw kp))
    (h5 : ¬ ((g_109 hi x1) = 0) → ¬ ((g_110 hi x2) = 0) → ¬ ((g_110 hi x4) = 0) → ¬ ((g_158 x3 (0 : Int32) (9 : Int32)) = 0) → (g_158 x5 (0 : Int32) (9 : Int32)) = 0 → Q (some (.int (-1))) (mkH hi hl sw kp))
    (h6 : ¬ ((g_109 hi x1) = 0) → ¬ ((g_110 hi x2) = 0) → ¬ ((g_110 hi x4) = 0) → ¬ ((g_158 x3 (0 : Int32) (9 : Int32)) = 0) → ¬ ((g_158 x5 (0 : Int32) (9 : Int32)) = 0) → (g_158 x6 (-99 : Int32) (99 : Int32)) = 0 → Q (some (.int (-1))) (mkH hi hl sw kp))
    (h7 : ¬ ((g_109 hi x1) = 0) → ¬ ((g_110 hi x2) = 0) → ¬ ((g_110 hi x4) = 0) → ¬ ((g_158 x3 (0 : Int32) (9 : Int32)) = 0) → ¬ ((g_158 x5 (0 : Int32) (9 : Int32)) = 0) → ¬ ((g_158 x6 (-99 : Int32) (99 : Int32)) = 0) → cS (d + 1) 26 [(.ref 266), (.int x1), (.int x2), (.int x3), (.int x4), (.int x5), (.int x6)] (mkH hi hl sw kp) (am_ret (cW cd_148 (d + 1) Q) 97 [some (.ref 0), some (.int x1), some (.int x2), some (.int x3), some (.int x4), some (.int x5), some (.int x6), some (.int (1))] []))
    : cW cd_148 (d + 1) Q 0 [some (.ref 0), some (.int x1), some (.int x2), some (.int x3), some (.int x4), some (.int x5), some (.int x6), none] [] (mkH hi hl sw kp) :=
  cW.run (am_in [97]) 44 (cC.of (s_109 (And.intro (fun c1 => (And.intro (Nat.le_of_ble_eq_true rfl) (And.intro (fun _ => (cQ.of (h1 c1))) (fun z => absurd (show (0 : Int32) = 0 by decide) z)))) (fun c2 => (cC.of (s_110 (And.intro (fun c3 => (And.intro (Nat.le_of_ble_eq_true rfl) (And.intro (fun _ => (cQ.of (h2 c2 c3))) (fun z => absurd (show (0 : Int32) = 0 by decide) z)))) (fun c4 => (cC.of (s_110 (And.intro (fun c5 => (And.intro (Nat.le_of_ble_eq_true rfl) (And.intro (fun _ => (cQ.of (h3 c2 c4 c5))) (fun z => absurd (show (0 : Int32) = 0 by decide) z)))) (fun c6 => (And.intro (Nat.le_of_ble_eq_true rfl) (And.intro (fun z => absurd (show (1 : Int32) = 0 from z) (by decide)) (fun _ => (cC.of (s_158 (And.intro (fun c7 => (cQ.of (h4 c2 c4 c6 c7))) (fun c8 => (cC.of (s_158 (And.intro (fun c9 => (cQ.of (h5 c2 c4 c6 c8 c9))) (fun c10 => (cC.of (s_158 (And.intro (fun c11 => (cQ.of (h6 c2 c4 c6 c8 c10 c11))) (fun c12 => (cC.of (h7 c2 c4 c6 c8 c10 c12)))))))))))))))))))))))))))))
theorem e_148 {x1 : Int32} {x2 : Int32} {x3 : Int32} {x4 : Int32} {x5 : Int32} {x6 : Int32}
    (h1 : (g_109 hi x1) = 0 → Q (some (.int (-1))) (mkH hi hl sw kp))
    (h2 : ¬ ((g_109 hi x1) = 0) → (g_110 hi x2) = 0 → Q (some (.int (-1))) (mkH hi hl sw kp))
    (h3 : ¬ ((g_109 hi x1) = 0) → ¬ ((g_110 hi x2) = 0) → (g_110 hi x4) = 0 → Q (some (.int (-1))) (mkH hi hl sw kp))
    (h4 : ¬ ((g_109 hi x1) = 0) → ¬ ((g_110 hi x2) = 0) → ¬ ((g_110 hi x4) = 0) → (g_158 x3 (0 : Int32) (9 : Int32)) = 0 → Q (some (.int (-1))) (mkH hi hl sw kp))
    (h5 : ¬ ((g_109 hi x1) = 0) → ¬ ((g_110 hi x2) = 0) → ¬ ((g_110 hi x4) = 0) → ¬ ((g_158 x3 (0 : Int32) (9 : Int32)) = 0) → (g_158 x5 (0 : Int32) (9 : Int32)) = 0 → Q (some (.int (-1))) (mkH hi hl sw kp))
    (h6 : ¬ ((g_109 hi x1) = 0) → ¬ ((g_110 hi x2) = 0) → ¬ ((g_110 hi x4) = 0) → ¬ ((g_158 x3 (0 : Int32) (9 : Int32)) = 0) → ¬ ((g_158 x5 (0 : Int32) (9 : Int32)) = 0) → (g_158 x6 (-99 : Int32) (99 : Int32)) = 0 → Q (some (.int (-1))) (mkH hi hl sw kp))
    (h7 : ¬ ((g_109 hi x1) = 0) → ¬ ((g_110 hi x2) = 0) → ¬ ((g_110 hi x4) = 0) → ¬ ((g_158 x3 (0 : Int32) (9 : Int32)) = 0) → ¬ ((g_158 x5 (0 : Int32) (9 : Int32)) = 0) → ¬ ((g_158 x6 (-99 : Int32) (99 : Int32)) = 0) → cS (d + 1) 26 [(.ref 266), (.int x1), (.int x2), (.int x3), (.int x4), (.int x5), (.int x6)] (mkH hi hl sw kp) (am_ret (cW cd_148 (d + 1) Q) 97 [some (.ref 0), some (.int x1), some (.int x2), some (.int x3), some (.int x4), some (.int x5), some (.int x6), some (.int (1))] []))
    : cS ((d + 1) + 1) 148 [(.ref 0), (.int x1), (.int x2), (.int x3), (.int x4), (.int x5), (.int x6)] (mkH hi hl sw kp) Q := cS.of rfl (k_148_0 h1 h2 h3 h4 h5 h6 h7)
set_option maxRecDepth 100000 in
theorem k_148_97 {x1 : Int32} {x2 : Int32} {x3 : Int32} {x4 : Int32} {x5 : Int32} {x6 : Int32} {x7 : Int32} {s0 : Int32}
    (h1 : Q (some (.int s0)) (mkH hi hl sw kp))
    : cW cd_148 (d + 1) Q 97 [some (.ref 0), some (.int x1), some (.int x2), some (.int x3), some (.int x4), some (.int x5), some (.int x6), some (.int x7)] [(.int s0)] (mkH hi hl sw kp) :=
  cW.run (am_in [97]) 1 (cQ.of (h1))
-- 149: DogDecrees.untell(I)Z
set_option maxRecDepth 100000 in
theorem k_149_0 {x1 : Int32}
    (h1 : cS d 27 [(.ref 266), (.int x1)] (mkH hi hl sw kp) (am_ret (cW cd_149 d Q) 8 [some (.ref 0), some (.int x1)] []))
    : cW cd_149 d Q 0 [some (.ref 0), some (.int x1)] [] (mkH hi hl sw kp) :=
  cW.run (am_in [8]) 4 (cC.of (h1))
theorem e_149 {x1 : Int32}
    (h1 : cS d 27 [(.ref 266), (.int x1)] (mkH hi hl sw kp) (am_ret (cW cd_149 d Q) 8 [some (.ref 0), some (.int x1)] []))
    : cS (d + 1) 149 [(.ref 0), (.int x1)] (mkH hi hl sw kp) Q := cS.of rfl (k_149_0 h1)
set_option maxRecDepth 100000 in
theorem k_149_8 {x1 : Int32} {s0 : Int32}
    (h1 : s0 = 0 ∨ s0 = 1)
    (h2 : Q (some (.int s0)) (mkH hi hl sw kp))
    : cW cd_149 d Q 8 [some (.ref 0), some (.int x1)] [(.int s0)] (mkH hi hl sw kp) :=
  cW.run (am_in [8]) 1 (And.intro (h1) (cQ.of (h2)))
-- 150: DogDecrees.later(I)I
set_option maxRecDepth 100000 in
theorem k_150_0 {x1 : Int32}
    (h1 : (g_158 x1 (0 : Int32) (1000 : Int32)) = 0 → Q (some (.int (-1))) (mkH hi hl sw kp))
    (h2 : ¬ ((g_158 x1 (0 : Int32) (1000 : Int32)) = 0) → ((hi 266 9) + x1) ≤ (100000) → Q (some (.int ((hi 266 9) + x1))) (mkH (u2 hi 266 9 ((hi 266 9) + x1)) hl sw kp))
    (h3 : ¬ ((g_158 x1 (0 : Int32) (1000 : Int32)) = 0) → ¬ (((hi 266 9) + x1) ≤ (100000)) → Q (some (.int (-1))) (mkH hi hl sw kp))
    : cW cd_150 (d + 1) Q 0 [some (.ref 0), some (.int x1)] [] (mkH hi hl sw kp) :=
  cW.run (am_in []) 23 (cC.of (s_158 (And.intro (fun c1 => (cQ.of (h1 c1))) (fun c2 => (And.intro (fun c3 => (And.intro rfl (cQ.of (h2 c2 c3)))) (fun c4 => (cQ.of (h3 c2 c4))))))))
theorem e_150 {x1 : Int32}
    (h1 : (g_158 x1 (0 : Int32) (1000 : Int32)) = 0 → Q (some (.int (-1))) (mkH hi hl sw kp))
    (h2 : ¬ ((g_158 x1 (0 : Int32) (1000 : Int32)) = 0) → ((hi 266 9) + x1) ≤ (100000) → Q (some (.int ((hi 266 9) + x1))) (mkH (u2 hi 266 9 ((hi 266 9) + x1)) hl sw kp))
    (h3 : ¬ ((g_158 x1 (0 : Int32) (1000 : Int32)) = 0) → ¬ (((hi 266 9) + x1) ≤ (100000)) → Q (some (.int (-1))) (mkH hi hl sw kp))
    : cS ((d + 1) + 1) 150 [(.ref 0), (.int x1)] (mkH hi hl sw kp) Q := cS.of rfl (k_150_0 h1 h2 h3)
-- 154: DogDecrees.image(I)I
set_option maxRecDepth 100000 in
theorem k_154_0 {x1 : Int32}
    (h1 : (g_158 x1 (0 : Int32) (2 : Int32)) = 0 → Q (some (.int (-1))) (mkH hi hl sw kp))
    (h2 : ¬ ((g_158 x1 (0 : Int32) (2 : Int32)) = 0) → vp_in x1 3)
    (h3 : ¬ ((g_158 x1 (0 : Int32) (2 : Int32)) = 0) → x1.toNatClampNeg < 3)
    (h4 : ¬ ((g_158 x1 (0 : Int32) (2 : Int32)) = 0) → cS (d + 1) 80 [(.ref (241 + 5 * x1.toNatClampNeg)), (.ref 28)] (mkH hi hl sw kp) (am_ret (cW cd_154 (d + 1) Q) 24 [some (.ref 0), some (.int x1)] []))
    : cW cd_154 (d + 1) Q 0 [some (.ref 0), some (.int x1)] [] (mkH hi hl sw kp) :=
  cW.run (am_in [24]) 12 (cC.of (s_158 (And.intro (fun c1 => (cQ.of (h1 c1))) (fun c2 => (And.intro (h2 c2) (am_b2 (st_b (h3 c2)) rfl (cC.of (h4 c2))))))))
theorem e_154 {x1 : Int32}
    (h1 : (g_158 x1 (0 : Int32) (2 : Int32)) = 0 → Q (some (.int (-1))) (mkH hi hl sw kp))
    (h2 : ¬ ((g_158 x1 (0 : Int32) (2 : Int32)) = 0) → vp_in x1 3)
    (h3 : ¬ ((g_158 x1 (0 : Int32) (2 : Int32)) = 0) → x1.toNatClampNeg < 3)
    (h4 : ¬ ((g_158 x1 (0 : Int32) (2 : Int32)) = 0) → cS (d + 1) 80 [(.ref (241 + 5 * x1.toNatClampNeg)), (.ref 28)] (mkH hi hl sw kp) (am_ret (cW cd_154 (d + 1) Q) 24 [some (.ref 0), some (.int x1)] []))
    : cS ((d + 1) + 1) 154 [(.ref 0), (.int x1)] (mkH hi hl sw kp) Q := cS.of rfl (k_154_0 h1 h2 h3 h4)
set_option maxRecDepth 100000 in
theorem k_154_24 {x1 : Int32}
    (h1 : Q (some (.int (hi 28 1))) (mkH (u2 hi 0 8 ((hi 0 8) ||| ((1) <<< (x1 &&& 31)))) hl sw kp))
    : cW cd_154 (d + 1) Q 24 [some (.ref 0), some (.int x1)] [] (mkH hi hl sw kp) :=
  cW.run (am_in [24]) 12 (And.intro rfl (cQ.of (h1)))
-- 155: DogDecrees.back(I)I
set_option maxRecDepth 100000 in
theorem k_155_0 {x1 : Int32}
    (h1 : (g_158 x1 (0 : Int32) (2 : Int32)) = 0 → Q (some (.int (-1))) (mkH hi hl sw kp))
    (h2 : ¬ ((g_158 x1 (0 : Int32) (2 : Int32)) = 0) → (((hi 0 8) >>> (x1 &&& 31)) &&& (1)) = 0 → Q (some (.int (-1))) (mkH hi hl sw kp))
    (h3 : ¬ ((g_158 x1 (0 : Int32) (2 : Int32)) = 0) → ¬ ((((hi 0 8) >>> (x1 &&& 31)) &&& (1)) = 0) → vp_in x1 3)
    (h4 : ¬ ((g_158 x1 (0 : Int32) (2 : Int32)) = 0) → ¬ ((((hi 0 8) >>> (x1 &&& 31)) &&& (1)) = 0) → cS (d + 1) 80 [(.ref 28), (.ref (241 + 5 * x1.toNatClampNeg))] (mkH hi hl sw kp) (am_ret (cW cd_155 (d + 1) Q) 35 [some (.ref 0), some (.int x1)] []))
    : cW cd_155 (d + 1) Q 0 [some (.ref 0), some (.int x1)] [] (mkH hi hl sw kp) :=
  cW.run (am_in [35, 42]) 19 (cC.of (s_158 (And.intro (fun c1 => (cQ.of (h1 c1))) (fun c2 => (And.intro (fun c3 => (cQ.of (h2 c2 c3))) (fun c4 => (And.intro (h3 c2 c4) (cC.of (h4 c2 c4)))))))))
theorem e_155 {x1 : Int32}
    (h1 : (g_158 x1 (0 : Int32) (2 : Int32)) = 0 → Q (some (.int (-1))) (mkH hi hl sw kp))
    (h2 : ¬ ((g_158 x1 (0 : Int32) (2 : Int32)) = 0) → (((hi 0 8) >>> (x1 &&& 31)) &&& (1)) = 0 → Q (some (.int (-1))) (mkH hi hl sw kp))
    (h3 : ¬ ((g_158 x1 (0 : Int32) (2 : Int32)) = 0) → ¬ ((((hi 0 8) >>> (x1 &&& 31)) &&& (1)) = 0) → vp_in x1 3)
    (h4 : ¬ ((g_158 x1 (0 : Int32) (2 : Int32)) = 0) → ¬ ((((hi 0 8) >>> (x1 &&& 31)) &&& (1)) = 0) → cS (d + 1) 80 [(.ref 28), (.ref (241 + 5 * x1.toNatClampNeg))] (mkH hi hl sw kp) (am_ret (cW cd_155 (d + 1) Q) 35 [some (.ref 0), some (.int x1)] []))
    : cS ((d + 1) + 1) 155 [(.ref 0), (.int x1)] (mkH hi hl sw kp) Q := cS.of rfl (k_155_0 h1 h2 h3 h4)
set_option maxRecDepth 100000 in
theorem k_155_35 {x1 : Int32}
    (h1 : cS (d + 1) 1 [(.ref 33)] (mkH hi hl sw kp) (am_ret (cW cd_155 (d + 1) Q) 42 [some (.ref 0), some (.int x1)] []))
    : cW cd_155 (d + 1) Q 35 [some (.ref 0), some (.int x1)] [] (mkH hi hl sw kp) :=
  cW.run (am_in [35, 42]) 3 (cC.of (h1))
set_option maxRecDepth 100000 in
theorem k_155_42 {x1 : Int32}
    (h1 : Q (some (.int (hi 28 1))) (mkH hi hl sw kp))
    : cW cd_155 (d + 1) Q 42 [some (.ref 0), some (.int x1)] [] (mkH hi hl sw kp) :=
  cW.run (am_in [35, 42]) 4 (cQ.of (h1))
-- 159: DogDecrees.moreThanHalf(JI)Z
set_option maxRecDepth 100000 in
theorem k_159_0 {x0 : Int64} {x2 : Int32}
    (h1 : (g_158 x2 (0 : Int32) (8 : Int32)) = 0 → Q (some (.int (0))) (mkH hi hl sw kp))
    (h2 : ¬ ((g_158 x2 (0 : Int32) (8 : Int32)) = 0) → vp_in x2 9)
    (h3 : ¬ ((g_158 x2 (0 : Int32) (8 : Int32)) = 0) → (lg_cmp ((2) * x0) (am_pow x2.toNatClampNeg)) ≤ 0 → Q (some (.int (0))) (mkH hi hl sw kp))
    (h4 : ¬ ((g_158 x2 (0 : Int32) (8 : Int32)) = 0) → ¬ ((lg_cmp ((2) * x0) (am_pow x2.toNatClampNeg)) ≤ 0) → Q (some (.int (1))) (mkH hi hl sw kp))
    : cW cd_159 (d + 1) Q 0 [some (.long x0), none, some (.int x2)] [] (mkH hi hl sw kp) :=
  cW.run (am_in []) 16 (cC.of (s_158 (And.intro (fun c1 => (And.intro (Or.inl rfl) (cQ.of (h1 c1)))) (fun c2 => (And.intro (h2 c2) (And.intro (fun c3 => (And.intro (Or.inl rfl) (cQ.of (h3 c2 c3)))) (fun c4 => (And.intro (Or.inr rfl) (cQ.of (h4 c2 c4))))))))))
theorem e_159 {x0 : Int64} {x2 : Int32}
    (h1 : (g_158 x2 (0 : Int32) (8 : Int32)) = 0 → Q (some (.int (0))) (mkH hi hl sw kp))
    (h2 : ¬ ((g_158 x2 (0 : Int32) (8 : Int32)) = 0) → vp_in x2 9)
    (h3 : ¬ ((g_158 x2 (0 : Int32) (8 : Int32)) = 0) → (lg_cmp ((2) * x0) (am_pow x2.toNatClampNeg)) ≤ 0 → Q (some (.int (0))) (mkH hi hl sw kp))
    (h4 : ¬ ((g_158 x2 (0 : Int32) (8 : Int32)) = 0) → ¬ ((lg_cmp ((2) * x0) (am_pow x2.toNatClampNeg)) ≤ 0) → Q (some (.int (1))) (mkH hi hl sw kp))
    : cS ((d + 1) + 1) 159 [(.long x0), (.int x2)] (mkH hi hl sw kp) Q := cS.of rfl (k_159_0 h1 h2 h3 h4)
def g_159 (x0 : Int64) (x2 : Int32) : Int32 := if (g_158 x2 (0 : Int32) (8 : Int32)) = 0 then (0) else (if (lg_cmp ((2) * x0) (am_pow x2.toNatClampNeg)) ≤ 0 then (0) else ((1)))
theorem g_159_01 (x0 : Int64) (x2 : Int32) : g_159 x0 x2 = 0 ∨ g_159 x0 x2 = 1 := by
  unfold g_159
  exact (ite01 (Or.inl rfl) (ite01 (Or.inl rfl) (Or.inr rfl)))
set_option maxRecDepth 100000 in
theorem s_159 {x0 : Int64} {x2 : Int32} (o1 : ¬ ((g_158 x2 (0 : Int32) (8 : Int32)) = 0) → vp_in x2 9) (w : Q (some (.int (g_159 x0 x2))) (mkH hi hl sw kp)) : cS ((d + 1) + 1) 159 [(.long x0), (.int x2)] (mkH hi hl sw kp) Q :=
  e_159 (fun c1 => by
      have e : g_159 x0 x2 = (0) := by
        unfold g_159
        rw [if_pos c1]
      rw [e] at w
      exact w) o1 (fun c2 c3 => by
      have e : g_159 x0 x2 = (0) := by
        unfold g_159
        rw [if_neg c2, if_pos c3]
      rw [e] at w
      exact w) (fun c2 c4 => by
      have e : g_159 x0 x2 = (1) := by
        unfold g_159
        rw [if_neg c2, if_neg c4]
      rw [e] at w
      exact w)
-- 160: DogDecrees.partOf(JJI)J
set_option maxRecDepth 100000 in
theorem k_160_0 {x0 : Int64} {x2 : Int64} {x4 : Int32}
    (h1 : cS d 161 [(.long x0), (.long x2)] (mkH hi hl sw kp) (am_ret (cW cd_160 d Q) 5 [some (.long x0), none, some (.long x2), none, some (.int x4), none, none] []))
    : cW cd_160 d Q 0 [some (.long x0), none, some (.long x2), none, some (.int x4), none, none] [] (mkH hi hl sw kp) :=
  cW.run (am_in [5]) 3 (cC.of (h1))
theorem e_160 {x0 : Int64} {x2 : Int64} {x4 : Int32}
    (h1 : cS d 161 [(.long x0), (.long x2)] (mkH hi hl sw kp) (am_ret (cW cd_160 d Q) 5 [some (.long x0), none, some (.long x2), none, some (.int x4), none, none] []))
    : cS (d + 1) 160 [(.long x0), (.long x2), (.int x4)] (mkH hi hl sw kp) Q := cS.of rfl (k_160_0 h1)
set_option maxRecDepth 100000 in
theorem k_160_5 {x0 : Int64} {x2 : Int64} {x4 : Int32} {s0 : Int64}
    (h1 : 0 < (lg_cmp s0 0) → x4 = 0 → ¬ s0 = 0)
    (h2 : 0 < (lg_cmp s0 0) → x4 = 0 → Q (some (.long (x0 / s0))) (mkH hi hl sw kp))
    (h3 : 0 < (lg_cmp s0 0) → ¬ (x4 = 0) → ¬ s0 = 0)
    (h4 : 0 < (lg_cmp s0 0) → ¬ (x4 = 0) → Q (some (.long (x2 / s0))) (mkH hi hl sw kp))
    (h5 : ¬ (0 < (lg_cmp s0 0)) → Q (some (.long (-1))) (mkH hi hl sw kp))
    : cW cd_160 d Q 5 [some (.long x0), none, some (.long x2), none, some (.int x4), none, none] [(.long s0)] (mkH hi hl sw kp) :=
  cW.run (am_in [5]) 12 (And.intro (Nat.le_of_ble_eq_true rfl) (And.intro (fun c1 => (And.intro (fun c2 => (And.intro (h1 c1 c2) (cQ.of (h2 c1 c2)))) (fun c3 => (And.intro (h3 c1 c3) (cQ.of (h4 c1 c3)))))) (fun c4 => (cQ.of (h5 c4)))))
-- 163: DogDecreesModel.feed(IIIII)I
set_option maxRecDepth 100000 in
theorem k_163_0 {x1 : Int32} {x2 : Int32} {x3 : Int32} {x4 : Int32} {x5 : Int32}
    (h1 : ((hi 279 1) + (20)) ≤ (1600) → cS d 164 [(.ref 279), (.int x1)] (mkH hi hl sw kp) (am_ret (cW cd_163 d Q) 20 [some (.ref 279), some (.int x1), some (.int x2), some (.int x3), some (.int x4), some (.int x5)] []))
    (h2 : ¬ (((hi 279 1) + (20)) ≤ (1600)) → Q (some (.int (-1))) (mkH hi hl sw kp))
    : cW cd_163 d Q 0 [some (.ref 279), some (.int x1), some (.int x2), some (.int x3), some (.int x4), some (.int x5)] [] (mkH hi hl sw kp) :=
  cW.run (am_in [20, 25, 30, 36, 42]) 9 (And.intro (fun c1 => (cC.of (h1 c1))) (fun c2 => (cQ.of (h2 c2))))
theorem e_163 {x1 : Int32} {x2 : Int32} {x3 : Int32} {x4 : Int32} {x5 : Int32}
    (h1 : ((hi 279 1) + (20)) ≤ (1600) → cS d 164 [(.ref 279), (.int x1)] (mkH hi hl sw kp) (am_ret (cW cd_163 d Q) 20 [some (.ref 279), some (.int x1), some (.int x2), some (.int x3), some (.int x4), some (.int x5)] []))
    (h2 : ¬ (((hi 279 1) + (20)) ≤ (1600)) → Q (some (.int (-1))) (mkH hi hl sw kp))
    : cS (d + 1) 163 [(.ref 279), (.int x1), (.int x2), (.int x3), (.int x4), (.int x5)] (mkH hi hl sw kp) Q := cS.of rfl (k_163_0 h1 h2)
set_option maxRecDepth 100000 in
theorem k_163_20 {x1 : Int32} {x2 : Int32} {x3 : Int32} {x4 : Int32} {x5 : Int32}
    (h1 : cS d 164 [(.ref 279), (.int x2)] (mkH hi hl sw kp) (am_ret (cW cd_163 d Q) 25 [some (.ref 279), some (.int x1), some (.int x2), some (.int x3), some (.int x4), some (.int x5)] []))
    : cW cd_163 d Q 20 [some (.ref 279), some (.int x1), some (.int x2), some (.int x3), some (.int x4), some (.int x5)] [] (mkH hi hl sw kp) :=
  cW.run (am_in [20, 25, 30, 36, 42]) 3 (cC.of (h1))
set_option maxRecDepth 100000 in
theorem k_163_25 {x1 : Int32} {x2 : Int32} {x3 : Int32} {x4 : Int32} {x5 : Int32}
    (h1 : cS d 164 [(.ref 279), (.int x3)] (mkH hi hl sw kp) (am_ret (cW cd_163 d Q) 30 [some (.ref 279), some (.int x1), some (.int x2), some (.int x3), some (.int x4), some (.int x5)] []))
    : cW cd_163 d Q 25 [some (.ref 279), some (.int x1), some (.int x2), some (.int x3), some (.int x4), some (.int x5)] [] (mkH hi hl sw kp) :=
  cW.run (am_in [20, 25, 30, 36, 42]) 3 (cC.of (h1))
set_option maxRecDepth 100000 in
theorem k_163_30 {x1 : Int32} {x2 : Int32} {x3 : Int32} {x4 : Int32} {x5 : Int32}
    (h1 : cS d 164 [(.ref 279), (.int x4)] (mkH hi hl sw kp) (am_ret (cW cd_163 d Q) 36 [some (.ref 279), some (.int x1), some (.int x2), some (.int x3), some (.int x4), some (.int x5)] []))
    : cW cd_163 d Q 30 [some (.ref 279), some (.int x1), some (.int x2), some (.int x3), some (.int x4), some (.int x5)] [] (mkH hi hl sw kp) :=
  cW.run (am_in [20, 25, 30, 36, 42]) 3 (cC.of (h1))
set_option maxRecDepth 100000 in
theorem k_163_36 {x1 : Int32} {x2 : Int32} {x3 : Int32} {x4 : Int32} {x5 : Int32}
    (h1 : cS d 164 [(.ref 279), (.int x5)] (mkH hi hl sw kp) (am_ret (cW cd_163 d Q) 42 [some (.ref 279), some (.int x1), some (.int x2), some (.int x3), some (.int x4), some (.int x5)] []))
    : cW cd_163 d Q 36 [some (.ref 279), some (.int x1), some (.int x2), some (.int x3), some (.int x4), some (.int x5)] [] (mkH hi hl sw kp) :=
  cW.run (am_in [20, 25, 30, 36, 42]) 3 (cC.of (h1))
set_option maxRecDepth 100000 in
theorem k_163_42 {x1 : Int32} {x2 : Int32} {x3 : Int32} {x4 : Int32} {x5 : Int32}
    (h1 : Q (some (.int (hi 279 1))) (mkH hi hl sw kp))
    : cW cd_163 d Q 42 [some (.ref 279), some (.int x1), some (.int x2), some (.int x3), some (.int x4), some (.int x5)] [] (mkH hi hl sw kp) :=
  cW.run (am_in [20, 25, 30, 36, 42]) 3 (cQ.of (h1))
-- 170: DogDecreesModel.token()V
set_option maxRecDepth 100000 in
theorem k_170_0
    (h1 : ¬ ((hi 279 5) ≤ ((hi 279 4) + (0 : Int32))) → vp_in ((hi 279 4) + (0 : Int32)) 1600)
    (h2 : (g_166 hi (0 : Int32)) = (32) → cW cd_170 (d + 1) Q 0 [some (.ref 279), none, none] [] (mkH (u2 hi 279 4 ((hi 279 4) + (1))) hl sw kp))
    (h3 : ¬ ((g_166 hi (0 : Int32)) = (32)) → (g_166 hi (0 : Int32)) = (10) → cW cd_170 (d + 1) Q 0 [some (.ref 279), none, none] [] (mkH (u2 hi 279 4 ((hi 279 4) + (1))) hl sw kp))
    (h4 : ¬ ((g_166 hi (0 : Int32)) = (32)) → ¬ ((g_166 hi (0 : Int32)) = (10)) → ¬ (((u2 hi 279 7 (hi 279 4)) 279 5) ≤ (((u2 hi 279 7 (hi 279 4)) 279 4) + (0 : Int32))) → vp_in (((u2 hi 279 7 (hi 279 4)) 279 4) + (0 : Int32)) 1600)
    (h5 : ¬ ((g_166 hi (0 : Int32)) = (32)) → ¬ ((g_166 hi (0 : Int32)) = (10)) → 0 ≤ (g_166 ((u2 hi 279 7 (hi 279 4))) (0 : Int32)) → (g_167 (g_166 ((u2 hi 279 7 (hi 279 4))) (0 : Int32))) = 0 → (g_168 (g_166 ((u2 hi 279 7 (hi 279 4))) (0 : Int32))) = 0 → (g_169 (g_166 ((u2 hi 279 7 (hi 279 4))) (0 : Int32))) = 0 → Q none (mkH (u2 (u2 (u2 hi 279 7 (hi 279 4)) 279 8 (0)) 279 6 (3)) (u2 hl 279 9 0) sw kp))
    (h6 : ¬ ((g_166 hi (0 : Int32)) = (32)) → ¬ ((g_166 hi (0 : Int32)) = (10)) → 0 ≤ (g_166 ((u2 hi 279 7 (hi 279 4))) (0 : Int32)) → (g_167 (g_166 ((u2 hi 279 7 (hi 279 4))) (0 : Int32))) = 0 → (g_168 (g_166 ((u2 hi 279 7 (hi 279 4))) (0 : Int32))) = 0 → ¬ ((g_169 (g_166 ((u2 hi 279 7 (hi 279 4))) (0 : Int32))) = 0) → (g_166 ((u2 hi 279 7 (hi 279 4))) (0 : Int32)) = (3) → Q none (mkH (u2 (u2 (u2 hi 279 7 (hi 279 4)) 279 8 (0)) 279 6 (g_166 ((u2 hi 279 7 (hi 279 4))) (0 : Int32))) (u2 hl 279 9 0) sw kp))
    (h7 : ¬ ((g_166 hi (0 : Int32)) = (32)) → ¬ ((g_166 hi (0 : Int32)) = (10)) → 0 ≤ (g_166 ((u2 hi 279 7 (hi 279 4))) (0 : Int32)) → (g_167 (g_166 ((u2 hi 279 7 (hi 279 4))) (0 : Int32))) = 0 → (g_168 (g_166 ((u2 hi 279 7 (hi 279 4))) (0 : Int32))) = 0 → ¬ ((g_169 (g_166 ((u2 hi 279 7 (hi 279 4))) (0 : Int32))) = 0) → ¬ ((g_166 ((u2 hi 279 7 (hi 279 4))) (0 : Int32)) = (3)) → Q none (mkH (u2 (u2 (u2 (u2 hi 279 7 (hi 279 4)) 279 8 (0)) 279 6 (g_166 ((u2 hi 279 7 (hi 279 4))) (0 : Int32))) 279 4 ((hi 279 4) + (1))) (u2 hl 279 9 0) sw kp))
    (h8 : ¬ ((g_166 hi (0 : Int32)) = (32)) → ¬ ((g_166 hi (0 : Int32)) = (10)) → 0 ≤ (g_166 ((u2 hi 279 7 (hi 279 4))) (0 : Int32)) → (g_167 (g_166 ((u2 hi 279 7 (hi 279 4))) (0 : Int32))) = 0 → ¬ ((g_168 (g_166 ((u2 hi 279 7 (hi 279 4))) (0 : Int32))) = 0) → cW cd_170 (d + 1) Q 144 [some (.ref 279), some (.int (g_166 ((u2 hi 279 7 (hi 279 4))) (0 : Int32))), some (.int (0))] [] (mkH (u2 (u2 hi 279 7 (hi 279 4)) 279 8 (0)) (u2 hl 279 9 0) sw kp))
    (h9 : ¬ ((g_166 hi (0 : Int32)) = (32)) → ¬ ((g_166 hi (0 : Int32)) = (10)) → 0 ≤ (g_166 ((u2 hi 279 7 (hi 279 4))) (0 : Int32)) → ¬ ((g_167 (g_166 ((u2 hi 279 7 (hi 279 4))) (0 : Int32))) = 0) → cW cd_170 (d + 1) Q 78 [some (.ref 279), some (.int (g_166 ((u2 hi 279 7 (hi 279 4))) (0 : Int32))), some (.int (0))] [] (mkH (u2 (u2 hi 279 7 (hi 279 4)) 279 8 (0)) (u2 hl 279 9 0) sw kp))
    (h10 : ¬ ((g_166 hi (0 : Int32)) = (32)) → ¬ ((g_166 hi (0 : Int32)) = (10)) → ¬ (0 ≤ (g_166 ((u2 hi 279 7 (hi 279 4))) (0 : Int32))) → Q none (mkH (u2 (u2 (u2 (u2 hi 279 7 (hi 279 4)) 279 8 (0)) 279 6 (0)) 279 4 ((hi 279 4) + (0))) (u2 hl 279 9 0) sw kp))
    : cW cd_170 (d + 1) Q 0 [some (.ref 279), none, none] [] (mkH hi hl sw kp) :=
  cW.run (am_in [0, 78, 144]) 54 (cC.of (s_166 (h1) (And.intro (fun c1 => (And.intro rfl (h2 c1))) (fun c2 => (cC.of (s_166 (h1) (And.intro (fun c3 => (And.intro rfl (h3 c2 c3))) (fun c4 => (cC.of (s_166 (h4 c2 c4) (And.intro (Nat.le_of_ble_eq_true rfl) (And.intro (Nat.le_of_ble_eq_true rfl) (And.intro (fun c5 => (cC.of (s_167 (And.intro (fun c6 => (cC.of (s_168 (And.intro (fun c7 => (And.intro (Nat.le_of_ble_eq_true rfl) (cC.of (s_169 (And.intro (fun c8 => (And.intro (fun _ => (cQ.of (h5 c2 c4 c5 c6 c7 c8))) (fun z => absurd (show (3 : Int32) = (3 : Int32) by decide) z))) (fun c9 => (And.intro (fun c10 => (cQ.of (h6 c2 c4 c5 c6 c7 c9 c10))) (fun c11 => (And.intro rfl (cQ.of (h7 c2 c4 c5 c6 c7 c9 c11))))))))))) (fun c12 => (h8 c2 c4 c5 c6 c12)))))) (fun c13 => (h9 c2 c4 c5 c13)))))) (fun c14 => (And.intro (fun z => absurd (show (0 : Int32) = (3 : Int32) from z) (by decide)) (fun _ => (And.intro rfl (cQ.of (h10 c2 c4 c14)))))))))))))))))))
theorem e_170
    (h1 : ¬ ((hi 279 5) ≤ ((hi 279 4) + (0 : Int32))) → vp_in ((hi 279 4) + (0 : Int32)) 1600)
    (h2 : (g_166 hi (0 : Int32)) = (32) → cW cd_170 (d + 1) Q 0 [some (.ref 279), none, none] [] (mkH (u2 hi 279 4 ((hi 279 4) + (1))) hl sw kp))
    (h3 : ¬ ((g_166 hi (0 : Int32)) = (32)) → (g_166 hi (0 : Int32)) = (10) → cW cd_170 (d + 1) Q 0 [some (.ref 279), none, none] [] (mkH (u2 hi 279 4 ((hi 279 4) + (1))) hl sw kp))
    (h4 : ¬ ((g_166 hi (0 : Int32)) = (32)) → ¬ ((g_166 hi (0 : Int32)) = (10)) → ¬ (((u2 hi 279 7 (hi 279 4)) 279 5) ≤ (((u2 hi 279 7 (hi 279 4)) 279 4) + (0 : Int32))) → vp_in (((u2 hi 279 7 (hi 279 4)) 279 4) + (0 : Int32)) 1600)
    (h5 : ¬ ((g_166 hi (0 : Int32)) = (32)) → ¬ ((g_166 hi (0 : Int32)) = (10)) → 0 ≤ (g_166 ((u2 hi 279 7 (hi 279 4))) (0 : Int32)) → (g_167 (g_166 ((u2 hi 279 7 (hi 279 4))) (0 : Int32))) = 0 → (g_168 (g_166 ((u2 hi 279 7 (hi 279 4))) (0 : Int32))) = 0 → (g_169 (g_166 ((u2 hi 279 7 (hi 279 4))) (0 : Int32))) = 0 → Q none (mkH (u2 (u2 (u2 hi 279 7 (hi 279 4)) 279 8 (0)) 279 6 (3)) (u2 hl 279 9 0) sw kp))
    (h6 : ¬ ((g_166 hi (0 : Int32)) = (32)) → ¬ ((g_166 hi (0 : Int32)) = (10)) → 0 ≤ (g_166 ((u2 hi 279 7 (hi 279 4))) (0 : Int32)) → (g_167 (g_166 ((u2 hi 279 7 (hi 279 4))) (0 : Int32))) = 0 → (g_168 (g_166 ((u2 hi 279 7 (hi 279 4))) (0 : Int32))) = 0 → ¬ ((g_169 (g_166 ((u2 hi 279 7 (hi 279 4))) (0 : Int32))) = 0) → (g_166 ((u2 hi 279 7 (hi 279 4))) (0 : Int32)) = (3) → Q none (mkH (u2 (u2 (u2 hi 279 7 (hi 279 4)) 279 8 (0)) 279 6 (g_166 ((u2 hi 279 7 (hi 279 4))) (0 : Int32))) (u2 hl 279 9 0) sw kp))
    (h7 : ¬ ((g_166 hi (0 : Int32)) = (32)) → ¬ ((g_166 hi (0 : Int32)) = (10)) → 0 ≤ (g_166 ((u2 hi 279 7 (hi 279 4))) (0 : Int32)) → (g_167 (g_166 ((u2 hi 279 7 (hi 279 4))) (0 : Int32))) = 0 → (g_168 (g_166 ((u2 hi 279 7 (hi 279 4))) (0 : Int32))) = 0 → ¬ ((g_169 (g_166 ((u2 hi 279 7 (hi 279 4))) (0 : Int32))) = 0) → ¬ ((g_166 ((u2 hi 279 7 (hi 279 4))) (0 : Int32)) = (3)) → Q none (mkH (u2 (u2 (u2 (u2 hi 279 7 (hi 279 4)) 279 8 (0)) 279 6 (g_166 ((u2 hi 279 7 (hi 279 4))) (0 : Int32))) 279 4 ((hi 279 4) + (1))) (u2 hl 279 9 0) sw kp))
    (h8 : ¬ ((g_166 hi (0 : Int32)) = (32)) → ¬ ((g_166 hi (0 : Int32)) = (10)) → 0 ≤ (g_166 ((u2 hi 279 7 (hi 279 4))) (0 : Int32)) → (g_167 (g_166 ((u2 hi 279 7 (hi 279 4))) (0 : Int32))) = 0 → ¬ ((g_168 (g_166 ((u2 hi 279 7 (hi 279 4))) (0 : Int32))) = 0) → cW cd_170 (d + 1) Q 144 [some (.ref 279), some (.int (g_166 ((u2 hi 279 7 (hi 279 4))) (0 : Int32))), some (.int (0))] [] (mkH (u2 (u2 hi 279 7 (hi 279 4)) 279 8 (0)) (u2 hl 279 9 0) sw kp))
    (h9 : ¬ ((g_166 hi (0 : Int32)) = (32)) → ¬ ((g_166 hi (0 : Int32)) = (10)) → 0 ≤ (g_166 ((u2 hi 279 7 (hi 279 4))) (0 : Int32)) → ¬ ((g_167 (g_166 ((u2 hi 279 7 (hi 279 4))) (0 : Int32))) = 0) → cW cd_170 (d + 1) Q 78 [some (.ref 279), some (.int (g_166 ((u2 hi 279 7 (hi 279 4))) (0 : Int32))), some (.int (0))] [] (mkH (u2 (u2 hi 279 7 (hi 279 4)) 279 8 (0)) (u2 hl 279 9 0) sw kp))
    (h10 : ¬ ((g_166 hi (0 : Int32)) = (32)) → ¬ ((g_166 hi (0 : Int32)) = (10)) → ¬ (0 ≤ (g_166 ((u2 hi 279 7 (hi 279 4))) (0 : Int32))) → Q none (mkH (u2 (u2 (u2 (u2 hi 279 7 (hi 279 4)) 279 8 (0)) 279 6 (0)) 279 4 ((hi 279 4) + (0))) (u2 hl 279 9 0) sw kp))
    : cS ((d + 1) + 1) 170 [(.ref 279)] (mkH hi hl sw kp) Q := cS.of rfl (k_170_0 h1 h2 h3 h4 h5 h6 h7 h8 h9 h10)
set_option maxRecDepth 100000 in
theorem k_170_78 {x1 : Int32} {x2 : Int32}
    (h1 : ¬ ((hi 279 5) ≤ ((hi 279 4) + x2)) → vp_in ((hi 279 4) + x2) 1600)
    (h2 : (g_167 (g_166 hi x2)) = 0 → x2 ≤ (8) → Q none (mkH (u2 (u2 hi 279 6 (1)) 279 4 ((hi 279 4) + x2)) hl sw kp))
    (h3 : (g_167 (g_166 hi x2)) = 0 → ¬ (x2 ≤ (8)) → Q none (mkH (u2 hi 279 6 (3)) hl sw kp))
    (h4 : ¬ ((g_167 (g_166 hi x2)) = 0) → (8) ≤ x2 → cW cd_170 (d + 1) Q 78 [some (.ref 279), some (.int x1), some (.int (x2 + (1)))] [] (mkH hi hl sw kp))
    (h5 : ¬ ((g_167 (g_166 hi x2)) = 0) → ¬ ((8) ≤ x2) → cW cd_170 (d + 1) Q 78 [some (.ref 279), some (.int x1), some (.int (x2 + (1)))] [] (mkH hi (u2 hl 279 9 (((hl 279 9) <<< ((8).toInt64 &&& 63)) ||| ((g_166 hi x2).toInt64))) sw kp))
    : cW cd_170 (d + 1) Q 78 [some (.ref 279), some (.int x1), some (.int x2)] [] (mkH hi hl sw kp) :=
  cW.run (am_in [0, 78, 144]) 23 (cC.of (s_166 (h1) (cC.of (s_167 (And.intro (fun c1 => (And.intro (fun c2 => (And.intro (fun z => absurd (show (1 : Int32) = (3 : Int32) from z) (by decide)) (fun _ => (And.intro rfl (cQ.of (h2 c1 c2)))))) (fun c3 => (And.intro (fun _ => (cQ.of (h3 c1 c3))) (fun z => absurd (show (3 : Int32) = (3 : Int32) by decide) z))))) (fun c4 => (And.intro (fun c5 => (And.intro (Nat.le_of_ble_eq_true rfl) (h4 c4 c5))) (fun c6 => (cC.of (s_166 (h1) (And.intro (Nat.le_of_ble_eq_true rfl) (h5 c4 c6))))))))))))
set_option maxRecDepth 100000 in
theorem k_170_144 {x1 : Int32} {x2 : Int32}
    (h1 : ¬ ((hi 279 5) ≤ ((hi 279 4) + x2)) → vp_in ((hi 279 4) + x2) 1600)
    (h2 : (g_168 (g_166 hi x2)) = 0 → (4) < x2 → Q none (mkH (u2 hi 279 6 (3)) hl sw kp))
    (h3 : (g_168 (g_166 hi x2)) = 0 → ¬ ((4) < x2) → (g_167 (g_166 hi x2)) = 0 → Q none (mkH (u2 (u2 hi 279 6 (2)) 279 4 ((hi 279 4) + x2)) hl sw kp))
    (h4 : (g_168 (g_166 hi x2)) = 0 → ¬ ((4) < x2) → ¬ ((g_167 (g_166 hi x2)) = 0) → Q none (mkH (u2 hi 279 6 (3)) hl sw kp))
    (h5 : ¬ ((g_168 (g_166 hi x2)) = 0) → (4) ≤ x2 → cW cd_170 (d + 1) Q 144 [some (.ref 279), some (.int x1), some (.int (x2 + (1)))] [] (mkH hi hl sw kp))
    (h6 : ¬ ((g_168 (g_166 hi x2)) = 0) → ¬ ((4) ≤ x2) → cW cd_170 (d + 1) Q 144 [some (.ref 279), some (.int x1), some (.int (x2 + (1)))] [] (mkH (u2 hi 279 8 ((((10) * (hi 279 8)) + (g_166 hi x2)) - (48))) hl sw kp))
    : cW cd_170 (d + 1) Q 144 [some (.ref 279), some (.int x1), some (.int x2)] [] (mkH hi hl sw kp) :=
  cW.run (am_in [0, 78, 144]) 28 (cC.of (s_166 (h1) (cC.of (s_168 (And.intro (fun c1 => (And.intro (fun c2 => (And.intro (fun _ => (cQ.of (h2 c1 c2))) (fun z => absurd (show (3 : Int32) = (3 : Int32) by decide) z))) (fun c3 => (cC.of (s_166 (h1) (cC.of (s_167 (And.intro (fun c4 => (And.intro (fun z => absurd (show (2 : Int32) = (3 : Int32) from z) (by decide)) (fun _ => (And.intro rfl (cQ.of (h3 c1 c3 c4)))))) (fun c5 => (And.intro (fun _ => (cQ.of (h4 c1 c3 c5))) (fun z => absurd (show (3 : Int32) = (3 : Int32) by decide) z))))))))))) (fun c6 => (And.intro (fun c7 => (And.intro (Nat.le_of_ble_eq_true rfl) (h5 c6 c7))) (fun c8 => (cC.of (s_166 (h1) (And.intro (Nat.le_of_ble_eq_true rfl) (h6 c6 c8))))))))))))
-- 174: DogDecreesModel.isName()Z
set_option maxRecDepth 100000 in
theorem k_174_0
    (h1 : (hi 279 6) = (1) → (g_173 hl) = 0 → Q (some (.int (1))) (mkH hi hl sw kp))
    (h2 : (hi 279 6) = (1) → ¬ ((g_173 hl) = 0) → Q (some (.int (0))) (mkH hi hl sw kp))
    (h3 : ¬ ((hi 279 6) = (1)) → Q (some (.int (0))) (mkH hi hl sw kp))
    : cW cd_174 (d + 1) Q 0 [some (.ref 279)] [] (mkH hi hl sw kp) :=
  cW.run (am_in []) 10 (And.intro (fun c1 => (cC.of (s_173 (And.intro (fun c2 => (And.intro (Or.inr rfl) (cQ.of (h1 c1 c2)))) (fun c3 => (And.intro (Or.inl rfl) (cQ.of (h2 c1 c3)))))))) (fun c4 => (And.intro (Or.inl rfl) (cQ.of (h3 c4)))))
theorem e_174
    (h1 : (hi 279 6) = (1) → (g_173 hl) = 0 → Q (some (.int (1))) (mkH hi hl sw kp))
    (h2 : (hi 279 6) = (1) → ¬ ((g_173 hl) = 0) → Q (some (.int (0))) (mkH hi hl sw kp))
    (h3 : ¬ ((hi 279 6) = (1)) → Q (some (.int (0))) (mkH hi hl sw kp))
    : cS ((d + 1) + 1) 174 [(.ref 279)] (mkH hi hl sw kp) Q := cS.of rfl (k_174_0 h1 h2 h3)
def g_174 (hi : Nat → Nat → Int32) (hl : Nat → Nat → Int64) : Int32 := if (hi 279 6) = (1) then if (g_173 hl) = 0 then (1) else ((0)) else ((0))
theorem g_174_01 (hi : Nat → Nat → Int32) (hl : Nat → Nat → Int64) : g_174 hi hl = 0 ∨ g_174 hi hl = 1 := by
  unfold g_174
  exact (ite01 (ite01 (Or.inr rfl) (Or.inl rfl)) (Or.inl rfl))
set_option maxRecDepth 100000 in
theorem s_174 (w : Q (some (.int (g_174 hi hl))) (mkH hi hl sw kp)) : cS ((d + 1) + 1) 174 [(.ref 279)] (mkH hi hl sw kp) Q :=
  e_174 (fun c1 c2 => by
      have e : g_174 hi hl = (1) := by
        unfold g_174
        rw [if_pos c1, if_pos c2]
      rw [e] at w
      exact w) (fun c1 c3 => by
      have e : g_174 hi hl = (0) := by
        unfold g_174
        rw [if_pos c1, if_neg c3]
      rw [e] at w
      exact w) (fun c4 => by
      have e : g_174 hi hl = (0) := by
        unfold g_174
        rw [if_neg c4]
      rw [e] at w
      exact w)
-- 183: DogDecreesModel.close(I)V
set_option maxRecDepth 100000 in
theorem k_183_0 {x1 : Int32}
    (h1 : (hi 279 19) ≤ 0 → Q none (mkH hi hl sw kp))
    (h2 : ¬ ((hi 279 19) ≤ 0) → vp_in ((hi 279 19) - (1)) 160)
    (h3 : ¬ ((hi 279 19) ≤ 0) → (hi 286 ((hi 279 19) - (1)).toNatClampNeg) = (20) → Q none (mkH hi hl sw kp))
    (h4 : ¬ ((hi 279 19) ≤ 0) → ¬ ((hi 286 ((hi 279 19) - (1)).toNatClampNeg) = (20)) → (g_182 (hi 286 ((hi 279 19) - (1)).toNatClampNeg)) < x1 → Q none (mkH hi hl sw kp))
    (h5 : ¬ ((hi 279 19) ≤ 0) → ¬ ((hi 286 ((hi 279 19) - (1)).toNatClampNeg) = (20)) → ¬ ((g_182 (hi 286 ((hi 279 19) - (1)).toNatClampNeg)) < x1) → (hi 286 ((hi 279 19) - (1)).toNatClampNeg) = (21) → cS (d + 1) 181 [(.ref 279), (.int (2)), (.int (0))] (mkH (u2 hi 279 19 ((hi 279 19) - (1))) hl sw kp) (am_ret (cW cd_183 (d + 1) Q) 71 [some (.ref 279), some (.int x1)] []))
    (h6 : ¬ ((hi 279 19) ≤ 0) → ¬ ((hi 286 ((hi 279 19) - (1)).toNatClampNeg) = (20)) → ¬ ((g_182 (hi 286 ((hi 279 19) - (1)).toNatClampNeg)) < x1) → ¬ ((hi 286 ((hi 279 19) - (1)).toNatClampNeg) = (21)) → cS (d + 1) 181 [(.ref 279), (.int (3)), (.int (hi 286 ((hi 279 19) - (1)).toNatClampNeg))] (mkH (u2 hi 279 19 ((hi 279 19) - (1))) hl sw kp) (am_ret (cW cd_183 (d + 1) Q) 98 [some (.ref 279), some (.int x1)] []))
    : cW cd_183 (d + 1) Q 0 [some (.ref 279), some (.int x1)] [] (mkH hi hl sw kp) :=
  cW.run (am_in [0, 71, 98]) 43 (And.intro (fun c1 => (cQ.of (h1 c1))) (fun c2 => (And.intro (h2 c2) (And.intro (fun c3 => (cQ.of (h3 c2 c3))) (fun c4 => (And.intro (h2 c2) (cC.of (s_182 (And.intro (fun c5 => (cQ.of (h4 c2 c4 c5))) (fun c6 => (And.intro rfl (And.intro (h2 c2) (And.intro (fun c7 => (cC.of (h5 c2 c4 c6 c7))) (fun c8 => (And.intro (h2 c2) (cC.of (h6 c2 c4 c6 c8)))))))))))))))))
theorem e_183 {x1 : Int32}
    (h1 : (hi 279 19) ≤ 0 → Q none (mkH hi hl sw kp))
    (h2 : ¬ ((hi 279 19) ≤ 0) → vp_in ((hi 279 19) - (1)) 160)
    (h3 : ¬ ((hi 279 19) ≤ 0) → (hi 286 ((hi 279 19) - (1)).toNatClampNeg) = (20) → Q none (mkH hi hl sw kp))
    (h4 : ¬ ((hi 279 19) ≤ 0) → ¬ ((hi 286 ((hi 279 19) - (1)).toNatClampNeg) = (20)) → (g_182 (hi 286 ((hi 279 19) - (1)).toNatClampNeg)) < x1 → Q none (mkH hi hl sw kp))
    (h5 : ¬ ((hi 279 19) ≤ 0) → ¬ ((hi 286 ((hi 279 19) - (1)).toNatClampNeg) = (20)) → ¬ ((g_182 (hi 286 ((hi 279 19) - (1)).toNatClampNeg)) < x1) → (hi 286 ((hi 279 19) - (1)).toNatClampNeg) = (21) → cS (d + 1) 181 [(.ref 279), (.int (2)), (.int (0))] (mkH (u2 hi 279 19 ((hi 279 19) - (1))) hl sw kp) (am_ret (cW cd_183 (d + 1) Q) 71 [some (.ref 279), some (.int x1)] []))
    (h6 : ¬ ((hi 279 19) ≤ 0) → ¬ ((hi 286 ((hi 279 19) - (1)).toNatClampNeg) = (20)) → ¬ ((g_182 (hi 286 ((hi 279 19) - (1)).toNatClampNeg)) < x1) → ¬ ((hi 286 ((hi 279 19) - (1)).toNatClampNeg) = (21)) → cS (d + 1) 181 [(.ref 279), (.int (3)), (.int (hi 286 ((hi 279 19) - (1)).toNatClampNeg))] (mkH (u2 hi 279 19 ((hi 279 19) - (1))) hl sw kp) (am_ret (cW cd_183 (d + 1) Q) 98 [some (.ref 279), some (.int x1)] []))
    : cS ((d + 1) + 1) 183 [(.ref 279), (.int x1)] (mkH hi hl sw kp) Q := cS.of rfl (k_183_0 h1 h2 h3 h4 h5 h6)
set_option maxRecDepth 100000 in
theorem k_183_71 {x1 : Int32}
    (h1 : cW cd_183 (d + 1) Q 0 [some (.ref 279), some (.int x1)] [] (mkH (u2 hi 279 23 ((hi 279 23) - (1))) hl sw kp))
    : cW cd_183 (d + 1) Q 71 [some (.ref 279), some (.int x1)] [] (mkH hi hl sw kp) :=
  cW.run (am_in [0, 71, 98]) 7 (And.intro rfl (h1))
set_option maxRecDepth 100000 in
theorem k_183_98 {x1 : Int32}
    (h1 : cW cd_183 (d + 1) Q 0 [some (.ref 279), some (.int x1)] [] (mkH hi hl sw kp))
    : cW cd_183 (d + 1) Q 98 [some (.ref 279), some (.int x1)] [] (mkH hi hl sw kp) :=
  cW.run (am_in [0, 71, 98]) 1 (h1)
-- 184: DogDecreesModel.hasRelation()Z
set_option maxRecDepth 100000 in
theorem k_184_0
    (h1 : cW cd_184 (d + 1) Q 7 [some (.ref 279), some (.int ((hi 279 19) - (1)))] [] (mkH hi hl sw kp))
    : cW cd_184 (d + 1) Q 0 [some (.ref 279), none] [] (mkH hi hl sw kp) :=
  cW.run (am_in [7]) 5 (And.intro (Nat.le_of_ble_eq_true rfl) (h1))
theorem e_184
    (h1 : cW cd_184 (d + 1) Q 7 [some (.ref 279), some (.int ((hi 279 19) - (1)))] [] (mkH hi hl sw kp))
    : cS ((d + 1) + 1) 184 [(.ref 279)] (mkH hi hl sw kp) Q := cS.of rfl (k_184_0 h1)
set_option maxRecDepth 100000 in
theorem k_184_7 {x1 : Int32}
    (h1 : x1 < 0 → x1 < 0 → Q (some (.int (0))) (mkH hi hl sw kp))
    (h2 : x1 < 0 → ¬ (x1 < 0) → vp_in x1 160)
    (h3 : x1 < 0 → ¬ (x1 < 0) → (hi 286 x1.toNatClampNeg) = (20) → Q (some (.int (0))) (mkH hi hl sw kp))
    (h4 : x1 < 0 → ¬ (x1 < 0) → ¬ ((hi 286 x1.toNatClampNeg) = (20)) → (g_182 (hi 286 x1.toNatClampNeg)) = (4) → Q (some (.int (1))) (mkH hi hl sw kp))
    (h5 : x1 < 0 → ¬ (x1 < 0) → ¬ ((hi 286 x1.toNatClampNeg) = (20)) → ¬ ((g_182 (hi 286 x1.toNatClampNeg)) = (4)) → Q (some (.int (0))) (mkH hi hl sw kp))
    (h6 : ¬ (x1 < 0) → vp_in x1 160)
    (h7 : ¬ (x1 < 0) → (hi 286 x1.toNatClampNeg) = (20) → x1 < 0 → Q (some (.int (0))) (mkH hi hl sw kp))
    (h8 : ¬ (x1 < 0) → (hi 286 x1.toNatClampNeg) = (20) → ¬ (x1 < 0) → (hi 286 x1.toNatClampNeg) = (20) → Q (some (.int (0))) (mkH hi hl sw kp))
    (h9 : ¬ (x1 < 0) → (hi 286 x1.toNatClampNeg) = (20) → ¬ (x1 < 0) → ¬ ((hi 286 x1.toNatClampNeg) = (20)) → (g_182 (hi 286 x1.toNatClampNeg)) = (4) → Q (some (.int (1))) (mkH hi hl sw kp))
    (h10 : ¬ (x1 < 0) → (hi 286 x1.toNatClampNeg) = (20) → ¬ (x1 < 0) → ¬ ((hi 286 x1.toNatClampNeg) = (20)) → ¬ ((g_182 (hi 286 x1.toNatClampNeg)) = (4)) → Q (some (.int (0))) (mkH hi hl sw kp))
    (h11 : ¬ (x1 < 0) → ¬ ((hi 286 x1.toNatClampNeg) = (20)) → (g_182 (hi 286 x1.toNatClampNeg)) ≤ (4) → x1 < 0 → Q (some (.int (0))) (mkH hi hl sw kp))
    (h12 : ¬ (x1 < 0) → ¬ ((hi 286 x1.toNatClampNeg) = (20)) → (g_182 (hi 286 x1.toNatClampNeg)) ≤ (4) → ¬ (x1 < 0) → (hi 286 x1.toNatClampNeg) = (20) → Q (some (.int (0))) (mkH hi hl sw kp))
    (h13 : ¬ (x1 < 0) → ¬ ((hi 286 x1.toNatClampNeg) = (20)) → (g_182 (hi 286 x1.toNatClampNeg)) ≤ (4) → ¬ (x1 < 0) → ¬ ((hi 286 x1.toNatClampNeg) = (20)) → (g_182 (hi 286 x1.toNatClampNeg)) = (4) → Q (some (.int (1))) (mkH hi hl sw kp))
    (h14 : ¬ (x1 < 0) → ¬ ((hi 286 x1.toNatClampNeg) = (20)) → (g_182 (hi 286 x1.toNatClampNeg)) ≤ (4) → ¬ (x1 < 0) → ¬ ((hi 286 x1.toNatClampNeg) = (20)) → ¬ ((g_182 (hi 286 x1.toNatClampNeg)) = (4)) → Q (some (.int (0))) (mkH hi hl sw kp))
    (h15 : ¬ (x1 < 0) → ¬ ((hi 286 x1.toNatClampNeg) = (20)) → ¬ ((g_182 (hi 286 x1.toNatClampNeg)) ≤ (4)) → cW cd_184 (d + 1) Q 7 [some (.ref 279), some (.int (x1 + (-1)))] [] (mkH hi hl sw kp))
    : cW cd_184 (d + 1) Q 7 [some (.ref 279), some (.int x1)] [] (mkH hi hl sw kp) :=
  cW.run (am_in [7]) 33 (And.intro (fun c1 => (And.intro (fun c2 => (And.intro (Or.inl rfl) (cQ.of (h1 c1 c2)))) (fun c3 => (And.intro (h2 c1 c3) (And.intro (fun c4 => (And.intro (Or.inl rfl) (cQ.of (h3 c1 c3 c4)))) (fun c5 => (And.intro (h2 c1 c3) (cC.of (s_182 (And.intro (fun c6 => (And.intro (Or.inr rfl) (cQ.of (h4 c1 c3 c5 c6)))) (fun c7 => (And.intro (Or.inl rfl) (cQ.of (h5 c1 c3 c5 c7)))))))))))))) (fun c8 => (And.intro (h6 c8) (And.intro (fun c9 => (And.intro (fun c10 => (And.intro (Or.inl rfl) (cQ.of (h7 c8 c9 c10)))) (fun c11 => (And.intro (h6 c8) (And.intro (fun c12 => (And.intro (Or.inl rfl) (cQ.of (h8 c8 c9 c11 c12)))) (fun c13 => (And.intro (h6 c8) (cC.of (s_182 (And.intro (fun c14 => (And.intro (Or.inr rfl) (cQ.of (h9 c8 c9 c11 c13 c14)))) (fun c15 => (And.intro (Or.inl rfl) (cQ.of (h10 c8 c9 c11 c13 c15)))))))))))))) (fun c16 => (And.intro (h6 c8) (cC.of (s_182 (And.intro (fun c17 => (And.intro (fun c18 => (And.intro (Or.inl rfl) (cQ.of (h11 c8 c16 c17 c18)))) (fun c19 => (And.intro (h6 c8) (And.intro (fun c20 => (And.intro (Or.inl rfl) (cQ.of (h12 c8 c16 c17 c19 c20)))) (fun c21 => (And.intro (h6 c8) (cC.of (s_182 (And.intro (fun c22 => (And.intro (Or.inr rfl) (cQ.of (h13 c8 c16 c17 c19 c21 c22)))) (fun c23 => (And.intro (Or.inl rfl) (cQ.of (h14 c8 c16 c17 c19 c21 c23)))))))))))))) (fun c24 => (And.intro (Nat.le_of_ble_eq_true rfl) (h15 c8 c16 c24))))))))))))
-- 185: DogDecreesModel.mayNot()Z
set_option maxRecDepth 100000 in
theorem k_185_0
    (h1 : (hi 279 19) = 0 → Q (some (.int (1))) (mkH hi hl sw kp))
    (h2 : ¬ ((hi 279 19) = 0) → vp_in ((hi 279 19) - (1)) 160)
    (h3 : ¬ ((hi 279 19) = 0) → (hi 286 ((hi 279 19) - (1)).toNatClampNeg) = (20) → Q (some (.int (1))) (mkH hi hl sw kp))
    (h4 : ¬ ((hi 279 19) = 0) → ¬ ((hi 286 ((hi 279 19) - (1)).toNatClampNeg) = (20)) → (4) ≤ (g_182 (hi 286 ((hi 279 19) - (1)).toNatClampNeg)) → Q (some (.int (0))) (mkH hi hl sw kp))
    (h5 : ¬ ((hi 279 19) = 0) → ¬ ((hi 286 ((hi 279 19) - (1)).toNatClampNeg) = (20)) → ¬ ((4) ≤ (g_182 (hi 286 ((hi 279 19) - (1)).toNatClampNeg))) → Q (some (.int (1))) (mkH hi hl sw kp))
    : cW cd_185 (d + 1) Q 0 [some (.ref 279)] [] (mkH hi hl sw kp) :=
  cW.run (am_in []) 25 (And.intro (fun c1 => (And.intro (Or.inr rfl) (cQ.of (h1 c1)))) (fun c2 => (And.intro (h2 c2) (And.intro (fun c3 => (And.intro (Or.inr rfl) (cQ.of (h3 c2 c3)))) (fun c4 => (And.intro (h2 c2) (cC.of (s_182 (And.intro (fun c5 => (And.intro (Or.inl rfl) (cQ.of (h4 c2 c4 c5)))) (fun c6 => (And.intro (Or.inr rfl) (cQ.of (h5 c2 c4 c6)))))))))))))
theorem e_185
    (h1 : (hi 279 19) = 0 → Q (some (.int (1))) (mkH hi hl sw kp))
    (h2 : ¬ ((hi 279 19) = 0) → vp_in ((hi 279 19) - (1)) 160)
    (h3 : ¬ ((hi 279 19) = 0) → (hi 286 ((hi 279 19) - (1)).toNatClampNeg) = (20) → Q (some (.int (1))) (mkH hi hl sw kp))
    (h4 : ¬ ((hi 279 19) = 0) → ¬ ((hi 286 ((hi 279 19) - (1)).toNatClampNeg) = (20)) → (4) ≤ (g_182 (hi 286 ((hi 279 19) - (1)).toNatClampNeg)) → Q (some (.int (0))) (mkH hi hl sw kp))
    (h5 : ¬ ((hi 279 19) = 0) → ¬ ((hi 286 ((hi 279 19) - (1)).toNatClampNeg) = (20)) → ¬ ((4) ≤ (g_182 (hi 286 ((hi 279 19) - (1)).toNatClampNeg))) → Q (some (.int (1))) (mkH hi hl sw kp))
    : cS ((d + 1) + 1) 185 [(.ref 279)] (mkH hi hl sw kp) Q := cS.of rfl (k_185_0 h1 h2 h3 h4 h5)
def g_185 (hi : Nat → Nat → Int32) : Int32 := if (hi 279 19) = 0 then (1) else (if (hi 286 ((hi 279 19) - (1)).toNatClampNeg) = (20) then (1) else (if (4) ≤ (g_182 (hi 286 ((hi 279 19) - (1)).toNatClampNeg)) then (0) else ((1))))
theorem g_185_01 (hi : Nat → Nat → Int32) : g_185 hi = 0 ∨ g_185 hi = 1 := by
  unfold g_185
  exact (ite01 (Or.inr rfl) (ite01 (Or.inr rfl) (ite01 (Or.inl rfl) (Or.inr rfl))))
set_option maxRecDepth 100000 in
theorem s_185 (o1 : ¬ ((hi 279 19) = 0) → vp_in ((hi 279 19) - (1)) 160) (w : Q (some (.int (g_185 hi))) (mkH hi hl sw kp)) : cS ((d + 1) + 1) 185 [(.ref 279)] (mkH hi hl sw kp) Q :=
  e_185 (fun c1 => by
      have e : g_185 hi = (1) := by
        unfold g_185
        rw [if_pos c1]
      rw [e] at w
      exact w) o1 (fun c2 c3 => by
      have e : g_185 hi = (1) := by
        unfold g_185
        rw [if_neg c2, if_pos c3]
      rw [e] at w
      exact w) (fun c2 c4 c5 => by
      have e : g_185 hi = (0) := by
        unfold g_185
        rw [if_neg c2, if_neg c4, if_pos c5]
      rw [e] at w
      exact w) (fun c2 c4 c6 => by
      have e : g_185 hi = (1) := by
        unfold g_185
        rw [if_neg c2, if_neg c4, if_neg c6]
      rw [e] at w
      exact w)
-- 191: DogDecreesModel.sign()I
set_option maxRecDepth 100000 in
theorem k_191_0
    (h1 : (g_172 hi hl (6385252 : Int64)) = 0 → (g_172 hi hl (28530 : Int64)) = 0 → (hi 279 6) = (60) → Q (some (.int (hi 279 6))) (mkH hi hl sw kp))
    (h2 : (g_172 hi hl (6385252 : Int64)) = 0 → (g_172 hi hl (28530 : Int64)) = 0 → ¬ ((hi 279 6) = (60)) → (hi 279 6) = (62) → Q (some (.int (hi 279 6))) (mkH hi hl sw kp))
    (h3 : (g_172 hi hl (6385252 : Int64)) = 0 → (g_172 hi hl (28530 : Int64)) = 0 → ¬ ((hi 279 6) = (60)) → ¬ ((hi 279 6) = (62)) → (hi 279 6) = (61) → Q (some (.int (hi 279 6))) (mkH hi hl sw kp))
    (h4 : (g_172 hi hl (6385252 : Int64)) = 0 → (g_172 hi hl (28530 : Int64)) = 0 → ¬ ((hi 279 6) = (60)) → ¬ ((hi 279 6) = (62)) → ¬ ((hi 279 6) = (61)) → (hi 279 6) = (43) → Q (some (.int (hi 279 6))) (mkH hi hl sw kp))
    (h5 : (g_172 hi hl (6385252 : Int64)) = 0 → (g_172 hi hl (28530 : Int64)) = 0 → ¬ ((hi 279 6) = (60)) → ¬ ((hi 279 6) = (62)) → ¬ ((hi 279 6) = (61)) → ¬ ((hi 279 6) = (43)) → (hi 279 6) = (45) → Q (some (.int (hi 279 6))) (mkH hi hl sw kp))
    (h6 : (g_172 hi hl (6385252 : Int64)) = 0 → (g_172 hi hl (28530 : Int64)) = 0 → ¬ ((hi 279 6) = (60)) → ¬ ((hi 279 6) = (62)) → ¬ ((hi 279 6) = (61)) → ¬ ((hi 279 6) = (43)) → ¬ ((hi 279 6) = (45)) → (hi 279 6) = (42) → Q (some (.int (hi 279 6))) (mkH hi hl sw kp))
    (h7 : (g_172 hi hl (6385252 : Int64)) = 0 → (g_172 hi hl (28530 : Int64)) = 0 → ¬ ((hi 279 6) = (60)) → ¬ ((hi 279 6) = (62)) → ¬ ((hi 279 6) = (61)) → ¬ ((hi 279 6) = (43)) → ¬ ((hi 279 6) = (45)) → ¬ ((hi 279 6) = (42)) → (hi 279 6) = (47) → Q (some (.int (hi 279 6))) (mkH hi hl sw kp))
    (h8 : (g_172 hi hl (6385252 : Int64)) = 0 → (g_172 hi hl (28530 : Int64)) = 0 → ¬ ((hi 279 6) = (60)) → ¬ ((hi 279 6) = (62)) → ¬ ((hi 279 6) = (61)) → ¬ ((hi 279 6) = (43)) → ¬ ((hi 279 6) = (45)) → ¬ ((hi 279 6) = (42)) → ¬ ((hi 279 6) = (47)) → (hi 279 6) = (37) → Q (some (.int (hi 279 6))) (mkH hi hl sw kp))
    (h9 : (g_172 hi hl (6385252 : Int64)) = 0 → (g_172 hi hl (28530 : Int64)) = 0 → ¬ ((hi 279 6) = (60)) → ¬ ((hi 279 6) = (62)) → ¬ ((hi 279 6) = (61)) → ¬ ((hi 279 6) = (43)) → ¬ ((hi 279 6) = (45)) → ¬ ((hi 279 6) = (42)) → ¬ ((hi 279 6) = (47)) → ¬ ((hi 279 6) = (37)) → Q (some (.int (0))) (mkH hi hl sw kp))
    (h10 : (g_172 hi hl (6385252 : Int64)) = 0 → ¬ ((g_172 hi hl (28530 : Int64)) = 0) → Q (some (.int (124))) (mkH hi hl sw kp))
    (h11 : ¬ ((g_172 hi hl (6385252 : Int64)) = 0) → Q (some (.int (38))) (mkH hi hl sw kp))
    : cW cd_191 (d + 1) Q 0 [some (.ref 279)] [] (mkH hi hl sw kp) :=
  cW.run (am_in []) 44 (cC.of (s_172 (And.intro (fun c1 => (cC.of (s_172 (And.intro (fun c2 => (And.intro (fun c3 => (cQ.of (h1 c1 c2 c3))) (fun c4 => (And.intro (fun c5 => (cQ.of (h2 c1 c2 c4 c5))) (fun c6 => (And.intro (fun c7 => (cQ.of (h3 c1 c2 c4 c6 c7))) (fun c8 => (And.intro (fun c9 => (cQ.of (h4 c1 c2 c4 c6 c8 c9))) (fun c10 => (And.intro (fun c11 => (cQ.of (h5 c1 c2 c4 c6 c8 c10 c11))) (fun c12 => (And.intro (fun c13 => (cQ.of (h6 c1 c2 c4 c6 c8 c10 c12 c13))) (fun c14 => (And.intro (fun c15 => (cQ.of (h7 c1 c2 c4 c6 c8 c10 c12 c14 c15))) (fun c16 => (And.intro (fun c17 => (cQ.of (h8 c1 c2 c4 c6 c8 c10 c12 c14 c16 c17))) (fun c18 => (cQ.of (h9 c1 c2 c4 c6 c8 c10 c12 c14 c16 c18))))))))))))))))))) (fun c19 => (cQ.of (h10 c1 c19))))))) (fun c20 => (cQ.of (h11 c20))))))
theorem e_191
    (h1 : (g_172 hi hl (6385252 : Int64)) = 0 → (g_172 hi hl (28530 : Int64)) = 0 → (hi 279 6) = (60) → Q (some (.int (hi 279 6))) (mkH hi hl sw kp))
    (h2 : (g_172 hi hl (6385252 : Int64)) = 0 → (g_172 hi hl (28530 : Int64)) = 0 → ¬ ((hi 279 6) = (60)) → (hi 279 6) = (62) → Q (some (.int (hi 279 6))) (mkH hi hl sw kp))
    (h3 : (g_172 hi hl (6385252 : Int64)) = 0 → (g_172 hi hl (28530 : Int64)) = 0 → ¬ ((hi 279 6) = (60)) → ¬ ((hi 279 6) = (62)) → (hi 279 6) = (61) → Q (some (.int (hi 279 6))) (mkH hi hl sw kp))
    (h4 : (g_172 hi hl (6385252 : Int64)) = 0 → (g_172 hi hl (28530 : Int64)) = 0 → ¬ ((hi 279 6) = (60)) → ¬ ((hi 279 6) = (62)) → ¬ ((hi 279 6) = (61)) → (hi 279 6) = (43) → Q (some (.int (hi 279 6))) (mkH hi hl sw kp))
    (h5 : (g_172 hi hl (6385252 : Int64)) = 0 → (g_172 hi hl (28530 : Int64)) = 0 → ¬ ((hi 279 6) = (60)) → ¬ ((hi 279 6) = (62)) → ¬ ((hi 279 6) = (61)) → ¬ ((hi 279 6) = (43)) → (hi 279 6) = (45) → Q (some (.int (hi 279 6))) (mkH hi hl sw kp))
    (h6 : (g_172 hi hl (6385252 : Int64)) = 0 → (g_172 hi hl (28530 : Int64)) = 0 → ¬ ((hi 279 6) = (60)) → ¬ ((hi 279 6) = (62)) → ¬ ((hi 279 6) = (61)) → ¬ ((hi 279 6) = (43)) → ¬ ((hi 279 6) = (45)) → (hi 279 6) = (42) → Q (some (.int (hi 279 6))) (mkH hi hl sw kp))
    (h7 : (g_172 hi hl (6385252 : Int64)) = 0 → (g_172 hi hl (28530 : Int64)) = 0 → ¬ ((hi 279 6) = (60)) → ¬ ((hi 279 6) = (62)) → ¬ ((hi 279 6) = (61)) → ¬ ((hi 279 6) = (43)) → ¬ ((hi 279 6) = (45)) → ¬ ((hi 279 6) = (42)) → (hi 279 6) = (47) → Q (some (.int (hi 279 6))) (mkH hi hl sw kp))
    (h8 : (g_172 hi hl (6385252 : Int64)) = 0 → (g_172 hi hl (28530 : Int64)) = 0 → ¬ ((hi 279 6) = (60)) → ¬ ((hi 279 6) = (62)) → ¬ ((hi 279 6) = (61)) → ¬ ((hi 279 6) = (43)) → ¬ ((hi 279 6) = (45)) → ¬ ((hi 279 6) = (42)) → ¬ ((hi 279 6) = (47)) → (hi 279 6) = (37) → Q (some (.int (hi 279 6))) (mkH hi hl sw kp))
    (h9 : (g_172 hi hl (6385252 : Int64)) = 0 → (g_172 hi hl (28530 : Int64)) = 0 → ¬ ((hi 279 6) = (60)) → ¬ ((hi 279 6) = (62)) → ¬ ((hi 279 6) = (61)) → ¬ ((hi 279 6) = (43)) → ¬ ((hi 279 6) = (45)) → ¬ ((hi 279 6) = (42)) → ¬ ((hi 279 6) = (47)) → ¬ ((hi 279 6) = (37)) → Q (some (.int (0))) (mkH hi hl sw kp))
    (h10 : (g_172 hi hl (6385252 : Int64)) = 0 → ¬ ((g_172 hi hl (28530 : Int64)) = 0) → Q (some (.int (124))) (mkH hi hl sw kp))
    (h11 : ¬ ((g_172 hi hl (6385252 : Int64)) = 0) → Q (some (.int (38))) (mkH hi hl sw kp))
    : cS ((d + 1) + 1) 191 [(.ref 279)] (mkH hi hl sw kp) Q := cS.of rfl (k_191_0 h1 h2 h3 h4 h5 h6 h7 h8 h9 h10 h11)
def g_191 (hi : Nat → Nat → Int32) (hl : Nat → Nat → Int64) : Int32 := if (g_172 hi hl (6385252 : Int64)) = 0 then if (g_172 hi hl (28530 : Int64)) = 0 then if (hi 279 6) = (60) then (hi 279 6) else (if (hi 279 6) = (62) then (hi 279 6) else (if (hi 279 6) = (61) then (hi 279 6) else (if (hi 279 6) = (43) then (hi 279 6) else (if (hi 279 6) = (45) then (hi 279 6) else (if (hi 279 6) = (42) then (hi 279 6) else (if (hi 279 6) = (47) then (hi 279 6) else (if (hi 279 6) = (37) then (hi 279 6) else ((0))))))))) else ((124)) else ((38))
set_option maxRecDepth 100000 in
theorem s_191 (w : Q (some (.int (g_191 hi hl))) (mkH hi hl sw kp)) : cS ((d + 1) + 1) 191 [(.ref 279)] (mkH hi hl sw kp) Q :=
  e_191 (fun c1 c2 c3 => by
      have e : g_191 hi hl = (hi 279 6) := by
        unfold g_191
        rw [if_pos c1, if_pos c2, if_pos c3]
      rw [e] at w
      exact w) (fun c1 c2 c4 c5 => by
      have e : g_191 hi hl = (hi 279 6) := by
        unfold g_191
        rw [if_pos c1, if_pos c2, if_neg c4, if_pos c5]
      rw [e] at w
      exact w) (fun c1 c2 c4 c6 c7 => by
      have e : g_191 hi hl = (hi 279 6) := by
        unfold g_191
        rw [if_pos c1, if_pos c2, if_neg c4, if_neg c6, if_pos c7]
      rw [e] at w
      exact w) (fun c1 c2 c4 c6 c8 c9 => by
      have e : g_191 hi hl = (hi 279 6) := by
        unfold g_191
        rw [if_pos c1, if_pos c2, if_neg c4, if_neg c6, if_neg c8, if_pos c9]
      rw [e] at w
      exact w) (fun c1 c2 c4 c6 c8 c10 c11 => by
      have e : g_191 hi hl = (hi 279 6) := by
        unfold g_191
        rw [if_pos c1, if_pos c2, if_neg c4, if_neg c6, if_neg c8, if_neg c10, if_pos c11]
      rw [e] at w
      exact w) (fun c1 c2 c4 c6 c8 c10 c12 c13 => by
      have e : g_191 hi hl = (hi 279 6) := by
        unfold g_191
        rw [if_pos c1, if_pos c2, if_neg c4, if_neg c6, if_neg c8, if_neg c10, if_neg c12, if_pos c13]
      rw [e] at w
      exact w) (fun c1 c2 c4 c6 c8 c10 c12 c14 c15 => by
      have e : g_191 hi hl = (hi 279 6) := by
        unfold g_191
        rw [if_pos c1, if_pos c2, if_neg c4, if_neg c6, if_neg c8, if_neg c10, if_neg c12, if_neg c14, if_pos c15]
      rw [e] at w
      exact w) (fun c1 c2 c4 c6 c8 c10 c12 c14 c16 c17 => by
      have e : g_191 hi hl = (hi 279 6) := by
        unfold g_191
        rw [if_pos c1, if_pos c2, if_neg c4, if_neg c6, if_neg c8, if_neg c10, if_neg c12, if_neg c14, if_neg c16, if_pos c17]
      rw [e] at w
      exact w) (fun c1 c2 c4 c6 c8 c10 c12 c14 c16 c18 => by
      have e : g_191 hi hl = (0) := by
        unfold g_191
        rw [if_pos c1, if_pos c2, if_neg c4, if_neg c6, if_neg c8, if_neg c10, if_neg c12, if_neg c14, if_neg c16, if_neg c18]
      rw [e] at w
      exact w) (fun c1 c19 => by
      have e : g_191 hi hl = (124) := by
        unfold g_191
        rw [if_pos c1, if_neg c19]
      rw [e] at w
      exact w) (fun c20 => by
      have e : g_191 hi hl = (38) := by
        unfold g_191
        rw [if_neg c20]
      rw [e] at w
      exact w)
end BLK
