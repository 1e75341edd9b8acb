/-! ===== blocks of methods, by program ===== -/
section BLK
variable {d : Nat} {Q : am_Q} {hi : Nat → Nat → Int32} {hl : Nat → Nat → Int64} {sw : Bool} {kp : Nat → Nat}
-- 195: DogDecreesModel.done(III)I
set_option maxRecDepth 100000 in
theorem k_195_0 {x0 : Int32} {x1 : Int32} {x2 : Int32}
    (h1 : x0 = 37 → x2 = 0 → Q (some (.int (0))) (mkH hi hl sw kp))
    (h2 : x0 = 37 → ¬ (x2 = 0) → ¬ x2 = 0)
    (h3 : x0 = 37 → ¬ (x2 = 0) → Q (some (.int (x1 - x1 / x2 * x2))) (mkH hi hl sw kp))
    (h4 : ¬ x0 = 37 → x0 = 38 → x1 = 0 → Q (some (.int (g_194 (0 : Int32)))) (mkH hi hl sw kp))
    (h5 : ¬ x0 = 37 → x0 = 38 → ¬ (x1 = 0) → x2 = 0 → Q (some (.int (g_194 (0 : Int32)))) (mkH hi hl sw kp))
    (h6 : ¬ x0 = 37 → x0 = 38 → ¬ (x1 = 0) → ¬ (x2 = 0) → Q (some (.int (g_194 (1 : Int32)))) (mkH hi hl sw kp))
    (h7 : ¬ x0 = 37 → ¬ x0 = 38 → x0 = 39 → x1 = 0 → x2 = 0 → Q (some (.int (g_194 (0 : Int32)))) (mkH hi hl sw kp))
    (h8 : ¬ x0 = 37 → ¬ x0 = 38 → x0 = 39 → x1 = 0 → ¬ (x2 = 0) → Q (some (.int (g_194 (1 : Int32)))) (mkH hi hl sw kp))
    (h9 : ¬ x0 = 37 → ¬ x0 = 38 → x0 = 39 → ¬ (x1 = 0) → Q (some (.int (g_194 (1 : Int32)))) (mkH hi hl sw kp))
    (h10 : ¬ x0 = 37 → ¬ x0 = 38 → ¬ x0 = 39 → x0 = 40 → x1 = 0 → x2 = 0 → Q (some (.int (g_194 (0 : Int32)))) (mkH hi hl sw kp))
    (h11 : ¬ x0 = 37 → ¬ x0 = 38 → ¬ x0 = 39 → x0 = 40 → x1 = 0 → ¬ (x2 = 0) → Q (some (.int (g_194 (1 : Int32)))) (mkH hi hl sw kp))
    (h12 : ¬ x0 = 37 → ¬ x0 = 38 → ¬ x0 = 39 → x0 = 40 → ¬ (x1 = 0) → Q (some (.int (g_194 (1 : Int32)))) (mkH hi hl sw kp))
    (h13 : ¬ x0 = 37 → ¬ x0 = 38 → ¬ x0 = 39 → ¬ x0 = 40 → x0 = 41 → x1 = 0 → x2 = 0 → Q (some (.int (g_194 (0 : Int32)))) (mkH hi hl sw kp))
    (h14 : ¬ x0 = 37 → ¬ x0 = 38 → ¬ x0 = 39 → ¬ x0 = 40 → x0 = 41 → x1 = 0 → ¬ (x2 = 0) → Q (some (.int (g_194 (1 : Int32)))) (mkH hi hl sw kp))
    (h15 : ¬ x0 = 37 → ¬ x0 = 38 → ¬ x0 = 39 → ¬ x0 = 40 → x0 = 41 → ¬ (x1 = 0) → Q (some (.int (g_194 (1 : Int32)))) (mkH hi hl sw kp))
    (h16 : ¬ x0 = 37 → ¬ x0 = 38 → ¬ x0 = 39 → ¬ x0 = 40 → ¬ x0 = 41 → x0 = 42 → Q (some (.int (x1 * x2))) (mkH hi hl sw kp))
    (h17 : ¬ x0 = 37 → ¬ x0 = 38 → ¬ x0 = 39 → ¬ x0 = 40 → ¬ x0 = 41 → ¬ x0 = 42 → x0 = 43 → Q (some (.int (x1 + x2))) (mkH hi hl sw kp))
    (h18 : ¬ x0 = 37 → ¬ x0 = 38 → ¬ x0 = 39 → ¬ x0 = 40 → ¬ x0 = 41 → ¬ x0 = 42 → ¬ x0 = 43 → x0 = 44 → x1 = 0 → x2 = 0 → Q (some (.int (g_194 (0 : Int32)))) (mkH hi hl sw kp))
    (h19 : ¬ x0 = 37 → ¬ x0 = 38 → ¬ x0 = 39 → ¬ x0 = 40 → ¬ x0 = 41 → ¬ x0 = 42 → ¬ x0 = 43 → x0 = 44 → x1 = 0 → ¬ (x2 = 0) → Q (some (.int (g_194 (1 : Int32)))) (mkH hi hl sw kp))
    (h20 : ¬ x0 = 37 → ¬ x0 = 38 → ¬ x0 = 39 → ¬ x0 = 40 → ¬ x0 = 41 → ¬ x0 = 42 → ¬ x0 = 43 → x0 = 44 → ¬ (x1 = 0) → Q (some (.int (g_194 (1 : Int32)))) (mkH hi hl sw kp))
    (h21 : ¬ x0 = 37 → ¬ x0 = 38 → ¬ x0 = 39 → ¬ x0 = 40 → ¬ x0 = 41 → ¬ x0 = 42 → ¬ x0 = 43 → ¬ x0 = 44 → x0 = 45 → Q (some (.int (x1 - x2))) (mkH hi hl sw kp))
    (h22 : ¬ x0 = 37 → ¬ x0 = 38 → ¬ x0 = 39 → ¬ x0 = 40 → ¬ x0 = 41 → ¬ x0 = 42 → ¬ x0 = 43 → ¬ x0 = 44 → ¬ x0 = 45 → x0 = 46 → x1 = 0 → x2 = 0 → Q (some (.int (g_194 (0 : Int32)))) (mkH hi hl sw kp))
    (h23 : ¬ x0 = 37 → ¬ x0 = 38 → ¬ x0 = 39 → ¬ x0 = 40 → ¬ x0 = 41 → ¬ x0 = 42 → ¬ x0 = 43 → ¬ x0 = 44 → ¬ x0 = 45 → x0 = 46 → x1 = 0 → ¬ (x2 = 0) → Q (some (.int (g_194 (1 : Int32)))) (mkH hi hl sw kp))
    (h24 : ¬ x0 = 37 → ¬ x0 = 38 → ¬ x0 = 39 → ¬ x0 = 40 → ¬ x0 = 41 → ¬ x0 = 42 → ¬ x0 = 43 → ¬ x0 = 44 → ¬ x0 = 45 → x0 = 46 → ¬ (x1 = 0) → Q (some (.int (g_194 (1 : Int32)))) (mkH hi hl sw kp))
    (h25 : ¬ x0 = 37 → ¬ x0 = 38 → ¬ x0 = 39 → ¬ x0 = 40 → ¬ x0 = 41 → ¬ x0 = 42 → ¬ x0 = 43 → ¬ x0 = 44 → ¬ x0 = 45 → ¬ x0 = 46 → x0 = 47 → x2 = 0 → Q (some (.int (0))) (mkH hi hl sw kp))
    (h26 : ¬ x0 = 37 → ¬ x0 = 38 → ¬ x0 = 39 → ¬ x0 = 40 → ¬ x0 = 41 → ¬ x0 = 42 → ¬ x0 = 43 → ¬ x0 = 44 → ¬ x0 = 45 → ¬ x0 = 46 → x0 = 47 → ¬ (x2 = 0) → ¬ x2 = 0)
    (h27 : ¬ x0 = 37 → ¬ x0 = 38 → ¬ x0 = 39 → ¬ x0 = 40 → ¬ x0 = 41 → ¬ x0 = 42 → ¬ x0 = 43 → ¬ x0 = 44 → ¬ x0 = 45 → ¬ x0 = 46 → x0 = 47 → ¬ (x2 = 0) → Q (some (.int (x1 / x2))) (mkH hi hl sw kp))
    (h28 : ¬ x0 = 37 → ¬ x0 = 38 → ¬ x0 = 39 → ¬ x0 = 40 → ¬ x0 = 41 → ¬ x0 = 42 → ¬ x0 = 43 → ¬ x0 = 44 → ¬ x0 = 45 → ¬ x0 = 46 → ¬ x0 = 47 → x0 = 48 → x1 = 0 → x2 = 0 → Q (some (.int (g_194 (0 : Int32)))) (mkH hi hl sw kp))
    (h29 : ¬ x0 = 37 → ¬ x0 = 38 → ¬ x0 = 39 → ¬ x0 = 40 → ¬ x0 = 41 → ¬ x0 = 42 → ¬ x0 = 43 → ¬ x0 = 44 → ¬ x0 = 45 → ¬ x0 = 46 → ¬ x0 = 47 → x0 = 48 → x1 = 0 → ¬ (x2 = 0) → Q (some (.int (g_194 (1 : Int32)))) (mkH hi hl sw kp))
    (h30 : ¬ x0 = 37 → ¬ x0 = 38 → ¬ x0 = 39 → ¬ x0 = 40 → ¬ x0 = 41 → ¬ x0 = 42 → ¬ x0 = 43 → ¬ x0 = 44 → ¬ x0 = 45 → ¬ x0 = 46 → ¬ x0 = 47 → x0 = 48 → ¬ (x1 = 0) → Q (some (.int (g_194 (1 : Int32)))) (mkH hi hl sw kp))
    (h31 : ¬ x0 = 37 → ¬ x0 = 38 → ¬ x0 = 39 → ¬ x0 = 40 → ¬ x0 = 41 → ¬ x0 = 42 → ¬ x0 = 43 → ¬ x0 = 44 → ¬ x0 = 45 → ¬ x0 = 46 → ¬ x0 = 47 → ¬ x0 = 48 → x0 = 49 → x1 = 0 → x2 = 0 → Q (some (.int (g_194 (0 : Int32)))) (mkH hi hl sw kp))
    (h32 : ¬ x0 = 37 → ¬ x0 = 38 → ¬ x0 = 39 → ¬ x0 = 40 → ¬ x0 = 41 → ¬ x0 = 42 → ¬ x0 = 43 → ¬ x0 = 44 → ¬ x0 = 45 → ¬ x0 = 46 → ¬ x0 = 47 → ¬ x0 = 48 → x0 = 49 → x1 = 0 → ¬ (x2 = 0) → Q (some (.int (g_194 (1 : Int32)))) (mkH hi hl sw kp))
    (h33 : ¬ x0 = 37 → ¬ x0 = 38 → ¬ x0 = 39 → ¬ x0 = 40 → ¬ x0 = 41 → ¬ x0 = 42 → ¬ x0 = 43 → ¬ x0 = 44 → ¬ x0 = 45 → ¬ x0 = 46 → ¬ x0 = 47 → ¬ x0 = 48 → x0 = 49 → ¬ (x1 = 0) → Q (some (.int (g_194 (1 : Int32)))) (mkH hi hl sw kp))
    (h34 : ¬ x0 = 37 → ¬ x0 = 38 → ¬ x0 = 39 → ¬ x0 = 40 → ¬ x0 = 41 → ¬ x0 = 42 → ¬ x0 = 43 → ¬ x0 = 44 → ¬ x0 = 45 → ¬ x0 = 46 → ¬ x0 = 47 → ¬ x0 = 48 → ¬ x0 = 49 → x0 = 50 → x1 = 0 → x2 = 0 → Q (some (.int (g_194 (0 : Int32)))) (mkH hi hl sw kp))
    (h35 : ¬ x0 = 37 → ¬ x0 = 38 → ¬ x0 = 39 → ¬ x0 = 40 → ¬ x0 = 41 → ¬ x0 = 42 → ¬ x0 = 43 → ¬ x0 = 44 → ¬ x0 = 45 → ¬ x0 = 46 → ¬ x0 = 47 → ¬ x0 = 48 → ¬ x0 = 49 → x0 = 50 → x1 = 0 → ¬ (x2 = 0) → Q (some (.int (g_194 (1 : Int32)))) (mkH hi hl sw kp))
    (h36 : ¬ x0 = 37 → ¬ x0 = 38 → ¬ x0 = 39 → ¬ x0 = 40 → ¬ x0 = 41 → ¬ x0 = 42 → ¬ x0 = 43 → ¬ x0 = 44 → ¬ x0 = 45 → ¬ x0 = 46 → ¬ x0 = 47 → ¬ x0 = 48 → ¬ x0 = 49 → x0 = 50 → ¬ (x1 = 0) → Q (some (.int (g_194 (1 : Int32)))) (mkH hi hl sw kp))
    (h37 : ¬ x0 = 37 → ¬ x0 = 38 → ¬ x0 = 39 → ¬ x0 = 40 → ¬ x0 = 41 → ¬ x0 = 42 → ¬ x0 = 43 → ¬ x0 = 44 → ¬ x0 = 45 → ¬ x0 = 46 → ¬ x0 = 47 → ¬ x0 = 48 → ¬ x0 = 49 → ¬ x0 = 50 → x0 = 51 → x1 = 0 → x2 = 0 → Q (some (.int (g_194 (0 : Int32)))) (mkH hi hl sw kp))
    (h38 : ¬ x0 = 37 → ¬ x0 = 38 → ¬ x0 = 39 → ¬ x0 = 40 → ¬ x0 = 41 → ¬ x0 = 42 → ¬ x0 = 43 → ¬ x0 = 44 → ¬ x0 = 45 → ¬ x0 = 46 → ¬ x0 = 47 → ¬ x0 = 48 → ¬ x0 = 49 → ¬ x0 = 50 → x0 = 51 → x1 = 0 → ¬ (x2 = 0) → Q (some (.int (g_194 (1 : Int32)))) (mkH hi hl sw kp))
    (h39 : ¬ x0 = 37 → ¬ x0 = 38 → ¬ x0 = 39 → ¬ x0 = 40 → ¬ x0 = 41 → ¬ x0 = 42 → ¬ x0 = 43 → ¬ x0 = 44 → ¬ x0 = 45 → ¬ x0 = 46 → ¬ x0 = 47 → ¬ x0 = 48 → ¬ x0 = 49 → ¬ x0 = 50 → x0 = 51 → ¬ (x1 = 0) → Q (some (.int (g_194 (1 : Int32)))) (mkH hi hl sw kp))
    (h40 : ¬ x0 = 37 → ¬ x0 = 38 → ¬ x0 = 39 → ¬ x0 = 40 → ¬ x0 = 41 → ¬ x0 = 42 → ¬ x0 = 43 → ¬ x0 = 44 → ¬ x0 = 45 → ¬ x0 = 46 → ¬ x0 = 47 → ¬ x0 = 48 → ¬ x0 = 49 → ¬ x0 = 50 → ¬ x0 = 51 → x0 = 52 → x1 = 0 → x2 = 0 → Q (some (.int (g_194 (0 : Int32)))) (mkH hi hl sw kp))
    (h41 : ¬ x0 = 37 → ¬ x0 = 38 → ¬ x0 = 39 → ¬ x0 = 40 → ¬ x0 = 41 → ¬ x0 = 42 → ¬ x0 = 43 → ¬ x0 = 44 → ¬ x0 = 45 → ¬ x0 = 46 → ¬ x0 = 47 → ¬ x0 = 48 → ¬ x0 = 49 → ¬ x0 = 50 → ¬ x0 = 51 → x0 = 52 → x1 = 0 → ¬ (x2 = 0) → Q (some (.int (g_194 (1 : Int32)))) (mkH hi hl sw kp))
    (h42 : ¬ x0 = 37 → ¬ x0 = 38 → ¬ x0 = 39 → ¬ x0 = 40 → ¬ x0 = 41 → ¬ x0 = 42 → ¬ x0 = 43 → ¬ x0 = 44 → ¬ x0 = 45 → ¬ x0 = 46 → ¬ x0 = 47 → ¬ x0 = 48 → ¬ x0 = 49 → ¬ x0 = 50 → ¬ x0 = 51 → x0 = 52 → ¬ (x1 = 0) → Q (some (.int (g_194 (1 : Int32)))) (mkH hi hl sw kp))
    (h43 : ¬ x0 = 37 → ¬ x0 = 38 → ¬ x0 = 39 → ¬ x0 = 40 → ¬ x0 = 41 → ¬ x0 = 42 → ¬ x0 = 43 → ¬ x0 = 44 → ¬ x0 = 45 → ¬ x0 = 46 → ¬ x0 = 47 → ¬ x0 = 48 → ¬ x0 = 49 → ¬ x0 = 50 → ¬ x0 = 51 → ¬ x0 = 52 → x0 = 53 → x1 = 0 → x2 = 0 → Q (some (.int (g_194 (0 : Int32)))) (mkH hi hl sw kp))
    (h44 : ¬ x0 = 37 → ¬ x0 = 38 → ¬ x0 = 39 → ¬ x0 = 40 → ¬ x0 = 41 → ¬ x0 = 42 → ¬ x0 = 43 → ¬ x0 = 44 → ¬ x0 = 45 → ¬ x0 = 46 → ¬ x0 = 47 → ¬ x0 = 48 → ¬ x0 = 49 → ¬ x0 = 50 → ¬ x0 = 51 → ¬ x0 = 52 → x0 = 53 → x1 = 0 → ¬ (x2 = 0) → Q (some (.int (g_194 (1 : Int32)))) (mkH hi hl sw kp))
    (h45 : ¬ x0 = 37 → ¬ x0 = 38 → ¬ x0 = 39 → ¬ x0 = 40 → ¬ x0 = 41 → ¬ x0 = 42 → ¬ x0 = 43 → ¬ x0 = 44 → ¬ x0 = 45 → ¬ x0 = 46 → ¬ x0 = 47 → ¬ x0 = 48 → ¬ x0 = 49 → ¬ x0 = 50 → ¬ x0 = 51 → ¬ x0 = 52 → x0 = 53 → ¬ (x1 = 0) → Q (some (.int (g_194 (1 : Int32)))) (mkH hi hl sw kp))
    (h46 : ¬ x0 = 37 → ¬ x0 = 38 → ¬ x0 = 39 → ¬ x0 = 40 → ¬ x0 = 41 → ¬ x0 = 42 → ¬ x0 = 43 → ¬ x0 = 44 → ¬ x0 = 45 → ¬ x0 = 46 → ¬ x0 = 47 → ¬ x0 = 48 → ¬ x0 = 49 → ¬ x0 = 50 → ¬ x0 = 51 → ¬ x0 = 52 → ¬ x0 = 53 → x0 = 54 → x1 = 0 → x2 = 0 → Q (some (.int (g_194 (0 : Int32)))) (mkH hi hl sw kp))
    (h47 : ¬ x0 = 37 → ¬ x0 = 38 → ¬ x0 = 39 → ¬ x0 = 40 → ¬ x0 = 41 → ¬ x0 = 42 → ¬ x0 = 43 → ¬ x0 = 44 → ¬ x0 = 45 → ¬ x0 = 46 → ¬ x0 = 47 → ¬ x0 = 48 → ¬ x0 = 49 → ¬ x0 = 50 → ¬ x0 = 51 → ¬ x0 = 52 → ¬ x0 = 53 → x0 = 54 → x1 = 0 → ¬ (x2 = 0) → Q (some (.int (g_194 (1 : Int32)))) (mkH hi hl sw kp))
    (h48 : ¬ x0 = 37 → ¬ x0 = 38 → ¬ x0 = 39 → ¬ x0 = 40 → ¬ x0 = 41 → ¬ x0 = 42 → ¬ x0 = 43 → ¬ x0 = 44 → ¬ x0 = 45 → ¬ x0 = 46 → ¬ x0 = 47 → ¬ x0 = 48 → ¬ x0 = 49 → ¬ x0 = 50 → ¬ x0 = 51 → ¬ x0 = 52 → ¬ x0 = 53 → x0 = 54 → ¬ (x1 = 0) → Q (some (.int (g_194 (1 : Int32)))) (mkH hi hl sw kp))
    (h49 : ¬ x0 = 37 → ¬ x0 = 38 → ¬ x0 = 39 → ¬ x0 = 40 → ¬ x0 = 41 → ¬ x0 = 42 → ¬ x0 = 43 → ¬ x0 = 44 → ¬ x0 = 45 → ¬ x0 = 46 → ¬ x0 = 47 → ¬ x0 = 48 → ¬ x0 = 49 → ¬ x0 = 50 → ¬ x0 = 51 → ¬ x0 = 52 → ¬ x0 = 53 → ¬ x0 = 54 → x0 = 55 → x1 = 0 → x2 = 0 → Q (some (.int (g_194 (0 : Int32)))) (mkH hi hl sw kp))
    (h50 : ¬ x0 = 37 → ¬ x0 = 38 → ¬ x0 = 39 → ¬ x0 = 40 → ¬ x0 = 41 → ¬ x0 = 42 → ¬ x0 = 43 → ¬ x0 = 44 → ¬ x0 = 45 → ¬ x0 = 46 → ¬ x0 = 47 → ¬ x0 = 48 → ¬ x0 = 49 → ¬ x0 = 50 → ¬ x0 = 51 → ¬ x0 = 52 → ¬ x0 = 53 → ¬ x0 = 54 → x0 = 55 → x1 = 0 → ¬ (x2 = 0) → Q (some (.int (g_194 (1 : Int32)))) (mkH hi hl sw kp))
    (h51 : ¬ x0 = 37 → ¬ x0 = 38 → ¬ x0 = 39 → ¬ x0 = 40 → ¬ x0 = 41 → ¬ x0 = 42 → ¬ x0 = 43 → ¬ x0 = 44 → ¬ x0 = 45 → ¬ x0 = 46 → ¬ x0 = 47 → ¬ x0 = 48 → ¬ x0 = 49 → ¬ x0 = 50 → ¬ x0 = 51 → ¬ x0 = 52 → ¬ x0 = 53 → ¬ x0 = 54 → x0 = 55 → ¬ (x1 = 0) → Q (some (.int (g_194 (1 : Int32)))) (mkH hi hl sw kp))
    (h52 : ¬ x0 = 37 → ¬ x0 = 38 → ¬ x0 = 39 → ¬ x0 = 40 → ¬ x0 = 41 → ¬ x0 = 42 → ¬ x0 = 43 → ¬ x0 = 44 → ¬ x0 = 45 → ¬ x0 = 46 → ¬ x0 = 47 → ¬ x0 = 48 → ¬ x0 = 49 → ¬ x0 = 50 → ¬ x0 = 51 → ¬ x0 = 52 → ¬ x0 = 53 → ¬ x0 = 54 → ¬ x0 = 55 → x0 = 56 → x1 = 0 → x2 = 0 → Q (some (.int (g_194 (0 : Int32)))) (mkH hi hl sw kp))
    (h53 : ¬ x0 = 37 → ¬ x0 = 38 → ¬ x0 = 39 → ¬ x0 = 40 → ¬ x0 = 41 → ¬ x0 = 42 → ¬ x0 = 43 → ¬ x0 = 44 → ¬ x0 = 45 → ¬ x0 = 46 → ¬ x0 = 47 → ¬ x0 = 48 → ¬ x0 = 49 → ¬ x0 = 50 → ¬ x0 = 51 → ¬ x0 = 52 → ¬ x0 = 53 → ¬ x0 = 54 → ¬ x0 = 55 → x0 = 56 → x1 = 0 → ¬ (x2 = 0) → Q (some (.int (g_194 (1 : Int32)))) (mkH hi hl sw kp))
    (h54 : ¬ x0 = 37 → ¬ x0 = 38 → ¬ x0 = 39 → ¬ x0 = 40 → ¬ x0 = 41 → ¬ x0 = 42 → ¬ x0 = 43 → ¬ x0 = 44 → ¬ x0 = 45 → ¬ x0 = 46 → ¬ x0 = 47 → ¬ x0 = 48 → ¬ x0 = 49 → ¬ x0 = 50 → ¬ x0 = 51 → ¬ x0 = 52 → ¬ x0 = 53 → ¬ x0 = 54 → ¬ x0 = 55 → x0 = 56 → ¬ (x1 = 0) → Q (some (.int (g_194 (1 : Int32)))) (mkH hi hl sw kp))
    (h55 : ¬ x0 = 37 → ¬ x0 = 38 → ¬ x0 = 39 → ¬ x0 = 40 → ¬ x0 = 41 → ¬ x0 = 42 → ¬ x0 = 43 → ¬ x0 = 44 → ¬ x0 = 45 → ¬ x0 = 46 → ¬ x0 = 47 → ¬ x0 = 48 → ¬ x0 = 49 → ¬ x0 = 50 → ¬ x0 = 51 → ¬ x0 = 52 → ¬ x0 = 53 → ¬ x0 = 54 → ¬ x0 = 55 → ¬ x0 = 56 → x0 = 57 → x1 = 0 → x2 = 0 → Q (some (.int (g_194 (0 : Int32)))) (mkH hi hl sw kp))
    (h56 : ¬ x0 = 37 → ¬ x0 = 38 → ¬ x0 = 39 → ¬ x0 = 40 → ¬ x0 = 41 → ¬ x0 = 42 → ¬ x0 = 43 → ¬ x0 = 44 → ¬ x0 = 45 → ¬ x0 = 46 → ¬ x0 = 47 → ¬ x0 = 48 → ¬ x0 = 49 → ¬ x0 = 50 → ¬ x0 = 51 → ¬ x0 = 52 → ¬ x0 = 53 → ¬ x0 = 54 → ¬ x0 = 55 → ¬ x0 = 56 → x0 = 57 → x1 = 0 → ¬ (x2 = 0) → Q (some (.int (g_194 (1 : Int32)))) (mkH hi hl sw kp))
    (h57 : ¬ x0 = 37 → ¬ x0 = 38 → ¬ x0 = 39 → ¬ x0 = 40 → ¬ x0 = 41 → ¬ x0 = 42 → ¬ x0 = 43 → ¬ x0 = 44 → ¬ x0 = 45 → ¬ x0 = 46 → ¬ x0 = 47 → ¬ x0 = 48 → ¬ x0 = 49 → ¬ x0 = 50 → ¬ x0 = 51 → ¬ x0 = 52 → ¬ x0 = 53 → ¬ x0 = 54 → ¬ x0 = 55 → ¬ x0 = 56 → x0 = 57 → ¬ (x1 = 0) → Q (some (.int (g_194 (1 : Int32)))) (mkH hi hl sw kp))
    (h58 : ¬ x0 = 37 → ¬ x0 = 38 → ¬ x0 = 39 → ¬ x0 = 40 → ¬ x0 = 41 → ¬ x0 = 42 → ¬ x0 = 43 → ¬ x0 = 44 → ¬ x0 = 45 → ¬ x0 = 46 → ¬ x0 = 47 → ¬ x0 = 48 → ¬ x0 = 49 → ¬ x0 = 50 → ¬ x0 = 51 → ¬ x0 = 52 → ¬ x0 = 53 → ¬ x0 = 54 → ¬ x0 = 55 → ¬ x0 = 56 → ¬ x0 = 57 → x0 = 58 → x1 = 0 → x2 = 0 → Q (some (.int (g_194 (0 : Int32)))) (mkH hi hl sw kp))
    (h59 : ¬ x0 = 37 → ¬ x0 = 38 → ¬ x0 = 39 → ¬ x0 = 40 → ¬ x0 = 41 → ¬ x0 = 42 → ¬ x0 = 43 → ¬ x0 = 44 → ¬ x0 = 45 → ¬ x0 = 46 → ¬ x0 = 47 → ¬ x0 = 48 → ¬ x0 = 49 → ¬ x0 = 50 → ¬ x0 = 51 → ¬ x0 = 52 → ¬ x0 = 53 → ¬ x0 = 54 → ¬ x0 = 55 → ¬ x0 = 56 → ¬ x0 = 57 → x0 = 58 → x1 = 0 → ¬ (x2 = 0) → Q (some (.int (g_194 (1 : Int32)))) (mkH hi hl sw kp))
    (h60 : ¬ x0 = 37 → ¬ x0 = 38 → ¬ x0 = 39 → ¬ x0 = 40 → ¬ x0 = 41 → ¬ x0 = 42 → ¬ x0 = 43 → ¬ x0 = 44 → ¬ x0 = 45 → ¬ x0 = 46 → ¬ x0 = 47 → ¬ x0 = 48 → ¬ x0 = 49 → ¬ x0 = 50 → ¬ x0 = 51 → ¬ x0 = 52 → ¬ x0 = 53 → ¬ x0 = 54 → ¬ x0 = 55 → ¬ x0 = 56 → ¬ x0 = 57 → x0 = 58 → ¬ (x1 = 0) → Q (some (.int (g_194 (1 : Int32)))) (mkH hi hl sw kp))
    (h61 : ¬ x0 = 37 → ¬ x0 = 38 → ¬ x0 = 39 → ¬ x0 = 40 → ¬ x0 = 41 → ¬ x0 = 42 → ¬ x0 = 43 → ¬ x0 = 44 → ¬ x0 = 45 → ¬ x0 = 46 → ¬ x0 = 47 → ¬ x0 = 48 → ¬ x0 = 49 → ¬ x0 = 50 → ¬ x0 = 51 → ¬ x0 = 52 → ¬ x0 = 53 → ¬ x0 = 54 → ¬ x0 = 55 → ¬ x0 = 56 → ¬ x0 = 57 → ¬ x0 = 58 → x0 = 59 → x1 = 0 → x2 = 0 → Q (some (.int (g_194 (0 : Int32)))) (mkH hi hl sw kp))
    (h62 : ¬ x0 = 37 → ¬ x0 = 38 → ¬ x0 = 39 → ¬ x0 = 40 → ¬ x0 = 41 → ¬ x0 = 42 → ¬ x0 = 43 → ¬ x0 = 44 → ¬ x0 = 45 → ¬ x0 = 46 → ¬ x0 = 47 → ¬ x0 = 48 → ¬ x0 = 49 → ¬ x0 = 50 → ¬ x0 = 51 → ¬ x0 = 52 → ¬ x0 = 53 → ¬ x0 = 54 → ¬ x0 = 55 → ¬ x0 = 56 → ¬ x0 = 57 → ¬ x0 = 58 → x0 = 59 → x1 = 0 → ¬ (x2 = 0) → Q (some (.int (g_194 (1 : Int32)))) (mkH hi hl sw kp))
    (h63 : ¬ x0 = 37 → ¬ x0 = 38 → ¬ x0 = 39 → ¬ x0 = 40 → ¬ x0 = 41 → ¬ x0 = 42 → ¬ x0 = 43 → ¬ x0 = 44 → ¬ x0 = 45 → ¬ x0 = 46 → ¬ x0 = 47 → ¬ x0 = 48 → ¬ x0 = 49 → ¬ x0 = 50 → ¬ x0 = 51 → ¬ x0 = 52 → ¬ x0 = 53 → ¬ x0 = 54 → ¬ x0 = 55 → ¬ x0 = 56 → ¬ x0 = 57 → ¬ x0 = 58 → x0 = 59 → ¬ (x1 = 0) → Q (some (.int (g_194 (1 : Int32)))) (mkH hi hl sw kp))
    (h64 : ¬ x0 = 37 → ¬ x0 = 38 → ¬ x0 = 39 → ¬ x0 = 40 → ¬ x0 = 41 → ¬ x0 = 42 → ¬ x0 = 43 → ¬ x0 = 44 → ¬ x0 = 45 → ¬ x0 = 46 → ¬ x0 = 47 → ¬ x0 = 48 → ¬ x0 = 49 → ¬ x0 = 50 → ¬ x0 = 51 → ¬ x0 = 52 → ¬ x0 = 53 → ¬ x0 = 54 → ¬ x0 = 55 → ¬ x0 = 56 → ¬ x0 = 57 → ¬ x0 = 58 → ¬ x0 = 59 → x0 = 60 → x2 ≤ x1 → Q (some (.int (g_194 (0 : Int32)))) (mkH hi hl sw kp))
    (h65 : ¬ x0 = 37 → ¬ x0 = 38 → ¬ x0 = 39 → ¬ x0 = 40 → ¬ x0 = 41 → ¬ x0 = 42 → ¬ x0 = 43 → ¬ x0 = 44 → ¬ x0 = 45 → ¬ x0 = 46 → ¬ x0 = 47 → ¬ x0 = 48 → ¬ x0 = 49 → ¬ x0 = 50 → ¬ x0 = 51 → ¬ x0 = 52 → ¬ x0 = 53 → ¬ x0 = 54 → ¬ x0 = 55 → ¬ x0 = 56 → ¬ x0 = 57 → ¬ x0 = 58 → ¬ x0 = 59 → x0 = 60 → ¬ (x2 ≤ x1) → Q (some (.int (g_194 (1 : Int32)))) (mkH hi hl sw kp))
    (h66 : ¬ x0 = 37 → ¬ x0 = 38 → ¬ x0 = 39 → ¬ x0 = 40 → ¬ x0 = 41 → ¬ x0 = 42 → ¬ x0 = 43 → ¬ x0 = 44 → ¬ x0 = 45 → ¬ x0 = 46 → ¬ x0 = 47 → ¬ x0 = 48 → ¬ x0 = 49 → ¬ x0 = 50 → ¬ x0 = 51 → ¬ x0 = 52 → ¬ x0 = 53 → ¬ x0 = 54 → ¬ x0 = 55 → ¬ x0 = 56 → ¬ x0 = 57 → ¬ x0 = 58 → ¬ x0 = 59 → ¬ x0 = 60 → x0 = 61 → x1 = x2 → Q (some (.int (g_194 (1 : Int32)))) (mkH hi hl sw kp))
    (h67 : ¬ x0 = 37 → ¬ x0 = 38 → ¬ x0 = 39 → ¬ x0 = 40 → ¬ x0 = 41 → ¬ x0 = 42 → ¬ x0 = 43 → ¬ x0 = 44 → ¬ x0 = 45 → ¬ x0 = 46 → ¬ x0 = 47 → ¬ x0 = 48 → ¬ x0 = 49 → ¬ x0 = 50 → ¬ x0 = 51 → ¬ x0 = 52 → ¬ x0 = 53 → ¬ x0 = 54 → ¬ x0 = 55 → ¬ x0 = 56 → ¬ x0 = 57 → ¬ x0 = 58 → ¬ x0 = 59 → ¬ x0 = 60 → x0 = 61 → ¬ (x1 = x2) → Q (some (.int (g_194 (0 : Int32)))) (mkH hi hl sw kp))
    (h68 : ¬ x0 = 37 → ¬ x0 = 38 → ¬ x0 = 39 → ¬ x0 = 40 → ¬ x0 = 41 → ¬ x0 = 42 → ¬ x0 = 43 → ¬ x0 = 44 → ¬ x0 = 45 → ¬ x0 = 46 → ¬ x0 = 47 → ¬ x0 = 48 → ¬ x0 = 49 → ¬ x0 = 50 → ¬ x0 = 51 → ¬ x0 = 52 → ¬ x0 = 53 → ¬ x0 = 54 → ¬ x0 = 55 → ¬ x0 = 56 → ¬ x0 = 57 → ¬ x0 = 58 → ¬ x0 = 59 → ¬ x0 = 60 → ¬ x0 = 61 → x0 = 62 → x1 ≤ x2 → Q (some (.int (g_194 (0 : Int32)))) (mkH hi hl sw kp))
    (h69 : ¬ x0 = 37 → ¬ x0 = 38 → ¬ x0 = 39 → ¬ x0 = 40 → ¬ x0 = 41 → ¬ x0 = 42 → ¬ x0 = 43 → ¬ x0 = 44 → ¬ x0 = 45 → ¬ x0 = 46 → ¬ x0 = 47 → ¬ x0 = 48 → ¬ x0 = 49 → ¬ x0 = 50 → ¬ x0 = 51 → ¬ x0 = 52 → ¬ x0 = 53 → ¬ x0 = 54 → ¬ x0 = 55 → ¬ x0 = 56 → ¬ x0 = 57 → ¬ x0 = 58 → ¬ x0 = 59 → ¬ x0 = 60 → ¬ x0 = 61 → x0 = 62 → ¬ (x1 ≤ x2) → Q (some (.int (g_194 (1 : Int32)))) (mkH hi hl sw kp))
    (h70 : ¬ x0 = 37 → ¬ x0 = 38 → ¬ x0 = 39 → ¬ x0 = 40 → ¬ x0 = 41 → ¬ x0 = 42 → ¬ x0 = 43 → ¬ x0 = 44 → ¬ x0 = 45 → ¬ x0 = 46 → ¬ x0 = 47 → ¬ x0 = 48 → ¬ x0 = 49 → ¬ x0 = 50 → ¬ x0 = 51 → ¬ x0 = 52 → ¬ x0 = 53 → ¬ x0 = 54 → ¬ x0 = 55 → ¬ x0 = 56 → ¬ x0 = 57 → ¬ x0 = 58 → ¬ x0 = 59 → ¬ x0 = 60 → ¬ x0 = 61 → ¬ x0 = 62 → x1 = 0 → x2 = 0 → Q (some (.int (g_194 (0 : Int32)))) (mkH hi hl sw kp))
    (h71 : ¬ x0 = 37 → ¬ x0 = 38 → ¬ x0 = 39 → ¬ x0 = 40 → ¬ x0 = 41 → ¬ x0 = 42 → ¬ x0 = 43 → ¬ x0 = 44 → ¬ x0 = 45 → ¬ x0 = 46 → ¬ x0 = 47 → ¬ x0 = 48 → ¬ x0 = 49 → ¬ x0 = 50 → ¬ x0 = 51 → ¬ x0 = 52 → ¬ x0 = 53 → ¬ x0 = 54 → ¬ x0 = 55 → ¬ x0 = 56 → ¬ x0 = 57 → ¬ x0 = 58 → ¬ x0 = 59 → ¬ x0 = 60 → ¬ x0 = 61 → ¬ x0 = 62 → x1 = 0 → ¬ (x2 = 0) → Q (some (.int (g_194 (1 : Int32)))) (mkH hi hl sw kp))
    (h72 : ¬ x0 = 37 → ¬ x0 = 38 → ¬ x0 = 39 → ¬ x0 = 40 → ¬ x0 = 41 → ¬ x0 = 42 → ¬ x0 = 43 → ¬ x0 = 44 → ¬ x0 = 45 → ¬ x0 = 46 → ¬ x0 = 47 → ¬ x0 = 48 → ¬ x0 = 49 → ¬ x0 = 50 → ¬ x0 = 51 → ¬ x0 = 52 → ¬ x0 = 53 → ¬ x0 = 54 → ¬ x0 = 55 → ¬ x0 = 56 → ¬ x0 = 57 → ¬ x0 = 58 → ¬ x0 = 59 → ¬ x0 = 60 → ¬ x0 = 61 → ¬ x0 = 62 → ¬ (x1 = 0) → Q (some (.int (g_194 (1 : Int32)))) (mkH hi hl sw kp))
    : cW cd_195 (d + 1) Q 0 [some (.int x0), some (.int x1), some (.int x2)] [] (mkH hi hl sw kp) :=
  cW.run (am_in []) 10 (And.intro (fun c1 => (And.intro (fun c2 => (cQ.of (h1 c1 c2))) (fun c3 => (And.intro (h2 c1 c3) (cQ.of (h3 c1 c3)))))) (fun c4 => (And.intro (fun c5 => (And.intro (fun c6 => (cC.of (s_194 (cQ.of (h4 c4 c5 c6))))) (fun c7 => (And.intro (fun c8 => (cC.of (s_194 (cQ.of (h5 c4 c5 c7 c8))))) (fun c9 => (cC.of (s_194 (cQ.of (h6 c4 c5 c7 c9))))))))) (fun c10 => (And.intro (fun c11 => (And.intro (fun c12 => (And.intro (fun c13 => (cC.of (s_194 (cQ.of (h7 c4 c10 c11 c12 c13))))) (fun c14 => (cC.of (s_194 (cQ.of (h8 c4 c10 c11 c12 c14))))))) (fun c15 => (cC.of (s_194 (cQ.of (h9 c4 c10 c11 c15))))))) (fun c16 => (And.intro (fun c17 => (And.intro (fun c18 => (And.intro (fun c19 => (cC.of (s_194 (cQ.of (h10 c4 c10 c16 c17 c18 c19))))) (fun c20 => (cC.of (s_194 (cQ.of (h11 c4 c10 c16 c17 c18 c20))))))) (fun c21 => (cC.of (s_194 (cQ.of (h12 c4 c10 c16 c17 c21))))))) (fun c22 => (And.intro (fun c23 => (And.intro (fun c24 => (And.intro (fun c25 => (cC.of (s_194 (cQ.of (h13 c4 c10 c16 c22 c23 c24 c25))))) (fun c26 => (cC.of (s_194 (cQ.of (h14 c4 c10 c16 c22 c23 c24 c26))))))) (fun c27 => (cC.of (s_194 (cQ.of (h15 c4 c10 c16 c22 c23 c27))))))) (fun c28 => (And.intro (fun c29 => (cQ.of (h16 c4 c10 c16 c22 c28 c29))) (fun c30 => (And.intro (fun c31 => (cQ.of (h17 c4 c10 c16 c22 c28 c30 c31))) (fun c32 => (And.intro (fun c33 => (And.intro (fun c34 => (And.intro (fun c35 => (cC.of (s_194 (cQ.of (h18 c4 c10 c16 c22 c28 c30 c32 c33 c34 c35))))) (fun c36 => (cC.of (s_194 (cQ.of (h19 c4 c10 c16 c22 c28 c30 c32 c33 c34 c36))))))) (fun c37 => (cC.of (s_194 (cQ.of (h20 c4 c10 c16 c22 c28 c30 c32 c33 c37))))))) (fun c38 => (And.intro (fun c39 => (cQ.of (h21 c4 c10 c16 c22 c28 c30 c32 c38 c39))) (fun c40 => (And.intro (fun c41 => (And.intro (fun c42 => (And.intro (fun c43 => (cC.of (s_194 (cQ.of (h22 c4 c10 c16 c22 c28 c30 c32 c38 c40 c41 c42 c43))))) (fun c44 => (cC.of (s_194 (cQ.of (h23 c4 c10 c16 c22 c28 c30 c32 c38 c40 c41 c42 c44))))))) (fun c45 => (cC.of (s_194 (cQ.of (h24 c4 c10 c16 c22 c28 c30 c32 c38 c40 c41 c45))))))) (fun c46 => (And.intro (fun c47 => (And.intro (fun c48 => (cQ.of (h25 c4 c10 c16 c22 c28 c30 c32 c38 c40 c46 c47 c48))) (fun c49 => (And.intro (h26 c4 c10 c16 c22 c28 c30 c32 c38 c40 c46 c47 c49) (cQ.of (h27 c4 c10 c16 c22 c28 c30 c32 c38 c40 c46 c47 c49)))))) (fun c50 => (And.intro (fun c51 => (And.intro (fun c52 => (And.intro (fun c53 => (cC.of (s_194 (cQ.of (h28 c4 c10 c16 c22 c28 c30 c32 c38 c40 c46 c50 c51 c52 c53))))) (fun c54 => (cC.of (s_194 (cQ.of (h29 c4 c10 c16 c22 c28 c30 c32 c38 c40 c46 c50 c51 c52 c54))))))) (fun c55 => (cC.of (s_194 (cQ.of (h30 c4 c10 c16 c22 c28 c30 c32 c38 c40 c46 c50 c51 c55))))))) (fun c56 => (And.intro (fun c57 => (And.intro (fun c58 => (And.intro (fun c59 => (cC.of (s_194 (cQ.of (h31 c4 c10 c16 c22 c28 c30 c32 c38 c40 c46 c50 c56 c57 c58 c59))))) (fun c60 => (cC.of (s_194 (cQ.of (h32 c4 c10 c16 c22 c28 c30 c32 c38 c40 c46 c50 c56 c57 c58 c60))))))) (fun c61 => (cC.of (s_194 (cQ.of (h33 c4 c10 c16 c22 c28 c30 c32 c38 c40 c46 c50 c56 c57 c61))))))) (fun c62 => (And.intro (fun c63 => (And.intro (fun c64 => (And.intro (fun c65 => (cC.of (s_194 (cQ.of (h34 c4 c10 c16 c22 c28 c30 c32 c38 c40 c46 c50 c56 c62 c63 c64 c65))))) (fun c66 => (cC.of (s_194 (cQ.of (h35 c4 c10 c16 c22 c28 c30 c32 c38 c40 c46 c50 c56 c62 c63 c64 c66))))))) (fun c67 => (cC.of (s_194 (cQ.of (h36 c4 c10 c16 c22 c28 c30 c32 c38 c40 c46 c50 c56 c62 c63 c67))))))) (fun c68 => (And.intro (fun c69 => (And.intro (fun c70 => (And.intro (fun c71 => (cC.of (s_194 (cQ.of (h37 c4 c10 c16 c22 c28 c30 c32 c38 c40 c46 c50 c56 c62 c68 c69 c70 c71))))) (fun c72 => (cC.of (s_194 (cQ.of (h38 c4 c10 c16 c22 c28 c30 c32 c38 c40 c46 c50 c56 c62 c68 c69 c70 c72))))))) (fun c73 => (cC.of (s_194 (cQ.of (h39 c4 c10 c16 c22 c28 c30 c32 c38 c40 c46 c50 c56 c62 c68 c69 c73))))))) (fun c74 => (And.intro (fun c75 => (And.intro (fun c76 => (And.intro (fun c77 => (cC.of (s_194 (cQ.of (h40 c4 c10 c16 c22 c28 c30 c32 c38 c40 c46 c50 c56 c62 c68 c74 c75 c76 c77))))) (fun c78 => (cC.of (s_194 (cQ.of (h41 c4 c10 c16 c22 c28 c30 c32 c38 c40 c46 c50 c56 c62 c68 c74 c75 c76 c78))))))) (fun c79 => (cC.of (s_194 (cQ.of (h42 c4 c10 c16 c22 c28 c30 c32 c38 c40 c46 c50 c56 c62 c68 c74 c75 c79))))))) (fun c80 => (And.intro (fun c81 => (And.intro (fun c82 => (And.intro (fun c83 => (cC.of (s_194 (cQ.of (h43 c4 c10 c16 c22 c28 c30 c32 c38 c40 c46 c50 c56 c62 c68 c74 c80 c81 c82 c83))))) (fun c84 => (cC.of (s_194 (cQ.of (h44 c4 c10 c16 c22 c28 c30 c32 c38 c40 c46 c50 c56 c62 c68 c74 c80 c81 c82 c84))))))) (fun c85 => (cC.of (s_194 (cQ.of (h45 c4 c10 c16 c22 c28 c30 c32 c38 c40 c46 c50 c56 c62 c68 c74 c80 c81 c85))))))) (fun c86 => (And.intro (fun c87 => (And.intro (fun c88 => (And.intro (fun c89 => (cC.of (s_194 (cQ.of (h46 c4 c10 c16 c22 c28 c30 c32 c38 c40 c46 c50 c56 c62 c68 c74 c80 c86 c87 c88 c89))))) (fun c90 => (cC.of (s_194 (cQ.of (h47 c4 c10 c16 c22 c28 c30 c32 c38 c40 c46 c50 c56 c62 c68 c74 c80 c86 c87 c88 c90))))))) (fun c91 => (cC.of (s_194 (cQ.of (h48 c4 c10 c16 c22 c28 c30 c32 c38 c40 c46 c50 c56 c62 c68 c74 c80 c86 c87 c91))))))) (fun c92 => (And.intro (fun c93 => (And.intro (fun c94 => (And.intro (fun c95 => (cC.of (s_194 (cQ.of (h49 c4 c10 c16 c22 c28 c30 c32 c38 c40 c46 c50 c56 c62 c68 c74 c80 c86 c92 c93 c94 c95))))) (fun c96 => (cC.of (s_194 (cQ.of (h50 c4 c10 c16 c22 c28 c30 c32 c38 c40 c46 c50 c56 c62 c68 c74 c80 c86 c92 c93 c94 c96))))))) (fun c97 => (cC.of (s_194 (cQ.of (h51 c4 c10 c16 c22 c28 c30 c32 c38 c40 c46 c50 c56 c62 c68 c74 c80 c86 c92 c93 c97))))))) (fun c98 => (And.intro (fun c99 => (And.intro (fun c100 => (And.intro (fun c101 => (cC.of (s_194 (cQ.of (h52 c4 c10 c16 c22 c28 c30 c32 c38 c40 c46 c50 c56 c62 c68 c74 c80 c86 c92 c98 c99 c100 c101))))) (fun c102 => (cC.of (s_194 (cQ.of (h53 c4 c10 c16 c22 c28 c30 c32 c38 c40 c46 c50 c56 c62 c68 c74 c80 c86 c92 c98 c99 c100 c102))))))) (fun c103 => (cC.of (s_194 (cQ.of (h54 c4 c10 c16 c22 c28 c30 c32 c38 c40 c46 c50 c56 c62 c68 c74 c80 c86 c92 c98 c99 c103))))))) (fun c104 => (And.intro (fun c105 => (And.intro (fun c106 => (And.intro (fun c107 => (cC.of (s_194 (cQ.of (h55 c4 c10 c16 c22 c28 c30 c32 c38 c40 c46 c50 c56 c62 c68 c74 c80 c86 c92 c98 c104 c105 c106 c107))))) (fun c108 => (cC.of (s_194 (cQ.of (h56 c4 c10 c16 c22 c28 c30 c32 c38 c40 c46 c50 c56 c62 c68 c74 c80 c86 c92 c98 c104 c105 c106 c108))))))) (fun c109 => (cC.of (s_194 (cQ.of (h57 c4 c10 c16 c22 c28 c30 c32 c38 c40 c46 c50 c56 c62 c68 c74 c80 c86 c92 c98 c104 c105 c109))))))) (fun c110 => (And.intro (fun c111 => (And.intro (fun c112 => (And.intro (fun c113 => (cC.of (s_194 (cQ.of (h58 c4 c10 c16 c22 c28 c30 c32 c38 c40 c46 c50 c56 c62 c68 c74 c80 c86 c92 c98 c104 c110 c111 c112 c113))))) (fun c114 => (cC.of (s_194 (cQ.of (h59 c4 c10 c16 c22 c28 c30 c32 c38 c40 c46 c50 c56 c62 c68 c74 c80 c86 c92 c98 c104 c110 c111 c112 c114))))))) (fun c115 => (cC.of (s_194 (cQ.of (h60 c4 c10 c16 c22 c28 c30 c32 c38 c40 c46 c50 c56 c62 c68 c74 c80 c86 c92 c98 c104 c110 c111 c115))))))) (fun c116 => (And.intro (fun c117 => (And.intro (fun c118 => (And.intro (fun c119 => (cC.of (s_194 (cQ.of (h61 c4 c10 c16 c22 c28 c30 c32 c38 c40 c46 c50 c56 c62 c68 c74 c80 c86 c92 c98 c104 c110 c116 c117 c118 c119))))) (fun c120 => (cC.of (s_194 (cQ.of (h62 c4 c10 c16 c22 c28 c30 c32 c38 c40 c46 c50 c56 c62 c68 c74 c80 c86 c92 c98 c104 c110 c116 c117 c118 c120))))))) (fun c121 => (cC.of (s_194 (cQ.of (h63 c4 c10 c16 c22 c28 c30 c32 c38 c40 c46 c50 c56 c62 c68 c74 c80 c86 c92 c98 c104 c110 c116 c117 c121))))))) (fun c122 => (And.intro (fun c123 => (And.intro (fun c124 => (cC.of (s_194 (cQ.of (h64 c4 c10 c16 c22 c28 c30 c32 c38 c40 c46 c50 c56 c62 c68 c74 c80 c86 c92 c98 c104 c110 c116 c122 c123 c124))))) (fun c125 => (cC.of (s_194 (cQ.of (h65 c4 c10 c16 c22 c28 c30 c32 c38 c40 c46 c50 c56 c62 c68 c74 c80 c86 c92 c98 c104 c110 c116 c122 c123 c125))))))) (fun c126 => (And.intro (fun c127 => (And.intro (fun c128 => (cC.of (s_194 (cQ.of (h66 c4 c10 c16 c22 c28 c30 c32 c38 c40 c46 c50 c56 c62 c68 c74 c80 c86 c92 c98 c104 c110 c116 c122 c126 c127 c128))))) (fun c129 => (cC.of (s_194 (cQ.of (h67 c4 c10 c16 c22 c28 c30 c32 c38 c40 c46 c50 c56 c62 c68 c74 c80 c86 c92 c98 c104 c110 c116 c122 c126 c127 c129))))))) (fun c130 => (And.intro (fun c131 => (And.intro (fun c132 => (cC.of (s_194 (cQ.of (h68 c4 c10 c16 c22 c28 c30 c32 c38 c40 c46 c50 c56 c62 c68 c74 c80 c86 c92 c98 c104 c110 c116 c122 c126 c130 c131 c132))))) (fun c133 => (cC.of (s_194 (cQ.of (h69 c4 c10 c16 c22 c28 c30 c32 c38 c40 c46 c50 c56 c62 c68 c74 c80 c86 c92 c98 c104 c110 c116 c122 c126 c130 c131 c133))))))) (fun c134 => (And.intro (fun c135 => (And.intro (fun c136 => (cC.of (s_194 (cQ.of (h70 c4 c10 c16 c22 c28 c30 c32 c38 c40 c46 c50 c56 c62 c68 c74 c80 c86 c92 c98 c104 c110 c116 c122 c126 c130 c134 c135 c136))))) (fun c137 => (cC.of (s_194 (cQ.of (h71 c4 c10 c16 c22 c28 c30 c32 c38 c40 c46 c50 c56 c62 c68 c74 c80 c86 c92 c98 c104 c110 c116 c122 c126 c130 c134 c135 c137))))))) (fun c138 => (cC.of (s_194 (cQ.of (h72 c4 c10 c16 c22 c28 c30 c32 c38 c40 c46 c50 c56 c62 c68 c74 c80 c86 c92 c98 c104 c110 c116 c122 c126 c130 c134 c138))))))))))))))))))))))))))))))))))))))))))))))))))))))))))
theorem e_195 {x0 : Int32} {x1 : Int32} {x2 : Int32}
    (h1 : x0 = 37 → x2 = 0 → Q (some (.int (0))) (mkH hi hl sw kp))
    (h2 : x0 = 37 → ¬ (x2 = 0) → ¬ x2 = 0)
    (h3 : x0 = 37 → ¬ (x2 = 0) → Q (some (.int (x1 - x1 / x2 * x2))) (mkH hi hl sw kp))
    (h4 : ¬ x0 = 37 → x0 = 38 → x1 = 0 → Q (some (.int (g_194 (0 : Int32)))) (mkH hi hl sw kp))
    (h5 : ¬ x0 = 37 → x0 = 38 → ¬ (x1 = 0) → x2 = 0 → Q (some (.int (g_194 (0 : Int32)))) (mkH hi hl sw kp))
    (h6 : ¬ x0 = 37 → x0 = 38 → ¬ (x1 = 0) → ¬ (x2 = 0) → Q (some (.int (g_194 (1 : Int32)))) (mkH hi hl sw kp))
    (h7 : ¬ x0 = 37 → ¬ x0 = 38 → x0 = 39 → x1 = 0 → x2 = 0 → Q (some (.int (g_194 (0 : Int32)))) (mkH hi hl sw kp))
    (h8 : ¬ x0 = 37 → ¬ x0 = 38 → x0 = 39 → x1 = 0 → ¬ (x2 = 0) → Q (some (.int (g_194 (1 : Int32)))) (mkH hi hl sw kp))
    (h9 : ¬ x0 = 37 → ¬ x0 = 38 → x0 = 39 → ¬ (x1 = 0) → Q (some (.int (g_194 (1 : Int32)))) (mkH hi hl sw kp))
    (h10 : ¬ x0 = 37 → ¬ x0 = 38 → ¬ x0 = 39 → x0 = 40 → x1 = 0 → x2 = 0 → Q (some (.int (g_194 (0 : Int32)))) (mkH hi hl sw kp))
    (h11 : ¬ x0 = 37 → ¬ x0 = 38 → ¬ x0 = 39 → x0 = 40 → x1 = 0 → ¬ (x2 = 0) → Q (some (.int (g_194 (1 : Int32)))) (mkH hi hl sw kp))
    (h12 : ¬ x0 = 37 → ¬ x0 = 38 → ¬ x0 = 39 → x0 = 40 → ¬ (x1 = 0) → Q (some (.int (g_194 (1 : Int32)))) (mkH hi hl sw kp))
    (h13 : ¬ x0 = 37 → ¬ x0 = 38 → ¬ x0 = 39 → ¬ x0 = 40 → x0 = 41 → x1 = 0 → x2 = 0 → Q (some (.int (g_194 (0 : Int32)))) (mkH hi hl sw kp))
    (h14 : ¬ x0 = 37 → ¬ x0 = 38 → ¬ x0 = 39 → ¬ x0 = 40 → x0 = 41 → x1 = 0 → ¬ (x2 = 0) → Q (some (.int (g_194 (1 : Int32)))) (mkH hi hl sw kp))
    (h15 : ¬ x0 = 37 → ¬ x0 = 38 → ¬ x0 = 39 → ¬ x0 = 40 → x0 = 41 → ¬ (x1 = 0) → Q (some (.int (g_194 (1 : Int32)))) (mkH hi hl sw kp))
    (h16 : ¬ x0 = 37 → ¬ x0 = 38 → ¬ x0 = 39 → ¬ x0 = 40 → ¬ x0 = 41 → x0 = 42 → Q (some (.int (x1 * x2))) (mkH hi hl sw kp))
    (h17 : ¬ x0 = 37 → ¬ x0 = 38 → ¬ x0 = 39 → ¬ x0 = 40 → ¬ x0 = 41 → ¬ x0 = 42 → x0 = 43 → Q (some (.int (x1 + x2))) (mkH hi hl sw kp))
    (h18 : ¬ x0 = 37 → ¬ x0 = 38 → ¬ x0 = 39 → ¬ x0 = 40 → ¬ x0 = 41 → ¬ x0 = 42 → ¬ x0 = 43 → x0 = 44 → x1 = 0 → x2 = 0 → Q (some (.int (g_194 (0 : Int32)))) (mkH hi hl sw kp))
    (h19 : ¬ x0 = 37 → ¬ x0 = 38 → ¬ x0 = 39 → ¬ x0 = 40 → ¬ x0 = 41 → ¬ x0 = 42 → ¬ x0 = 43 → x0 = 44 → x1 = 0 → ¬ (x2 = 0) → Q (some (.int (g_194 (1 : Int32)))) (mkH hi hl sw kp))
    (h20 : ¬ x0 = 37 → ¬ x0 = 38 → ¬ x0 = 39 → ¬ x0 = 40 → ¬ x0 = 41 → ¬ x0 = 42 → ¬ x0 = 43 → x0 = 44 → ¬ (x1 = 0) → Q (some (.int (g_194 (1 : Int32)))) (mkH hi hl sw kp))
    (h21 : ¬ x0 = 37 → ¬ x0 = 38 → ¬ x0 = 39 → ¬ x0 = 40 → ¬ x0 = 41 → ¬ x0 = 42 → ¬ x0 = 43 → ¬ x0 = 44 → x0 = 45 → Q (some (.int (x1 - x2))) (mkH hi hl sw kp))
    (h22 : ¬ x0 = 37 → ¬ x0 = 38 → ¬ x0 = 39 → ¬ x0 = 40 → ¬ x0 = 41 → ¬ x0 = 42 → ¬ x0 = 43 → ¬ x0 = 44 → ¬ x0 = 45 → x0 = 46 → x1 = 0 → x2 = 0 → Q (some (.int (g_194 (0 : Int32)))) (mkH hi hl sw kp))
    (h23 : ¬ x0 = 37 → ¬ x0 = 38 → ¬ x0 = 39 → ¬ x0 = 40 → ¬ x0 = 41 → ¬ x0 = 42 → ¬ x0 = 43 → ¬ x0 = 44 → ¬ x0 = 45 → x0 = 46 → x1 = 0 → ¬ (x2 = 0) → Q (some (.int (g_194 (1 : Int32)))) (mkH hi hl sw kp))
    (h24 : ¬ x0 = 37 → ¬ x0 = 38 → ¬ x0 = 39 → ¬ x0 = 40 → ¬ x0 = 41 → ¬ x0 = 42 → ¬ x0 = 43 → ¬ x0 = 44 → ¬ x0 = 45 → x0 = 46 → ¬ (x1 = 0) → Q (some (.int (g_194 (1 : Int32)))) (mkH hi hl sw kp))
    (h25 : ¬ x0 = 37 → ¬ x0 = 38 → ¬ x0 = 39 → ¬ x0 = 40 → ¬ x0 = 41 → ¬ x0 = 42 → ¬ x0 = 43 → ¬ x0 = 44 → ¬ x0 = 45 → ¬ x0 = 46 → x0 = 47 → x2 = 0 → Q (some (.int (0))) (mkH hi hl sw kp))
    (h26 : ¬ x0 = 37 → ¬ x0 = 38 → ¬ x0 = 39 → ¬ x0 = 40 → ¬ x0 = 41 → ¬ x0 = 42 → ¬ x0 = 43 → ¬ x0 = 44 → ¬ x0 = 45 → ¬ x0 = 46 → x0 = 47 → ¬ (x2 = 0) → ¬ x2 = 0)
    (h27 : ¬ x0 = 37 → ¬ x0 = 38 → ¬ x0 = 39 → ¬ x0 = 40 → ¬ x0 = 41 → ¬ x0 = 42 → ¬ x0 = 43 → ¬ x0 = 44 → ¬ x0 = 45 → ¬ x0 = 46 → x0 = 47 → ¬ (x2 = 0) → Q (some (.int (x1 / x2))) (mkH hi hl sw kp))
    (h28 : ¬ x0 = 37 → ¬ x0 = 38 → ¬ x0 = 39 → ¬ x0 = 40 → ¬ x0 = 41 → ¬ x0 = 42 → ¬ x0 = 43 → ¬ x0 = 44 → ¬ x0 = 45 → ¬ x0 = 46 → ¬ x0 = 47 → x0 = 48 → x1 = 0 → x2 = 0 → Q (some (.int (g_194 (0 : Int32)))) (mkH hi hl sw kp))
    (h29 : ¬ x0 = 37 → ¬ x0 = 38 → ¬ x0 = 39 → ¬ x0 = 40 → ¬ x0 = 41 → ¬ x0 = 42 → ¬ x0 = 43 → ¬ x0 = 44 → ¬ x0 = 45 → ¬ x0 = 46 → ¬ x0 = 47 → x0 = 48 → x1 = 0 → ¬ (x2 = 0) → Q (some (.int (g_194 (1 : Int32)))) (mkH hi hl sw kp))
    (h30 : ¬ x0 = 37 → ¬ x0 = 38 → ¬ x0 = 39 → ¬ x0 = 40 → ¬ x0 = 41 → ¬ x0 = 42 → ¬ x0 = 43 → ¬ x0 = 44 → ¬ x0 = 45 → ¬ x0 = 46 → ¬ x0 = 47 → x0 = 48 → ¬ (x1 = 0) → Q (some (.int (g_194 (1 : Int32)))) (mkH hi hl sw kp))
    (h31 : ¬ x0 = 37 → ¬ x0 = 38 → ¬ x0 = 39 → ¬ x0 = 40 → ¬ x0 = 41 → ¬ x0 = 42 → ¬ x0 = 43 → ¬ x0 = 44 → ¬ x0 = 45 → ¬ x0 = 46 → ¬ x0 = 47 → ¬ x0 = 48 → x0 = 49 → x1 = 0 → x2 = 0 → Q (some (.int (g_194 (0 : Int32)))) (mkH hi hl sw kp))
    (h32 : ¬ x0 = 37 → ¬ x0 = 38 → ¬ x0 = 39 → ¬ x0 = 40 → ¬ x0 = 41 → ¬ x0 = 42 → ¬ x0 = 43 → ¬ x0 = 44 → ¬ x0 = 45 → ¬ x0 = 46 → ¬ x0 = 47 → ¬ x0 = 48 → x0 = 49 → x1 = 0 → ¬ (x2 = 0) → Q (some (.int (g_194 (1 : Int32)))) (mkH hi hl sw kp))
    (h33 : ¬ x0 = 37 → ¬ x0 = 38 → ¬ x0 = 39 → ¬ x0 = 40 → ¬ x0 = 41 → ¬ x0 = 42 → ¬ x0 = 43 → ¬ x0 = 44 → ¬ x0 = 45 → ¬ x0 = 46 → ¬ x0 = 47 → ¬ x0 = 48 → x0 = 49 → ¬ (x1 = 0) → Q (some (.int (g_194 (1 : Int32)))) (mkH hi hl sw kp))
    (h34 : ¬ x0 = 37 → ¬ x0 = 38 → ¬ x0 = 39 → ¬ x0 = 40 → ¬ x0 = 41 → ¬ x0 = 42 → ¬ x0 = 43 → ¬ x0 = 44 → ¬ x0 = 45 → ¬ x0 = 46 → ¬ x0 = 47 → ¬ x0 = 48 → ¬ x0 = 49 → x0 = 50 → x1 = 0 → x2 = 0 → Q (some (.int (g_194 (0 : Int32)))) (mkH hi hl sw kp))
    (h35 : ¬ x0 = 37 → ¬ x0 = 38 → ¬ x0 = 39 → ¬ x0 = 40 → ¬ x0 = 41 → ¬ x0 = 42 → ¬ x0 = 43 → ¬ x0 = 44 → ¬ x0 = 45 → ¬ x0 = 46 → ¬ x0 = 47 → ¬ x0 = 48 → ¬ x0 = 49 → x0 = 50 → x1 = 0 → ¬ (x2 = 0) → Q (some (.int (g_194 (1 : Int32)))) (mkH hi hl sw kp))
    (h36 : ¬ x0 = 37 → ¬ x0 = 38 → ¬ x0 = 39 → ¬ x0 = 40 → ¬ x0 = 41 → ¬ x0 = 42 → ¬ x0 = 43 → ¬ x0 = 44 → ¬ x0 = 45 → ¬ x0 = 46 → ¬ x0 = 47 → ¬ x0 = 48 → ¬ x0 = 49 → x0 = 50 → ¬ (x1 = 0) → Q (some (.int (g_194 (1 : Int32)))) (mkH hi hl sw kp))
    (h37 : ¬ x0 = 37 → ¬ x0 = 38 → ¬ x0 = 39 → ¬ x0 = 40 → ¬ x0 = 41 → ¬ x0 = 42 → ¬ x0 = 43 → ¬ x0 = 44 → ¬ x0 = 45 → ¬ x0 = 46 → ¬ x0 = 47 → ¬ x0 = 48 → ¬ x0 = 49 → ¬ x0 = 50 → x0 = 51 → x1 = 0 → x2 = 0 → Q (some (.int (g_194 (0 : Int32)))) (mkH hi hl sw kp))
    (h38 : ¬ x0 = 37 → ¬ x0 = 38 → ¬ x0 = 39 → ¬ x0 = 40 → ¬ x0 = 41 → ¬ x0 = 42 → ¬ x0 = 43 → ¬ x0 = 44 → ¬ x0 = 45 → ¬ x0 = 46 → ¬ x0 = 47 → ¬ x0 = 48 → ¬ x0 = 49 → ¬ x0 = 50 → x0 = 51 → x1 = 0 → ¬ (x2 = 0) → Q (some (.int (g_194 (1 : Int32)))) (mkH hi hl sw kp))
    (h39 : ¬ x0 = 37 → ¬ x0 = 38 → ¬ x0 = 39 → ¬ x0 = 40 → ¬ x0 = 41 → ¬ x0 = 42 → ¬ x0 = 43 → ¬ x0 = 44 → ¬ x0 = 45 → ¬ x0 = 46 → ¬ x0 = 47 → ¬ x0 = 48 → ¬ x0 = 49 → ¬ x0 = 50 → x0 = 51 → ¬ (x1 = 0) → Q (some (.int (g_194 (1 : Int32)))) (mkH hi hl sw kp))
    (h40 : ¬ x0 = 37 → ¬ x0 = 38 → ¬ x0 = 39 → ¬ x0 = 40 → ¬ x0 = 41 → ¬ x0 = 42 → ¬ x0 = 43 → ¬ x0 = 44 → ¬ x0 = 45 → ¬ x0 = 46 → ¬ x0 = 47 → ¬ x0 = 48 → ¬ x0 = 49 → ¬ x0 = 50 → ¬ x0 = 51 → x0 = 52 → x1 = 0 → x2 = 0 → Q (some (.int (g_194 (0 : Int32)))) (mkH hi hl sw kp))
    (h41 : ¬ x0 = 37 → ¬ x0 = 38 → ¬ x0 = 39 → ¬ x0 = 40 → ¬ x0 = 41 → ¬ x0 = 42 → ¬ x0 = 43 → ¬ x0 = 44 → ¬ x0 = 45 → ¬ x0 = 46 → ¬ x0 = 47 → ¬ x0 = 48 → ¬ x0 = 49 → ¬ x0 = 50 → ¬ x0 = 51 → x0 = 52 → x1 = 0 → ¬ (x2 = 0) → Q (some (.int (g_194 (1 : Int32)))) (mkH hi hl sw kp))
    (h42 : ¬ x0 = 37 → ¬ x0 = 38 → ¬ x0 = 39 → ¬ x0 = 40 → ¬ x0 = 41 → ¬ x0 = 42 → ¬ x0 = 43 → ¬ x0 = 44 → ¬ x0 = 45 → ¬ x0 = 46 → ¬ x0 = 47 → ¬ x0 = 48 → ¬ x0 = 49 → ¬ x0 = 50 → ¬ x0 = 51 → x0 = 52 → ¬ (x1 = 0) → Q (some (.int (g_194 (1 : Int32)))) (mkH hi hl sw kp))
    (h43 : ¬ x0 = 37 → ¬ x0 = 38 → ¬ x0 = 39 → ¬ x0 = 40 → ¬ x0 = 41 → ¬ x0 = 42 → ¬ x0 = 43 → ¬ x0 = 44 → ¬ x0 = 45 → ¬ x0 = 46 → ¬ x0 = 47 → ¬ x0 = 48 → ¬ x0 = 49 → ¬ x0 = 50 → ¬ x0 = 51 → ¬ x0 = 52 → x0 = 53 → x1 = 0 → x2 = 0 → Q (some (.int (g_194 (0 : Int32)))) (mkH hi hl sw kp))
    (h44 : ¬ x0 = 37 → ¬ x0 = 38 → ¬ x0 = 39 → ¬ x0 = 40 → ¬ x0 = 41 → ¬ x0 = 42 → ¬ x0 = 43 → ¬ x0 = 44 → ¬ x0 = 45 → ¬ x0 = 46 → ¬ x0 = 47 → ¬ x0 = 48 → ¬ x0 = 49 → ¬ x0 = 50 → ¬ x0 = 51 → ¬ x0 = 52 → x0 = 53 → x1 = 0 → ¬ (x2 = 0) → Q (some (.int (g_194 (1 : Int32)))) (mkH hi hl sw kp))
    (h45 : ¬ x0 = 37 → ¬ x0 = 38 → ¬ x0 = 39 → ¬ x0 = 40 → ¬ x0 = 41 → ¬ x0 = 42 → ¬ x0 = 43 → ¬ x0 = 44 → ¬ x0 = 45 → ¬ x0 = 46 → ¬ x0 = 47 → ¬ x0 = 48 → ¬ x0 = 49 → ¬ x0 = 50 → ¬ x0 = 51 → ¬ x0 = 52 → x0 = 53 → ¬ (x1 = 0) → Q (some (.int (g_194 (1 : Int32)))) (mkH hi hl sw kp))
    (h46 : ¬ x0 = 37 → ¬ x0 = 38 → ¬ x0 = 39 → ¬ x0 = 40 → ¬ x0 = 41 → ¬ x0 = 42 → ¬ x0 = 43 → ¬ x0 = 44 → ¬ x0 = 45 → ¬ x0 = 46 → ¬ x0 = 47 → ¬ x0 = 48 → ¬ x0 = 49 → ¬ x0 = 50 → ¬ x0 = 51 → ¬ x0 = 52 → ¬ x0 = 53 → x0 = 54 → x1 = 0 → x2 = 0 → Q (some (.int (g_194 (0 : Int32)))) (mkH hi hl sw kp))
    (h47 : ¬ x0 = 37 → ¬ x0 = 38 → ¬ x0 = 39 → ¬ x0 = 40 → ¬ x0 = 41 → ¬ x0 = 42 → ¬ x0 = 43 → ¬ x0 = 44 → ¬ x0 = 45 → ¬ x0 = 46 → ¬ x0 = 47 → ¬ x0 = 48 → ¬ x0 = 49 → ¬ x0 = 50 → ¬ x0 = 51 → ¬ x0 = 52 → ¬ x0 = 53 → x0 = 54 → x1 = 0 → ¬ (x2 = 0) → Q (some (.int (g_194 (1 : Int32)))) (mkH hi hl sw kp))
    (h48 : ¬ x0 = 37 → ¬ x0 = 38 → ¬ x0 = 39 → ¬ x0 = 40 → ¬ x0 = 41 → ¬ x0 = 42 → ¬ x0 = 43 → ¬ x0 = 44 → ¬ x0 = 45 → ¬ x0 = 46 → ¬ x0 = 47 → ¬ x0 = 48 → ¬ x0 = 49 → ¬ x0 = 50 → ¬ x0 = 51 → ¬ x0 = 52 → ¬ x0 = 53 → x0 = 54 → ¬ (x1 = 0) → Q (some (.int (g_194 (1 : Int32)))) (mkH hi hl sw kp))
    (h49 : ¬ x0 = 37 → ¬ x0 = 38 → ¬ x0 = 39 → ¬ x0 = 40 → ¬ x0 = 41 → ¬ x0 = 42 → ¬ x0 = 43 → ¬ x0 = 44 → ¬ x0 = 45 → ¬ x0 = 46 → ¬ x0 = 47 → ¬ x0 = 48 → ¬ x0 = 49 → ¬ x0 = 50 → ¬ x0 = 51 → ¬ x0 = 52 → ¬ x0 = 53 → ¬ x0 = 54 → x0 = 55 → x1 = 0 → x2 = 0 → Q (some (.int (g_194 (0 : Int32)))) (mkH hi hl sw kp))
    (h50 : ¬ x0 = 37 → ¬ x0 = 38 → ¬ x0 = 39 → ¬ x0 = 40 → ¬ x0 = 41 → ¬ x0 = 42 → ¬ x0 = 43 → ¬ x0 = 44 → ¬ x0 = 45 → ¬ x0 = 46 → ¬ x0 = 47 → ¬ x0 = 48 → ¬ x0 = 49 → ¬ x0 = 50 → ¬ x0 = 51 → ¬ x0 = 52 → ¬ x0 = 53 → ¬ x0 = 54 → x0 = 55 → x1 = 0 → ¬ (x2 = 0) → Q (some (.int (g_194 (1 : Int32)))) (mkH hi hl sw kp))
    (h51 : ¬ x0 = 37 → ¬ x0 = 38 → ¬ x0 = 39 → ¬ x0 = 40 → ¬ x0 = 41 → ¬ x0 = 42 → ¬ x0 = 43 → ¬ x0 = 44 → ¬ x0 = 45 → ¬ x0 = 46 → ¬ x0 = 47 → ¬ x0 = 48 → ¬ x0 = 49 → ¬ x0 = 50 → ¬ x0 = 51 → ¬ x0 = 52 → ¬ x0 = 53 → ¬ x0 = 54 → x0 = 55 → ¬ (x1 = 0) → Q (some (.int (g_194 (1 : Int32)))) (mkH hi hl sw kp))
    (h52 : ¬ x0 = 37 → ¬ x0 = 38 → ¬ x0 = 39 → ¬ x0 = 40 → ¬ x0 = 41 → ¬ x0 = 42 → ¬ x0 = 43 → ¬ x0 = 44 → ¬ x0 = 45 → ¬ x0 = 46 → ¬ x0 = 47 → ¬ x0 = 48 → ¬ x0 = 49 → ¬ x0 = 50 → ¬ x0 = 51 → ¬ x0 = 52 → ¬ x0 = 53 → ¬ x0 = 54 → ¬ x0 = 55 → x0 = 56 → x1 = 0 → x2 = 0 → Q (some (.int (g_194 (0 : Int32)))) (mkH hi hl sw kp))
    (h53 : ¬ x0 = 37 → ¬ x0 = 38 → ¬ x0 = 39 → ¬ x0 = 40 → ¬ x0 = 41 → ¬ x0 = 42 → ¬ x0 = 43 → ¬ x0 = 44 → ¬ x0 = 45 → ¬ x0 = 46 → ¬ x0 = 47 → ¬ x0 = 48 → ¬ x0 = 49 → ¬ x0 = 50 → ¬ x0 = 51 → ¬ x0 = 52 → ¬ x0 = 53 → ¬ x0 = 54 → ¬ x0 = 55 → x0 = 56 → x1 = 0 → ¬ (x2 = 0) → Q (some (.int (g_194 (1 : Int32)))) (mkH hi hl sw kp))
    (h54 : ¬ x0 = 37 → ¬ x0 = 38 → ¬ x0 = 39 → ¬ x0 = 40 → ¬ x0 = 41 → ¬ x0 = 42 → ¬ x0 = 43 → ¬ x0 = 44 → ¬ x0 = 45 → ¬ x0 = 46 → ¬ x0 = 47 → ¬ x0 = 48 → ¬ x0 = 49 → ¬ x0 = 50 → ¬ x0 = 51 → ¬ x0 = 52 → ¬ x0 = 53 → ¬ x0 = 54 → ¬ x0 = 55 → x0 = 56 → ¬ (x1 = 0) → Q (some (.int (g_194 (1 : Int32)))) (mkH hi hl sw kp))
    (h55 : ¬ x0 = 37 → ¬ x0 = 38 → ¬ x0 = 39 → ¬ x0 = 40 → ¬ x0 = 41 → ¬ x0 = 42 → ¬ x0 = 43 → ¬ x0 = 44 → ¬ x0 = 45 → ¬ x0 = 46 → ¬ x0 = 47 → ¬ x0 = 48 → ¬ x0 = 49 → ¬ x0 = 50 → ¬ x0 = 51 → ¬ x0 = 52 → ¬ x0 = 53 → ¬ x0 = 54 → ¬ x0 = 55 → ¬ x0 = 56 → x0 = 57 → x1 = 0 → x2 = 0 → Q (some (.int (g_194 (0 : Int32)))) (mkH hi hl sw kp))
    (h56 : ¬ x0 = 37 → ¬ x0 = 38 → ¬ x0 = 39 → ¬ x0 = 40 → ¬ x0 = 41 → ¬ x0 = 42 → ¬ x0 = 43 → ¬ x0 = 44 → ¬ x0 = 45 → ¬ x0 = 46 → ¬ x0 = 47 → ¬ x0 = 48 → ¬ x0 = 49 → ¬ x0 = 50 → ¬ x0 = 51 → ¬ x0 = 52 → ¬ x0 = 53 → ¬ x0 = 54 → ¬ x0 = 55 → ¬ x0 = 56 → x0 = 57 → x1 = 0 → ¬ (x2 = 0) → Q (some (.int (g_194 (1 : Int32)))) (mkH hi hl sw kp))
    (h57 : ¬ x0 = 37 → ¬ x0 = 38 → ¬ x0 = 39 → ¬ x0 = 40 → ¬ x0 = 41 → ¬ x0 = 42 → ¬ x0 = 43 → ¬ x0 = 44 → ¬ x0 = 45 → ¬ x0 = 46 → ¬ x0 = 47 → ¬ x0 = 48 → ¬ x0 = 49 → ¬ x0 = 50 → ¬ x0 = 51 → ¬ x0 = 52 → ¬ x0 = 53 → ¬ x0 = 54 → ¬ x0 = 55 → ¬ x0 = 56 → x0 = 57 → ¬ (x1 = 0) → Q (some (.int (g_194 (1 : Int32)))) (mkH hi hl sw kp))
    (h58 : ¬ x0 = 37 → ¬ x0 = 38 → ¬ x0 = 39 → ¬ x0 = 40 → ¬ x0 = 41 → ¬ x0 = 42 → ¬ x0 = 43 → ¬ x0 = 44 → ¬ x0 = 45 → ¬ x0 = 46 → ¬ x0 = 47 → ¬ x0 = 48 → ¬ x0 = 49 → ¬ x0 = 50 → ¬ x0 = 51 → ¬ x0 = 52 → ¬ x0 = 53 → ¬ x0 = 54 → ¬ x0 = 55 → ¬ x0 = 56 → ¬ x0 = 57 → x0 = 58 → x1 = 0 → x2 = 0 → Q (some (.int (g_194 (0 : Int32)))) (mkH hi hl sw kp))
    (h59 : ¬ x0 = 37 → ¬ x0 = 38 → ¬ x0 = 39 → ¬ x0 = 40 → ¬ x0 = 41 → ¬ x0 = 42 → ¬ x0 = 43 → ¬ x0 = 44 → ¬ x0 = 45 → ¬ x0 = 46 → ¬ x0 = 47 → ¬ x0 = 48 → ¬ x0 = 49 → ¬ x0 = 50 → ¬ x0 = 51 → ¬ x0 = 52 → ¬ x0 = 53 → ¬ x0 = 54 → ¬ x0 = 55 → ¬ x0 = 56 → ¬ x0 = 57 → x0 = 58 → x1 = 0 → ¬ (x2 = 0) → Q (some (.int (g_194 (1 : Int32)))) (mkH hi hl sw kp))
    (h60 : ¬ x0 = 37 → ¬ x0 = 38 → ¬ x0 = 39 → ¬ x0 = 40 → ¬ x0 = 41 → ¬ x0 = 42 → ¬ x0 = 43 → ¬ x0 = 44 → ¬ x0 = 45 → ¬ x0 = 46 → ¬ x0 = 47 → ¬ x0 = 48 → ¬ x0 = 49 → ¬ x0 = 50 → ¬ x0 = 51 → ¬ x0 = 52 → ¬ x0 = 53 → ¬ x0 = 54 → ¬ x0 = 55 → ¬ x0 = 56 → ¬ x0 = 57 → x0 = 58 → ¬ (x1 = 0) → Q (some (.int (g_194 (1 : Int32)))) (mkH hi hl sw kp))
    (h61 : ¬ x0 = 37 → ¬ x0 = 38 → ¬ x0 = 39 → ¬ x0 = 40 → ¬ x0 = 41 → ¬ x0 = 42 → ¬ x0 = 43 → ¬ x0 = 44 → ¬ x0 = 45 → ¬ x0 = 46 → ¬ x0 = 47 → ¬ x0 = 48 → ¬ x0 = 49 → ¬ x0 = 50 → ¬ x0 = 51 → ¬ x0 = 52 → ¬ x0 = 53 → ¬ x0 = 54 → ¬ x0 = 55 → ¬ x0 = 56 → ¬ x0 = 57 → ¬ x0 = 58 → x0 = 59 → x1 = 0 → x2 = 0 → Q (some (.int (g_194 (0 : Int32)))) (mkH hi hl sw kp))
    (h62 : ¬ x0 = 37 → ¬ x0 = 38 → ¬ x0 = 39 → ¬ x0 = 40 → ¬ x0 = 41 → ¬ x0 = 42 → ¬ x0 = 43 → ¬ x0 = 44 → ¬ x0 = 45 → ¬ x0 = 46 → ¬ x0 = 47 → ¬ x0 = 48 → ¬ x0 = 49 → ¬ x0 = 50 → ¬ x0 = 51 → ¬ x0 = 52 → ¬ x0 = 53 → ¬ x0 = 54 → ¬ x0 = 55 → ¬ x0 = 56 → ¬ x0 = 57 → ¬ x0 = 58 → x0 = 59 → x1 = 0 → ¬ (x2 = 0) → Q (some (.int (g_194 (1 : Int32)))) (mkH hi hl sw kp))
    (h63 : ¬ x0 = 37 → ¬ x0 = 38 → ¬ x0 = 39 → ¬ x0 = 40 → ¬ x0 = 41 → ¬ x0 = 42 → ¬ x0 = 43 → ¬ x0 = 44 → ¬ x0 = 45 → ¬ x0 = 46 → ¬ x0 = 47 → ¬ x0 = 48 → ¬ x0 = 49 → ¬ x0 = 50 → ¬ x0 = 51 → ¬ x0 = 52 → ¬ x0 = 53 → ¬ x0 = 54 → ¬ x0 = 55 → ¬ x0 = 56 → ¬ x0 = 57 → ¬ x0 = 58 → x0 = 59 → ¬ (x1 = 0) → Q (some (.int (g_194 (1 : Int32)))) (mkH hi hl sw kp))
    (h64 : ¬ x0 = 37 → ¬ x0 = 38 → ¬ x0 = 39 → ¬ x0 = 40 → ¬ x0 = 41 → ¬ x0 = 42 → ¬ x0 = 43 → ¬ x0 = 44 → ¬ x0 = 45 → ¬ x0 = 46 → ¬ x0 = 47 → ¬ x0 = 48 → ¬ x0 = 49 → ¬ x0 = 50 → ¬ x0 = 51 → ¬ x0 = 52 → ¬ x0 = 53 → ¬ x0 = 54 → ¬ x0 = 55 → ¬ x0 = 56 → ¬ x0 = 57 → ¬ x0 = 58 → ¬ x0 = 59 → x0 = 60 → x2 ≤ x1 → Q (some (.int (g_194 (0 : Int32)))) (mkH hi hl sw kp))
    (h65 : ¬ x0 = 37 → ¬ x0 = 38 → ¬ x0 = 39 → ¬ x0 = 40 → ¬ x0 = 41 → ¬ x0 = 42 → ¬ x0 = 43 → ¬ x0 = 44 → ¬ x0 = 45 → ¬ x0 = 46 → ¬ x0 = 47 → ¬ x0 = 48 → ¬ x0 = 49 → ¬ x0 = 50 → ¬ x0 = 51 → ¬ x0 = 52 → ¬ x0 = 53 → ¬ x0 = 54 → ¬ x0 = 55 → ¬ x0 = 56 → ¬ x0 = 57 → ¬ x0 = 58 → ¬ x0 = 59 → x0 = 60 → ¬ (x2 ≤ x1) → Q (some (.int (g_194 (1 : Int32)))) (mkH hi hl sw kp))
    (h66 : ¬ x0 = 37 → ¬ x0 = 38 → ¬ x0 = 39 → ¬ x0 = 40 → ¬ x0 = 41 → ¬ x0 = 42 → ¬ x0 = 43 → ¬ x0 = 44 → ¬ x0 = 45 → ¬ x0 = 46 → ¬ x0 = 47 → ¬ x0 = 48 → ¬ x0 = 49 → ¬ x0 = 50 → ¬ x0 = 51 → ¬ x0 = 52 → ¬ x0 = 53 → ¬ x0 = 54 → ¬ x0 = 55 → ¬ x0 = 56 → ¬ x0 = 57 → ¬ x0 = 58 → ¬ x0 = 59 → ¬ x0 = 60 → x0 = 61 → x1 = x2 → Q (some (.int (g_194 (1 : Int32)))) (mkH hi hl sw kp))
    (h67 : ¬ x0 = 37 → ¬ x0 = 38 → ¬ x0 = 39 → ¬ x0 = 40 → ¬ x0 = 41 → ¬ x0 = 42 → ¬ x0 = 43 → ¬ x0 = 44 → ¬ x0 = 45 → ¬ x0 = 46 → ¬ x0 = 47 → ¬ x0 = 48 → ¬ x0 = 49 → ¬ x0 = 50 → ¬ x0 = 51 → ¬ x0 = 52 → ¬ x0 = 53 → ¬ x0 = 54 → ¬ x0 = 55 → ¬ x0 = 56 → ¬ x0 = 57 → ¬ x0 = 58 → ¬ x0 = 59 → ¬ x0 = 60 → x0 = 61 → ¬ (x1 = x2) → Q (some (.int (g_194 (0 : Int32)))) (mkH hi hl sw kp))
    (h68 : ¬ x0 = 37 → ¬ x0 = 38 → ¬ x0 = 39 → ¬ x0 = 40 → ¬ x0 = 41 → ¬ x0 = 42 → ¬ x0 = 43 → ¬ x0 = 44 → ¬ x0 = 45 → ¬ x0 = 46 → ¬ x0 = 47 → ¬ x0 = 48 → ¬ x0 = 49 → ¬ x0 = 50 → ¬ x0 = 51 → ¬ x0 = 52 → ¬ x0 = 53 → ¬ x0 = 54 → ¬ x0 = 55 → ¬ x0 = 56 → ¬ x0 = 57 → ¬ x0 = 58 → ¬ x0 = 59 → ¬ x0 = 60 → ¬ x0 = 61 → x0 = 62 → x1 ≤ x2 → Q (some (.int (g_194 (0 : Int32)))) (mkH hi hl sw kp))
    (h69 : ¬ x0 = 37 → ¬ x0 = 38 → ¬ x0 = 39 → ¬ x0 = 40 → ¬ x0 = 41 → ¬ x0 = 42 → ¬ x0 = 43 → ¬ x0 = 44 → ¬ x0 = 45 → ¬ x0 = 46 → ¬ x0 = 47 → ¬ x0 = 48 → ¬ x0 = 49 → ¬ x0 = 50 → ¬ x0 = 51 → ¬ x0 = 52 → ¬ x0 = 53 → ¬ x0 = 54 → ¬ x0 = 55 → ¬ x0 = 56 → ¬ x0 = 57 → ¬ x0 = 58 → ¬ x0 = 59 → ¬ x0 = 60 → ¬ x0 = 61 → x0 = 62 → ¬ (x1 ≤ x2) → Q (some (.int (g_194 (1 : Int32)))) (mkH hi hl sw kp))
    (h70 : ¬ x0 = 37 → ¬ x0 = 38 → ¬ x0 = 39 → ¬ x0 = 40 → ¬ x0 = 41 → ¬ x0 = 42 → ¬ x0 = 43 → ¬ x0 = 44 → ¬ x0 = 45 → ¬ x0 = 46 → ¬ x0 = 47 → ¬ x0 = 48 → ¬ x0 = 49 → ¬ x0 = 50 → ¬ x0 = 51 → ¬ x0 = 52 → ¬ x0 = 53 → ¬ x0 = 54 → ¬ x0 = 55 → ¬ x0 = 56 → ¬ x0 = 57 → ¬ x0 = 58 → ¬ x0 = 59 → ¬ x0 = 60 → ¬ x0 = 61 → ¬ x0 = 62 → x1 = 0 → x2 = 0 → Q (some (.int (g_194 (0 : Int32)))) (mkH hi hl sw kp))
    (h71 : ¬ x0 = 37 → ¬ x0 = 38 → ¬ x0 = 39 → ¬ x0 = 40 → ¬ x0 = 41 → ¬ x0 = 42 → ¬ x0 = 43 → ¬ x0 = 44 → ¬ x0 = 45 → ¬ x0 = 46 → ¬ x0 = 47 → ¬ x0 = 48 → ¬ x0 = 49 → ¬ x0 = 50 → ¬ x0 = 51 → ¬ x0 = 52 → ¬ x0 = 53 → ¬ x0 = 54 → ¬ x0 = 55 → ¬ x0 = 56 → ¬ x0 = 57 → ¬ x0 = 58 → ¬ x0 = 59 → ¬ x0 = 60 → ¬ x0 = 61 → ¬ x0 = 62 → x1 = 0 → ¬ (x2 = 0) → Q (some (.int (g_194 (1 : Int32)))) (mkH hi hl sw kp))
    (h72 : ¬ x0 = 37 → ¬ x0 = 38 → ¬ x0 = 39 → ¬ x0 = 40 → ¬ x0 = 41 → ¬ x0 = 42 → ¬ x0 = 43 → ¬ x0 = 44 → ¬ x0 = 45 → ¬ x0 = 46 → ¬ x0 = 47 → ¬ x0 = 48 → ¬ x0 = 49 → ¬ x0 = 50 → ¬ x0 = 51 → ¬ x0 = 52 → ¬ x0 = 53 → ¬ x0 = 54 → ¬ x0 = 55 → ¬ x0 = 56 → ¬ x0 = 57 → ¬ x0 = 58 → ¬ x0 = 59 → ¬ x0 = 60 → ¬ x0 = 61 → ¬ x0 = 62 → ¬ (x1 = 0) → Q (some (.int (g_194 (1 : Int32)))) (mkH hi hl sw kp))
    : cS ((d + 1) + 1) 195 [(.int x0), (.int x1), (.int x2)] (mkH hi hl sw kp) Q := cS.of rfl (k_195_0 h1 h2 h3 h4 h5 h6 h7 h8 h9 h10 h11 h12 h13 h14 h15 h16 h17 h18 h19 h20 h21 h22 h23 h24 h25 h26 h27 h28 h29 h30 h31 h32 h33 h34 h35 h36 h37 h38 h39 h40 h41 h42 h43 h44 h45 h46 h47 h48 h49 h50 h51 h52 h53 h54 h55 h56 h57 h58 h59 h60 h61 h62 h63 h64 h65 h66 h67 h68 h69 h70 h71 h72)
def g_195 (x0 : Int32) (x1 : Int32) (x2 : Int32) : Int32 := if x0 = 37 then if x2 = 0 then (0) else ((x1 - x1 / x2 * x2)) else (if x0 = 38 then if x1 = 0 then (g_194 (0 : Int32)) else (if x2 = 0 then (g_194 (0 : Int32)) else ((g_194 (1 : Int32)))) else (if x0 = 39 then if x1 = 0 then if x2 = 0 then (g_194 (0 : Int32)) else ((g_194 (1 : Int32))) else ((g_194 (1 : Int32))) else (if x0 = 40 then if x1 = 0 then if x2 = 0 then (g_194 (0 : Int32)) else ((g_194 (1 : Int32))) else ((g_194 (1 : Int32))) else (if x0 = 41 then if x1 = 0 then if x2 = 0 then (g_194 (0 : Int32)) else ((g_194 (1 : Int32))) else ((g_194 (1 : Int32))) else (if x0 = 42 then (x1 * x2) else (if x0 = 43 then (x1 + x2) else (if x0 = 44 then if x1 = 0 then if x2 = 0 then (g_194 (0 : Int32)) else ((g_194 (1 : Int32))) else ((g_194 (1 : Int32))) else (if x0 = 45 then (x1 - x2) else (if x0 = 46 then if x1 = 0 then if x2 = 0 then (g_194 (0 : Int32)) else ((g_194 (1 : Int32))) else ((g_194 (1 : Int32))) else (if x0 = 47 then if x2 = 0 then (0) else ((x1 / x2)) else (if x0 = 48 then if x1 = 0 then if x2 = 0 then (g_194 (0 : Int32)) else ((g_194 (1 : Int32))) else ((g_194 (1 : Int32))) else (if x0 = 49 then if x1 = 0 then if x2 = 0 then (g_194 (0 : Int32)) else ((g_194 (1 : Int32))) else ((g_194 (1 : Int32))) else (if x0 = 50 then if x1 = 0 then if x2 = 0 then (g_194 (0 : Int32)) else ((g_194 (1 : Int32))) else ((g_194 (1 : Int32))) else (if x0 = 51 then if x1 = 0 then if x2 = 0 then (g_194 (0 : Int32)) else ((g_194 (1 : Int32))) else ((g_194 (1 : Int32))) else (if x0 = 52 then if x1 = 0 then if x2 = 0 then (g_194 (0 : Int32)) else ((g_194 (1 : Int32))) else ((g_194 (1 : Int32))) else (if x0 = 53 then if x1 = 0 then if x2 = 0 then (g_194 (0 : Int32)) else ((g_194 (1 : Int32))) else ((g_194 (1 : Int32))) else (if x0 = 54 then if x1 = 0 then if x2 = 0 then (g_194 (0 : Int32)) else ((g_194 (1 : Int32))) else ((g_194 (1 : Int32))) else (if x0 = 55 then if x1 = 0 then if x2 = 0 then (g_194 (0 : Int32)) else ((g_194 (1 : Int32))) else ((g_194 (1 : Int32))) else (if x0 = 56 then if x1 = 0 then if x2 = 0 then (g_194 (0 : Int32)) else ((g_194 (1 : Int32))) else ((g_194 (1 : Int32))) else (if x0 = 57 then if x1 = 0 then if x2 = 0 then (g_194 (0 : Int32)) else ((g_194 (1 : Int32))) else ((g_194 (1 : Int32))) else (if x0 = 58 then if x1 = 0 then if x2 = 0 then (g_194 (0 : Int32)) else ((g_194 (1 : Int32))) else ((g_194 (1 : Int32))) else (if x0 = 59 then if x1 = 0 then if x2 = 0 then (g_194 (0 : Int32)) else ((g_194 (1 : Int32))) else ((g_194 (1 : Int32))) else (if x0 = 60 then if x2 ≤ x1 then (g_194 (0 : Int32)) else ((g_194 (1 : Int32))) else (if x0 = 61 then if x1 = x2 then (g_194 (1 : Int32)) else ((g_194 (0 : Int32))) else (if x0 = 62 then if x1 ≤ x2 then (g_194 (0 : Int32)) else ((g_194 (1 : Int32))) else (if x1 = 0 then if x2 = 0 then (g_194 (0 : Int32)) else ((g_194 (1 : Int32))) else ((g_194 (1 : Int32)))))))))))))))))))))))))))))
set_option maxRecDepth 100000 in
theorem s_195 {x0 : Int32} {x1 : Int32} {x2 : Int32} (o1 : x0 = 37 → ¬ (x2 = 0) → ¬ x2 = 0) (o2 : ¬ x0 = 37 → ¬ x0 = 38 → ¬ x0 = 39 → ¬ x0 = 40 → ¬ x0 = 41 → ¬ x0 = 42 → ¬ x0 = 43 → ¬ x0 = 44 → ¬ x0 = 45 → ¬ x0 = 46 → x0 = 47 → ¬ (x2 = 0) → ¬ x2 = 0) (w : Q (some (.int (g_195 x0 x1 x2))) (mkH hi hl sw kp)) : cS ((d + 1) + 1) 195 [(.int x0), (.int x1), (.int x2)] (mkH hi hl sw kp) Q :=
  e_195 (fun c1 c2 => by
      have e : g_195 x0 x1 x2 = (0) := by
        unfold g_195
        rw [if_pos c1, if_pos c2]
      rw [e] at w
      exact w) o1 (fun c1 c3 => by
      have e : g_195 x0 x1 x2 = (x1 - x1 / x2 * x2) := by
        unfold g_195
        rw [if_pos c1, if_neg c3]
      rw [e] at w
      exact w) (fun c4 c5 c6 => by
      have e : g_195 x0 x1 x2 = (g_194 (0 : Int32)) := by
        unfold g_195
        rw [if_neg c4, if_pos c5, if_pos c6]
      rw [e] at w
      exact w) (fun c4 c5 c7 c8 => by
      have e : g_195 x0 x1 x2 = (g_194 (0 : Int32)) := by
        unfold g_195
        rw [if_neg c4, if_pos c5, if_neg c7, if_pos c8]
      rw [e] at w
      exact w) (fun c4 c5 c7 c9 => by
      have e : g_195 x0 x1 x2 = (g_194 (1 : Int32)) := by
        unfold g_195
        rw [if_neg c4, if_pos c5, if_neg c7, if_neg c9]
      rw [e] at w
      exact w) (fun c4 c10 c11 c12 c13 => by
      have e : g_195 x0 x1 x2 = (g_194 (0 : Int32)) := by
        unfold g_195
        rw [if_neg c4, if_neg c10, if_pos c11, if_pos c12, if_pos c13]
      rw [e] at w
      exact w) (fun c4 c10 c11 c12 c14 => by
      have e : g_195 x0 x1 x2 = (g_194 (1 : Int32)) := by
        unfold g_195
        rw [if_neg c4, if_neg c10, if_pos c11, if_pos c12, if_neg c14]
      rw [e] at w
      exact w) (fun c4 c10 c11 c15 => by
      have e : g_195 x0 x1 x2 = (g_194 (1 : Int32)) := by
        unfold g_195
        rw [if_neg c4, if_neg c10, if_pos c11, if_neg c15]
      rw [e] at w
      exact w) (fun c4 c10 c16 c17 c18 c19 => by
      have e : g_195 x0 x1 x2 = (g_194 (0 : Int32)) := by
        unfold g_195
        rw [if_neg c4, if_neg c10, if_neg c16, if_pos c17, if_pos c18, if_pos c19]
      rw [e] at w
      exact w) (fun c4 c10 c16 c17 c18 c20 => by
      have e : g_195 x0 x1 x2 = (g_194 (1 : Int32)) := by
        unfold g_195
        rw [if_neg c4, if_neg c10, if_neg c16, if_pos c17, if_pos c18, if_neg c20]
      rw [e] at w
      exact w) (fun c4 c10 c16 c17 c21 => by
      have e : g_195 x0 x1 x2 = (g_194 (1 : Int32)) := by
        unfold g_195
        rw [if_neg c4, if_neg c10, if_neg c16, if_pos c17, if_neg c21]
      rw [e] at w
      exact w) (fun c4 c10 c16 c22 c23 c24 c25 => by
      have e : g_195 x0 x1 x2 = (g_194 (0 : Int32)) := by
        unfold g_195
        rw [if_neg c4, if_neg c10, if_neg c16, if_neg c22, if_pos c23, if_pos c24, if_pos c25]
      rw [e] at w
      exact w) (fun c4 c10 c16 c22 c23 c24 c26 => by
      have e : g_195 x0 x1 x2 = (g_194 (1 : Int32)) := by
        unfold g_195
        rw [if_neg c4, if_neg c10, if_neg c16, if_neg c22, if_pos c23, if_pos c24, if_neg c26]
      rw [e] at w
      exact w) (fun c4 c10 c16 c22 c23 c27 => by
      have e : g_195 x0 x1 x2 = (g_194 (1 : Int32)) := by
        unfold g_195
        rw [if_neg c4, if_neg c10, if_neg c16, if_neg c22, if_pos c23, if_neg c27]
      rw [e] at w
      exact w) (fun c4 c10 c16 c22 c28 c29 => by
      have e : g_195 x0 x1 x2 = (x1 * x2) := by
        unfold g_195
        rw [if_neg c4, if_neg c10, if_neg c16, if_neg c22, if_neg c28, if_pos c29]
      rw [e] at w
      exact w) (fun c4 c10 c16 c22 c28 c30 c31 => by
      have e : g_195 x0 x1 x2 = (x1 + x2) := by
        unfold g_195
        rw [if_neg c4, if_neg c10, if_neg c16, if_neg c22, if_neg c28, if_neg c30, if_pos c31]
      rw [e] at w
      exact w) (fun c4 c10 c16 c22 c28 c30 c32 c33 c34 c35 => by
      have e : g_195 x0 x1 x2 = (g_194 (0 : Int32)) := by
        unfold g_195
        rw [if_neg c4, if_neg c10, if_neg c16, if_neg c22, if_neg c28, if_neg c30, if_neg c32, if_pos c33, if_pos c34, if_pos c35]
      rw [e] at w
      exact w) (fun c4 c10 c16 c22 c28 c30 c32 c33 c34 c36 => by
      have e : g_195 x0 x1 x2 = (g_194 (1 : Int32)) := by
        unfold g_195
        rw [if_neg c4, if_neg c10, if_neg c16, if_neg c22, if_neg c28, if_neg c30, if_neg c32, if_pos c33, if_pos c34, if_neg c36]
      rw [e] at w
      exact w) (fun c4 c10 c16 c22 c28 c30 c32 c33 c37 => by
      have e : g_195 x0 x1 x2 = (g_194 (1 : Int32)) := by
        unfold g_195
        rw [if_neg c4, if_neg c10, if_neg c16, if_neg c22, if_neg c28, if_neg c30, if_neg c32, if_pos c33, if_neg c37]
      rw [e] at w
      exact w) (fun c4 c10 c16 c22 c28 c30 c32 c38 c39 => by
      have e : g_195 x0 x1 x2 = (x1 - x2) := by
        unfold g_195
        rw [if_neg c4, if_neg c10, if_neg c16, if_neg c22, if_neg c28, if_neg c30, if_neg c32, if_neg c38, if_pos c39]
      rw [e] at w
      exact w) (fun c4 c10 c16 c22 c28 c30 c32 c38 c40 c41 c42 c43 => by
      have e : g_195 x0 x1 x2 = (g_194 (0 : Int32)) := by
        unfold g_195
        rw [if_neg c4, if_neg c10, if_neg c16, if_neg c22, if_neg c28, if_neg c30, if_neg c32, if_neg c38, if_neg c40, if_pos c41, if_pos c42, if_pos c43]
      rw [e] at w
      exact w) (fun c4 c10 c16 c22 c28 c30 c32 c38 c40 c41 c42 c44 => by
      have e : g_195 x0 x1 x2 = (g_194 (1 : Int32)) := by
        unfold g_195
        rw [if_neg c4, if_neg c10, if_neg c16, if_neg c22, if_neg c28, if_neg c30, if_neg c32, if_neg c38, if_neg c40, if_pos c41, if_pos c42, if_neg c44]
      rw [e] at w
      exact w) (fun c4 c10 c16 c22 c28 c30 c32 c38 c40 c41 c45 => by
      have e : g_195 x0 x1 x2 = (g_194 (1 : Int32)) := by
        unfold g_195
        rw [if_neg c4, if_neg c10, if_neg c16, if_neg c22, if_neg c28, if_neg c30, if_neg c32, if_neg c38, if_neg c40, if_pos c41, if_neg c45]
      rw [e] at w
      exact w) (fun c4 c10 c16 c22 c28 c30 c32 c38 c40 c46 c47 c48 => by
      have e : g_195 x0 x1 x2 = (0) := by
        unfold g_195
        rw [if_neg c4, if_neg c10, if_neg c16, if_neg c22, if_neg c28, if_neg c30, if_neg c32, if_neg c38, if_neg c40, if_neg c46, if_pos c47, if_pos c48]
      rw [e] at w
      exact w) o2 (fun c4 c10 c16 c22 c28 c30 c32 c38 c40 c46 c47 c49 => by
      have e : g_195 x0 x1 x2 = (x1 / x2) := by
        unfold g_195
        rw [if_neg c4, if_neg c10, if_neg c16, if_neg c22, if_neg c28, if_neg c30, if_neg c32, if_neg c38, if_neg c40, if_neg c46, if_pos c47, if_neg c49]
      rw [e] at w
      exact w) (fun c4 c10 c16 c22 c28 c30 c32 c38 c40 c46 c50 c51 c52 c53 => by
      have e : g_195 x0 x1 x2 = (g_194 (0 : Int32)) := by
        unfold g_195
        rw [if_neg c4, if_neg c10, if_neg c16, if_neg c22, if_neg c28, if_neg c30, if_neg c32, if_neg c38, if_neg c40, if_neg c46, if_neg c50, if_pos c51, if_pos c52, if_pos c53]
      rw [e] at w
      exact w) (fun c4 c10 c16 c22 c28 c30 c32 c38 c40 c46 c50 c51 c52 c54 => by
      have e : g_195 x0 x1 x2 = (g_194 (1 : Int32)) := by
        unfold g_195
        rw [if_neg c4, if_neg c10, if_neg c16, if_neg c22, if_neg c28, if_neg c30, if_neg c32, if_neg c38, if_neg c40, if_neg c46, if_neg c50, if_pos c51, if_pos c52, if_neg c54]
      rw [e] at w
      exact w) (fun c4 c10 c16 c22 c28 c30 c32 c38 c40 c46 c50 c51 c55 => by
      have e : g_195 x0 x1 x2 = (g_194 (1 : Int32)) := by
        unfold g_195
        rw [if_neg c4, if_neg c10, if_neg c16, if_neg c22, if_neg c28, if_neg c30, if_neg c32, if_neg c38, if_neg c40, if_neg c46, if_neg c50, if_pos c51, if_neg c55]
      rw [e] at w
      exact w) (fun c4 c10 c16 c22 c28 c30 c32 c38 c40 c46 c50 c56 c57 c58 c59 => by
      have e : g_195 x0 x1 x2 = (g_194 (0 : Int32)) := by
        unfold g_195
        rw [if_neg c4, if_neg c10, if_neg c16, if_neg c22, if_neg c28, if_neg c30, if_neg c32, if_neg c38, if_neg c40, if_neg c46, if_neg c50, if_neg c56, if_pos c57, if_pos c58, if_pos c59]
      rw [e] at w
      exact w) (fun c4 c10 c16 c22 c28 c30 c32 c38 c40 c46 c50 c56 c57 c58 c60 => by
      have e : g_195 x0 x1 x2 = (g_194 (1 : Int32)) := by
        unfold g_195
        rw [if_neg c4, if_neg c10, if_neg c16, if_neg c22, if_neg c28, if_neg c30, if_neg c32, if_neg c38, if_neg c40, if_neg c46, if_neg c50, if_neg c56, if_pos c57, if_pos c58, if_neg c60]
      rw [e] at w
      exact w) (fun c4 c10 c16 c22 c28 c30 c32 c38 c40 c46 c50 c56 c57 c61 => by
      have e : g_195 x0 x1 x2 = (g_194 (1 : Int32)) := by
        unfold g_195
        rw [if_neg c4, if_neg c10, if_neg c16, if_neg c22, if_neg c28, if_neg c30, if_neg c32, if_neg c38, if_neg c40, if_neg c46, if_neg c50, if_neg c56, if_pos c57, if_neg c61]
      rw [e] at w
      exact w) (fun c4 c10 c16 c22 c28 c30 c32 c38 c40 c46 c50 c56 c62 c63 c64 c65 => by
      have e : g_195 x0 x1 x2 = (g_194 (0 : Int32)) := by
        unfold g_195
        rw [if_neg c4, if_neg c10, if_neg c16, if_neg c22, if_neg c28, if_neg c30, if_neg c32, if_neg c38, if_neg c40, if_neg c46, if_neg c50, if_neg c56, if_neg c62, if_pos c63, if_pos c64, if_pos c65]
      rw [e] at w
      exact w) (fun c4 c10 c16 c22 c28 c30 c32 c38 c40 c46 c50 c56 c62 c63 c64 c66 => by
      have e : g_195 x0 x1 x2 = (g_194 (1 : Int32)) := by
        unfold g_195
        rw [if_neg c4, if_neg c10, if_neg c16, if_neg c22, if_neg c28, if_neg c30, if_neg c32, if_neg c38, if_neg c40, if_neg c46, if_neg c50, if_neg c56, if_neg c62, if_pos c63, if_pos c64, if_neg c66]
      rw [e] at w
      exact w) (fun c4 c10 c16 c22 c28 c30 c32 c38 c40 c46 c50 c56 c62 c63 c67 => by
      have e : g_195 x0 x1 x2 = (g_194 (1 : Int32)) := by
        unfold g_195
        rw [if_neg c4, if_neg c10, if_neg c16, if_neg c22, if_neg c28, if_neg c30, if_neg c32, if_neg c38, if_neg c40, if_neg c46, if_neg c50, if_neg c56, if_neg c62, if_pos c63, if_neg c67]
      rw [e] at w
      exact w) (fun c4 c10 c16 c22 c28 c30 c32 c38 c40 c46 c50 c56 c62 c68 c69 c70 c71 => by
      have e : g_195 x0 x1 x2 = (g_194 (0 : Int32)) := by
        unfold g_195
        rw [if_neg c4, if_neg c10, if_neg c16, if_neg c22, if_neg c28, if_neg c30, if_neg c32, if_neg c38, if_neg c40, if_neg c46, if_neg c50, if_neg c56, if_neg c62, if_neg c68, if_pos c69, if_pos c70, if_pos c71]
      rw [e] at w
      exact w) (fun c4 c10 c16 c22 c28 c30 c32 c38 c40 c46 c50 c56 c62 c68 c69 c70 c72 => by
      have e : g_195 x0 x1 x2 = (g_194 (1 : Int32)) := by
        unfold g_195
        rw [if_neg c4, if_neg c10, if_neg c16, if_neg c22, if_neg c28, if_neg c30, if_neg c32, if_neg c38, if_neg c40, if_neg c46, if_neg c50, if_neg c56, if_neg c62, if_neg c68, if_pos c69, if_pos c70, if_neg c72]
      rw [e] at w
      exact w) (fun c4 c10 c16 c22 c28 c30 c32 c38 c40 c46 c50 c56 c62 c68 c69 c73 => by
      have e : g_195 x0 x1 x2 = (g_194 (1 : Int32)) := by
        unfold g_195
        rw [if_neg c4, if_neg c10, if_neg c16, if_neg c22, if_neg c28, if_neg c30, if_neg c32, if_neg c38, if_neg c40, if_neg c46, if_neg c50, if_neg c56, if_neg c62, if_neg c68, if_pos c69, if_neg c73]
      rw [e] at w
      exact w) (fun c4 c10 c16 c22 c28 c30 c32 c38 c40 c46 c50 c56 c62 c68 c74 c75 c76 c77 => by
      have e : g_195 x0 x1 x2 = (g_194 (0 : Int32)) := by
        unfold g_195
        rw [if_neg c4, if_neg c10, if_neg c16, if_neg c22, if_neg c28, if_neg c30, if_neg c32, if_neg c38, if_neg c40, if_neg c46, if_neg c50, if_neg c56, if_neg c62, if_neg c68, if_neg c74, if_pos c75, if_pos c76, if_pos c77]
      rw [e] at w
      exact w) (fun c4 c10 c16 c22 c28 c30 c32 c38 c40 c46 c50 c56 c62 c68 c74 c75 c76 c78 => by
      have e : g_195 x0 x1 x2 = (g_194 (1 : Int32)) := by
        unfold g_195
        rw [if_neg c4, if_neg c10, if_neg c16, if_neg c22, if_neg c28, if_neg c30, if_neg c32, if_neg c38, if_neg c40, if_neg c46, if_neg c50, if_neg c56, if_neg c62, if_neg c68, if_neg c74, if_pos c75, if_pos c76, if_neg c78]
      rw [e] at w
      exact w) (fun c4 c10 c16 c22 c28 c30 c32 c38 c40 c46 c50 c56 c62 c68 c74 c75 c79 => by
      have e : g_195 x0 x1 x2 = (g_194 (1 : Int32)) := by
        unfold g_195
        rw [if_neg c4, if_neg c10, if_neg c16, if_neg c22, if_neg c28, if_neg c30, if_neg c32, if_neg c38, if_neg c40, if_neg c46, if_neg c50, if_neg c56, if_neg c62, if_neg c68, if_neg c74, if_pos c75, if_neg c79]
      rw [e] at w
      exact w) (fun c4 c10 c16 c22 c28 c30 c32 c38 c40 c46 c50 c56 c62 c68 c74 c80 c81 c82 c83 => by
      have e : g_195 x0 x1 x2 = (g_194 (0 : Int32)) := by
        unfold g_195
        rw [if_neg c4, if_neg c10, if_neg c16, if_neg c22, if_neg c28, if_neg c30, if_neg c32, if_neg c38, if_neg c40, if_neg c46, if_neg c50, if_neg c56, if_neg c62, if_neg c68, if_neg c74, if_neg c80, if_pos c81, if_pos c82, if_pos c83]
      rw [e] at w
      exact w) (fun c4 c10 c16 c22 c28 c30 c32 c38 c40 c46 c50 c56 c62 c68 c74 c80 c81 c82 c84 => by
      have e : g_195 x0 x1 x2 = (g_194 (1 : Int32)) := by
        unfold g_195
        rw [if_neg c4, if_neg c10, if_neg c16, if_neg c22, if_neg c28, if_neg c30, if_neg c32, if_neg c38, if_neg c40, if_neg c46, if_neg c50, if_neg c56, if_neg c62, if_neg c68, if_neg c74, if_neg c80, if_pos c81, if_pos c82, if_neg c84]
      rw [e] at w
      exact w) (fun c4 c10 c16 c22 c28 c30 c32 c38 c40 c46 c50 c56 c62 c68 c74 c80 c81 c85 => by
      have e : g_195 x0 x1 x2 = (g_194 (1 : Int32)) := by
        unfold g_195
        rw [if_neg c4, if_neg c10, if_neg c16, if_neg c22, if_neg c28, if_neg c30, if_neg c32, if_neg c38, if_neg c40, if_neg c46, if_neg c50, if_neg c56, if_neg c62, if_neg c68, if_neg c74, if_neg c80, if_pos c81, if_neg c85]
      rw [e] at w
      exact w) (fun c4 c10 c16 c22 c28 c30 c32 c38 c40 c46 c50 c56 c62 c68 c74 c80 c86 c87 c88 c89 => by
      have e : g_195 x0 x1 x2 = (g_194 (0 : Int32)) := by
        unfold g_195
        rw [if_neg c4, if_neg c10, if_neg c16, if_neg c22, if_neg c28, if_neg c30, if_neg c32, if_neg c38, if_neg c40, if_neg c46, if_neg c50, if_neg c56, if_neg c62, if_neg c68, if_neg c74, if_neg c80, if_neg c86, if_pos c87, if_pos c88, if_pos c89]
      rw [e] at w
      exact w) (fun c4 c10 c16 c22 c28 c30 c32 c38 c40 c46 c50 c56 c62 c68 c74 c80 c86 c87 c88 c90 => by
      have e : g_195 x0 x1 x2 = (g_194 (1 : Int32)) := by
        unfold g_195
        rw [if_neg c4, if_neg c10, if_neg c16, if_neg c22, if_neg c28, if_neg c30, if_neg c32, if_neg c38, if_neg c40, if_neg c46, if_neg c50, if_neg c56, if_neg c62, if_neg c68, if_neg c74, if_neg c80, if_neg c86, if_pos c87, if_pos c88, if_neg c90]
      rw [e] at w
      exact w) (fun c4 c10 c16 c22 c28 c30 c32 c38 c40 c46 c50 c56 c62 c68 c74 c80 c86 c87 c91 => by
      have e : g_195 x0 x1 x2 = (g_194 (1 : Int32)) := by
        unfold g_195
        rw [if_neg c4, if_neg c10, if_neg c16, if_neg c22, if_neg c28, if_neg c30, if_neg c32, if_neg c38, if_neg c40, if_neg c46, if_neg c50, if_neg c56, if_neg c62, if_neg c68, if_neg c74, if_neg c80, if_neg c86, if_pos c87, if_neg c91]
      rw [e] at w
      exact w) (fun c4 c10 c16 c22 c28 c30 c32 c38 c40 c46 c50 c56 c62 c68 c74 c80 c86 c92 c93 c94 c95 => by
      have e : g_195 x0 x1 x2 = (g_194 (0 : Int32)) := by
        unfold g_195
        rw [if_neg c4, if_neg c10, if_neg c16, if_neg c22, if_neg c28, if_neg c30, if_neg c32, if_neg c38, if_neg c40, if_neg c46, if_neg c50, if_neg c56, if_neg c62, if_neg c68, if_neg c74, if_neg c80, if_neg c86, if_neg c92, if_pos c93, if_pos c94, if_pos c95]
      rw [e] at w
      exact w) (fun c4 c10 c16 c22 c28 c30 c32 c38 c40 c46 c50 c56 c62 c68 c74 c80 c86 c92 c93 c94 c96 => by
      have e : g_195 x0 x1 x2 = (g_194 (1 : Int32)) := by
        unfold g_195
        rw [if_neg c4, if_neg c10, if_neg c16, if_neg c22, if_neg c28, if_neg c30, if_neg c32, if_neg c38, if_neg c40, if_neg c46, if_neg c50, if_neg c56, if_neg c62, if_neg c68, if_neg c74, if_neg c80, if_neg c86, if_neg c92, if_pos c93, if_pos c94, if_neg c96]
      rw [e] at w
      exact w) (fun c4 c10 c16 c22 c28 c30 c32 c38 c40 c46 c50 c56 c62 c68 c74 c80 c86 c92 c93 c97 => by
      have e : g_195 x0 x1 x2 = (g_194 (1 : Int32)) := by
        unfold g_195
        rw [if_neg c4, if_neg c10, if_neg c16, if_neg c22, if_neg c28, if_neg c30, if_neg c32, if_neg c38, if_neg c40, if_neg c46, if_neg c50, if_neg c56, if_neg c62, if_neg c68, if_neg c74, if_neg c80, if_neg c86, if_neg c92, if_pos c93, if_neg c97]
      rw [e] at w
      exact w) (fun c4 c10 c16 c22 c28 c30 c32 c38 c40 c46 c50 c56 c62 c68 c74 c80 c86 c92 c98 c99 c100 c101 => by
      have e : g_195 x0 x1 x2 = (g_194 (0 : Int32)) := by
        unfold g_195
        rw [if_neg c4, if_neg c10, if_neg c16, if_neg c22, if_neg c28, if_neg c30, if_neg c32, if_neg c38, if_neg c40, if_neg c46, if_neg c50, if_neg c56, if_neg c62, if_neg c68, if_neg c74, if_neg c80, if_neg c86, if_neg c92, if_neg c98, if_pos c99, if_pos c100, if_pos c101]
      rw [e] at w
      exact w) (fun c4 c10 c16 c22 c28 c30 c32 c38 c40 c46 c50 c56 c62 c68 c74 c80 c86 c92 c98 c99 c100 c102 => by
      have e : g_195 x0 x1 x2 = (g_194 (1 : Int32)) := by
        unfold g_195
        rw [if_neg c4, if_neg c10, if_neg c16, if_neg c22, if_neg c28, if_neg c30, if_neg c32, if_neg c38, if_neg c40, if_neg c46, if_neg c50, if_neg c56, if_neg c62, if_neg c68, if_neg c74, if_neg c80, if_neg c86, if_neg c92, if_neg c98, if_pos c99, if_pos c100, if_neg c102]
      rw [e] at w
      exact w) (fun c4 c10 c16 c22 c28 c30 c32 c38 c40 c46 c50 c56 c62 c68 c74 c80 c86 c92 c98 c99 c103 => by
      have e : g_195 x0 x1 x2 = (g_194 (1 : Int32)) := by
        unfold g_195
        rw [if_neg c4, if_neg c10, if_neg c16, if_neg c22, if_neg c28, if_neg c30, if_neg c32, if_neg c38, if_neg c40, if_neg c46, if_neg c50, if_neg c56, if_neg c62, if_neg c68, if_neg c74, if_neg c80, if_neg c86, if_neg c92, if_neg c98, if_pos c99, if_neg c103]
      rw [e] at w
      exact w) (fun c4 c10 c16 c22 c28 c30 c32 c38 c40 c46 c50 c56 c62 c68 c74 c80 c86 c92 c98 c104 c105 c106 c107 => by
      have e : g_195 x0 x1 x2 = (g_194 (0 : Int32)) := by
        unfold g_195
        rw [if_neg c4, if_neg c10, if_neg c16, if_neg c22, if_neg c28, if_neg c30, if_neg c32, if_neg c38, if_neg c40, if_neg c46, if_neg c50, if_neg c56, if_neg c62, if_neg c68, if_neg c74, if_neg c80, if_neg c86, if_neg c92, if_neg c98, if_neg c104, if_pos c105, if_pos c106, if_pos c107]
      rw [e] at w
      exact w) (fun c4 c10 c16 c22 c28 c30 c32 c38 c40 c46 c50 c56 c62 c68 c74 c80 c86 c92 c98 c104 c105 c106 c108 => by
      have e : g_195 x0 x1 x2 = (g_194 (1 : Int32)) := by
        unfold g_195
        rw [if_neg c4, if_neg c10, if_neg c16, if_neg c22, if_neg c28, if_neg c30, if_neg c32, if_neg c38, if_neg c40, if_neg c46, if_neg c50, if_neg c56, if_neg c62, if_neg c68, if_neg c74, if_neg c80, if_neg c86, if_neg c92, if_neg c98, if_neg c104, if_pos c105, if_pos c106, if_neg c108]
      rw [e] at w
      exact w) (fun c4 c10 c16 c22 c28 c30 c32 c38 c40 c46 c50 c56 c62 c68 c74 c80 c86 c92 c98 c104 c105 c109 => by
      have e : g_195 x0 x1 x2 = (g_194 (1 : Int32)) := by
        unfold g_195
        rw [if_neg c4, if_neg c10, if_neg c16, if_neg c22, if_neg c28, if_neg c30, if_neg c32, if_neg c38, if_neg c40, if_neg c46, if_neg c50, if_neg c56, if_neg c62, if_neg c68, if_neg c74, if_neg c80, if_neg c86, if_neg c92, if_neg c98, if_neg c104, if_pos c105, if_neg c109]
      rw [e] at w
      exact w) (fun c4 c10 c16 c22 c28 c30 c32 c38 c40 c46 c50 c56 c62 c68 c74 c80 c86 c92 c98 c104 c110 c111 c112 c113 => by
      have e : g_195 x0 x1 x2 = (g_194 (0 : Int32)) := by
        unfold g_195
        rw [if_neg c4, if_neg c10, if_neg c16, if_neg c22, if_neg c28, if_neg c30, if_neg c32, if_neg c38, if_neg c40, if_neg c46, if_neg c50, if_neg c56, if_neg c62, if_neg c68, if_neg c74, if_neg c80, if_neg c86, if_neg c92, if_neg c98, if_neg c104, if_neg c110, if_pos c111, if_pos c112, if_pos c113]
      rw [e] at w
      exact w) (fun c4 c10 c16 c22 c28 c30 c32 c38 c40 c46 c50 c56 c62 c68 c74 c80 c86 c92 c98 c104 c110 c111 c112 c114 => by
      have e : g_195 x0 x1 x2 = (g_194 (1 : Int32)) := by
        unfold g_195
        rw [if_neg c4, if_neg c10, if_neg c16, if_neg c22, if_neg c28, if_neg c30, if_neg c32, if_neg c38, if_neg c40, if_neg c46, if_neg c50, if_neg c56, if_neg c62, if_neg c68, if_neg c74, if_neg c80, if_neg c86, if_neg c92, if_neg c98, if_neg c104, if_neg c110, if_pos c111, if_pos c112, if_neg c114]
      rw [e] at w
      exact w) (fun c4 c10 c16 c22 c28 c30 c32 c38 c40 c46 c50 c56 c62 c68 c74 c80 c86 c92 c98 c104 c110 c111 c115 => by
      have e : g_195 x0 x1 x2 = (g_194 (1 : Int32)) := by
        unfold g_195
        rw [if_neg c4, if_neg c10, if_neg c16, if_neg c22, if_neg c28, if_neg c30, if_neg c32, if_neg c38, if_neg c40, if_neg c46, if_neg c50, if_neg c56, if_neg c62, if_neg c68, if_neg c74, if_neg c80, if_neg c86, if_neg c92, if_neg c98, if_neg c104, if_neg c110, if_pos c111, if_neg c115]
      rw [e] at w
      exact w) (fun c4 c10 c16 c22 c28 c30 c32 c38 c40 c46 c50 c56 c62 c68 c74 c80 c86 c92 c98 c104 c110 c116 c117 c118 c119 => by
      have e : g_195 x0 x1 x2 = (g_194 (0 : Int32)) := by
        unfold g_195
        rw [if_neg c4, if_neg c10, if_neg c16, if_neg c22, if_neg c28, if_neg c30, if_neg c32, if_neg c38, if_neg c40, if_neg c46, if_neg c50, if_neg c56, if_neg c62, if_neg c68, if_neg c74, if_neg c80, if_neg c86, if_neg c92, if_neg c98, if_neg c104, if_neg c110, if_neg c116, if_pos c117, if_pos c118, if_pos c119]
      rw [e] at w
      exact w) (fun c4 c10 c16 c22 c28 c30 c32 c38 c40 c46 c50 c56 c62 c68 c74 c80 c86 c92 c98 c104 c110 c116 c117 c118 c120 => by
      have e : g_195 x0 x1 x2 = (g_194 (1 : Int32)) := by
        unfold g_195
        rw [if_neg c4, if_neg c10, if_neg c16, if_neg c22, if_neg c28, if_neg c30, if_neg c32, if_neg c38, if_neg c40, if_neg c46, if_neg c50, if_neg c56, if_neg c62, if_neg c68, if_neg c74, if_neg c80, if_neg c86, if_neg c92, if_neg c98, if_neg c104, if_neg c110, if_neg c116, if_pos c117, if_pos c118, if_neg c120]
      rw [e] at w
      exact w) (fun c4 c10 c16 c22 c28 c30 c32 c38 c40 c46 c50 c56 c62 c68 c74 c80 c86 c92 c98 c104 c110 c116 c117 c121 => by
      have e : g_195 x0 x1 x2 = (g_194 (1 : Int32)) := by
        unfold g_195
        rw [if_neg c4, if_neg c10, if_neg c16, if_neg c22, if_neg c28, if_neg c30, if_neg c32, if_neg c38, if_neg c40, if_neg c46, if_neg c50, if_neg c56, if_neg c62, if_neg c68, if_neg c74, if_neg c80, if_neg c86, if_neg c92, if_neg c98, if_neg c104, if_neg c110, if_neg c116, if_pos c117, if_neg c121]
      rw [e] at w
      exact w) (fun c4 c10 c16 c22 c28 c30 c32 c38 c40 c46 c50 c56 c62 c68 c74 c80 c86 c92 c98 c104 c110 c116 c122 c123 c124 => by
      have e : g_195 x0 x1 x2 = (g_194 (0 : Int32)) := by
        unfold g_195
        rw [if_neg c4, if_neg c10, if_neg c16, if_neg c22, if_neg c28, if_neg c30, if_neg c32, if_neg c38, if_neg c40, if_neg c46, if_neg c50, if_neg c56, if_neg c62, if_neg c68, if_neg c74, if_neg c80, if_neg c86, if_neg c92, if_neg c98, if_neg c104, if_neg c110, if_neg c116, if_neg c122, if_pos c123, if_pos c124]
      rw [e] at w
      exact w) (fun c4 c10 c16 c22 c28 c30 c32 c38 c40 c46 c50 c56 c62 c68 c74 c80 c86 c92 c98 c104 c110 c116 c122 c123 c125 => by
      have e : g_195 x0 x1 x2 = (g_194 (1 : Int32)) := by
        unfold g_195
        rw [if_neg c4, if_neg c10, if_neg c16, if_neg c22, if_neg c28, if_neg c30, if_neg c32, if_neg c38, if_neg c40, if_neg c46, if_neg c50, if_neg c56, if_neg c62, if_neg c68, if_neg c74, if_neg c80, if_neg c86, if_neg c92, if_neg c98, if_neg c104, if_neg c110, if_neg c116, if_neg c122, if_pos c123, if_neg c125]
      rw [e] at w
      exact w) (fun c4 c10 c16 c22 c28 c30 c32 c38 c40 c46 c50 c56 c62 c68 c74 c80 c86 c92 c98 c104 c110 c116 c122 c126 c127 c128 => by
      have e : g_195 x0 x1 x2 = (g_194 (1 : Int32)) := by
        unfold g_195
        rw [if_neg c4, if_neg c10, if_neg c16, if_neg c22, if_neg c28, if_neg c30, if_neg c32, if_neg c38, if_neg c40, if_neg c46, if_neg c50, if_neg c56, if_neg c62, if_neg c68, if_neg c74, if_neg c80, if_neg c86, if_neg c92, if_neg c98, if_neg c104, if_neg c110, if_neg c116, if_neg c122, if_neg c126, if_pos c127, if_pos c128]
      rw [e] at w
      exact w) (fun c4 c10 c16 c22 c28 c30 c32 c38 c40 c46 c50 c56 c62 c68 c74 c80 c86 c92 c98 c104 c110 c116 c122 c126 c127 c129 => by
      have e : g_195 x0 x1 x2 = (g_194 (0 : Int32)) := by
        unfold g_195
        rw [if_neg c4, if_neg c10, if_neg c16, if_neg c22, if_neg c28, if_neg c30, if_neg c32, if_neg c38, if_neg c40, if_neg c46, if_neg c50, if_neg c56, if_neg c62, if_neg c68, if_neg c74, if_neg c80, if_neg c86, if_neg c92, if_neg c98, if_neg c104, if_neg c110, if_neg c116, if_neg c122, if_neg c126, if_pos c127, if_neg c129]
      rw [e] at w
      exact w) (fun c4 c10 c16 c22 c28 c30 c32 c38 c40 c46 c50 c56 c62 c68 c74 c80 c86 c92 c98 c104 c110 c116 c122 c126 c130 c131 c132 => by
      have e : g_195 x0 x1 x2 = (g_194 (0 : Int32)) := by
        unfold g_195
        rw [if_neg c4, if_neg c10, if_neg c16, if_neg c22, if_neg c28, if_neg c30, if_neg c32, if_neg c38, if_neg c40, if_neg c46, if_neg c50, if_neg c56, if_neg c62, if_neg c68, if_neg c74, if_neg c80, if_neg c86, if_neg c92, if_neg c98, if_neg c104, if_neg c110, if_neg c116, if_neg c122, if_neg c126, if_neg c130, if_pos c131, if_pos c132]
      rw [e] at w
      exact w) (fun c4 c10 c16 c22 c28 c30 c32 c38 c40 c46 c50 c56 c62 c68 c74 c80 c86 c92 c98 c104 c110 c116 c122 c126 c130 c131 c133 => by
      have e : g_195 x0 x1 x2 = (g_194 (1 : Int32)) := by
        unfold g_195
        rw [if_neg c4, if_neg c10, if_neg c16, if_neg c22, if_neg c28, if_neg c30, if_neg c32, if_neg c38, if_neg c40, if_neg c46, if_neg c50, if_neg c56, if_neg c62, if_neg c68, if_neg c74, if_neg c80, if_neg c86, if_neg c92, if_neg c98, if_neg c104, if_neg c110, if_neg c116, if_neg c122, if_neg c126, if_neg c130, if_pos c131, if_neg c133]
      rw [e] at w
      exact w) (fun c4 c10 c16 c22 c28 c30 c32 c38 c40 c46 c50 c56 c62 c68 c74 c80 c86 c92 c98 c104 c110 c116 c122 c126 c130 c134 c135 c136 => by
      have e : g_195 x0 x1 x2 = (g_194 (0 : Int32)) := by
        unfold g_195
        rw [if_neg c4, if_neg c10, if_neg c16, if_neg c22, if_neg c28, if_neg c30, if_neg c32, if_neg c38, if_neg c40, if_neg c46, if_neg c50, if_neg c56, if_neg c62, if_neg c68, if_neg c74, if_neg c80, if_neg c86, if_neg c92, if_neg c98, if_neg c104, if_neg c110, if_neg c116, if_neg c122, if_neg c126, if_neg c130, if_neg c134, if_pos c135, if_pos c136]
      rw [e] at w
      exact w) (fun c4 c10 c16 c22 c28 c30 c32 c38 c40 c46 c50 c56 c62 c68 c74 c80 c86 c92 c98 c104 c110 c116 c122 c126 c130 c134 c135 c137 => by
      have e : g_195 x0 x1 x2 = (g_194 (1 : Int32)) := by
        unfold g_195
        rw [if_neg c4, if_neg c10, if_neg c16, if_neg c22, if_neg c28, if_neg c30, if_neg c32, if_neg c38, if_neg c40, if_neg c46, if_neg c50, if_neg c56, if_neg c62, if_neg c68, if_neg c74, if_neg c80, if_neg c86, if_neg c92, if_neg c98, if_neg c104, if_neg c110, if_neg c116, if_neg c122, if_neg c126, if_neg c130, if_neg c134, if_pos c135, if_neg c137]
      rw [e] at w
      exact w) (fun c4 c10 c16 c22 c28 c30 c32 c38 c40 c46 c50 c56 c62 c68 c74 c80 c86 c92 c98 c104 c110 c116 c122 c126 c130 c134 c138 => by
      have e : g_195 x0 x1 x2 = (g_194 (1 : Int32)) := by
        unfold g_195
        rw [if_neg c4, if_neg c10, if_neg c16, if_neg c22, if_neg c28, if_neg c30, if_neg c32, if_neg c38, if_neg c40, if_neg c46, if_neg c50, if_neg c56, if_neg c62, if_neg c68, if_neg c74, if_neg c80, if_neg c86, if_neg c92, if_neg c98, if_neg c104, if_neg c110, if_neg c116, if_neg c122, if_neg c126, if_neg c130, if_neg c134, if_neg c138]
      rw [e] at w
      exact w)
-- 208: DogDecreesModel.isPlace(I)Z
set_option maxRecDepth 100000 in
theorem k_208_0 {x1 : Int32}
    (h1 : Q (some (.int (g_207 x1 (0 : Int32) ((hi 279 46) - (1))))) (mkH hi hl sw kp))
    : cW cd_208 (d + 1) Q 0 [some (.ref 279), some (.int x1)] [] (mkH hi hl sw kp) :=
  cW.run (am_in []) 8 (cC.of (s_207 (And.intro (g_207_01 x1 (0 : Int32) ((hi 279 46) - (1))) (cQ.of (h1)))))
theorem e_208 {x1 : Int32}
    (h1 : Q (some (.int (g_207 x1 (0 : Int32) ((hi 279 46) - (1))))) (mkH hi hl sw kp))
    : cS ((d + 1) + 1) 208 [(.ref 279), (.int x1)] (mkH hi hl sw kp) Q := cS.of rfl (k_208_0 h1)
def g_208 (hi : Nat → Nat → Int32) (x1 : Int32) : Int32 := (g_207 x1 (0 : Int32) ((hi 279 46) - (1)))
theorem g_208_01 (hi : Nat → Nat → Int32) (x1 : Int32) : g_208 hi x1 = 0 ∨ g_208 hi x1 = 1 := by
  unfold g_208
  exact (g_207_01 x1 (0 : Int32) ((hi 279 46) - (1)))
set_option maxRecDepth 100000 in
theorem s_208 {x1 : Int32} (w : Q (some (.int (g_208 hi x1))) (mkH hi hl sw kp)) : cS ((d + 1) + 1) 208 [(.ref 279), (.int x1)] (mkH hi hl sw kp) Q :=
  e_208 (by
      have e : g_208 hi x1 = (g_207 x1 (0 : Int32) ((hi 279 46) - (1))) := by
        unfold g_208
        rfl
      rw [e] at w
      exact w)
-- 209: DogDecreesModel.isCase(I)Z
set_option maxRecDepth 100000 in
theorem k_209_0 {x1 : Int32}
    (h1 : Q (some (.int (g_207 x1 (0 : Int32) ((hi 279 48) - (1))))) (mkH hi hl sw kp))
    : cW cd_209 (d + 1) Q 0 [some (.ref 279), some (.int x1)] [] (mkH hi hl sw kp) :=
  cW.run (am_in []) 8 (cC.of (s_207 (And.intro (g_207_01 x1 (0 : Int32) ((hi 279 48) - (1))) (cQ.of (h1)))))
theorem e_209 {x1 : Int32}
    (h1 : Q (some (.int (g_207 x1 (0 : Int32) ((hi 279 48) - (1))))) (mkH hi hl sw kp))
    : cS ((d + 1) + 1) 209 [(.ref 279), (.int x1)] (mkH hi hl sw kp) Q := cS.of rfl (k_209_0 h1)
def g_209 (hi : Nat → Nat → Int32) (x1 : Int32) : Int32 := (g_207 x1 (0 : Int32) ((hi 279 48) - (1)))
theorem g_209_01 (hi : Nat → Nat → Int32) (x1 : Int32) : g_209 hi x1 = 0 ∨ g_209 hi x1 = 1 := by
  unfold g_209
  exact (g_207_01 x1 (0 : Int32) ((hi 279 48) - (1)))
set_option maxRecDepth 100000 in
theorem s_209 {x1 : Int32} (w : Q (some (.int (g_209 hi x1))) (mkH hi hl sw kp)) : cS ((d + 1) + 1) 209 [(.ref 279), (.int x1)] (mkH hi hl sw kp) Q :=
  e_209 (by
      have e : g_209 hi x1 = (g_207 x1 (0 : Int32) ((hi 279 48) - (1))) := by
        unfold g_209
        rfl
      rw [e] at w
      exact w)
-- 210: DogDecreesModel.isDeed(I)Z
set_option maxRecDepth 100000 in
theorem k_210_0 {x1 : Int32}
    (h1 : Q (some (.int (g_207 x1 (0 : Int32) ((hi 279 45) - (1))))) (mkH hi hl sw kp))
    : cW cd_210 (d + 1) Q 0 [some (.ref 279), some (.int x1)] [] (mkH hi hl sw kp) :=
  cW.run (am_in []) 8 (cC.of (s_207 (And.intro (g_207_01 x1 (0 : Int32) ((hi 279 45) - (1))) (cQ.of (h1)))))
theorem e_210 {x1 : Int32}
    (h1 : Q (some (.int (g_207 x1 (0 : Int32) ((hi 279 45) - (1))))) (mkH hi hl sw kp))
    : cS ((d + 1) + 1) 210 [(.ref 279), (.int x1)] (mkH hi hl sw kp) Q := cS.of rfl (k_210_0 h1)
def g_210 (hi : Nat → Nat → Int32) (x1 : Int32) : Int32 := (g_207 x1 (0 : Int32) ((hi 279 45) - (1)))
theorem g_210_01 (hi : Nat → Nat → Int32) (x1 : Int32) : g_210 hi x1 = 0 ∨ g_210 hi x1 = 1 := by
  unfold g_210
  exact (g_207_01 x1 (0 : Int32) ((hi 279 45) - (1)))
set_option maxRecDepth 100000 in
theorem s_210 {x1 : Int32} (w : Q (some (.int (g_210 hi x1))) (mkH hi hl sw kp)) : cS ((d + 1) + 1) 210 [(.ref 279), (.int x1)] (mkH hi hl sw kp) Q :=
  e_210 (by
      have e : g_210 hi x1 = (g_207 x1 (0 : Int32) ((hi 279 45) - (1))) := by
        unfold g_210
        rfl
      rw [e] at w
      exact w)
-- 225: DogDecreesModel.decree(I)V
set_option maxRecDepth 100000 in
theorem k_225_0 {x1 : Int32}
    (h1 : ¬ ((hi 279 48) = 0) → ¬ (hi 279 51) = 0)
    (h2 : ¬ ((hi 279 48) = 0) → ¬ (hi 279 48) = 0)
    (h3 : (g_218 hi (hi 299 17)) < 0 → Q none (mkH hi hl sw kp))
    (h4 : ¬ ((g_218 hi (hi 299 17)) < 0) → vp_in ((12) + (g_218 hi (hi 299 17))) 82)
    (h5 : ¬ ((g_218 hi (hi 299 17)) < 0) → (hi 299 ((12) + (g_218 hi (hi 299 17))).toNatClampNeg) ≤ 0 → vp_in ((8) + (g_218 hi (hi 299 17))) 82)
    (h6 : ¬ ((g_218 hi (hi 299 17)) < 0) → (hi 299 ((12) + (g_218 hi (hi 299 17))).toNatClampNeg) ≤ 0 → vp_in (((4) * x1) + (g_218 hi (hi 299 17))) 16)
    (h7 : ¬ ((g_218 hi (hi 299 17)) < 0) → (hi 299 ((12) + (g_218 hi (hi 299 17))).toNatClampNeg) ≤ 0 → vp_in (g_218 hi (hi 299 17)) 4)
    (h8 : ¬ ((g_218 hi (hi 299 17)) < 0) → (hi 299 ((12) + (g_218 hi (hi 299 17))).toNatClampNeg) ≤ 0 → ((u2 hi 299 ((8) + (g_218 hi (hi 299 17))).toNatClampNeg ((hi 299 ((8) + (g_218 hi (hi 299 17))).toNatClampNeg) + (hi 298 (((4) * x1) + (g_218 hi (hi 299 17))).toNatClampNeg))) 299 ((8) + (g_218 hi (hi 299 17))).toNatClampNeg) < (hi 297 (g_218 hi (hi 299 17)).toNatClampNeg) → (-(hi 297 (g_218 hi (hi 299 17)).toNatClampNeg)) < ((u2 hi 299 ((8) + (g_218 hi (hi 299 17))).toNatClampNeg ((hi 299 ((8) + (g_218 hi (hi 299 17))).toNatClampNeg) + (hi 298 (((4) * x1) + (g_218 hi (hi 299 17))).toNatClampNeg))) 299 ((8) + (g_218 hi (hi 299 17))).toNatClampNeg) → Q none (mkH (u2 (u2 hi 299 ((8) + (g_218 hi (hi 299 17))).toNatClampNeg ((hi 299 ((8) + (g_218 hi (hi 299 17))).toNatClampNeg) + (hi 298 (((4) * x1) + (g_218 hi (hi 299 17))).toNatClampNeg))) 299 ((12) + (g_218 hi (hi 299 17))).toNatClampNeg (0)) hl sw kp))
    (h9 : ¬ ((g_218 hi (hi 299 17)) < 0) → (hi 299 ((12) + (g_218 hi (hi 299 17))).toNatClampNeg) ≤ 0 → ((u2 hi 299 ((8) + (g_218 hi (hi 299 17))).toNatClampNeg ((hi 299 ((8) + (g_218 hi (hi 299 17))).toNatClampNeg) + (hi 298 (((4) * x1) + (g_218 hi (hi 299 17))).toNatClampNeg))) 299 ((8) + (g_218 hi (hi 299 17))).toNatClampNeg) < (hi 297 (g_218 hi (hi 299 17)).toNatClampNeg) → ¬ ((-(hi 297 (g_218 hi (hi 299 17)).toNatClampNeg)) < ((u2 hi 299 ((8) + (g_218 hi (hi 299 17))).toNatClampNeg ((hi 299 ((8) + (g_218 hi (hi 299 17))).toNatClampNeg) + (hi 298 (((4) * x1) + (g_218 hi (hi 299 17))).toNatClampNeg))) 299 ((8) + (g_218 hi (hi 299 17))).toNatClampNeg)) → Q none (mkH (u2 (u2 hi 299 ((8) + (g_218 hi (hi 299 17))).toNatClampNeg ((hi 299 ((8) + (g_218 hi (hi 299 17))).toNatClampNeg) + (hi 298 (((4) * x1) + (g_218 hi (hi 299 17))).toNatClampNeg))) 299 ((12) + (g_218 hi (hi 299 17))).toNatClampNeg (2)) hl sw kp))
    (h10 : ¬ ((g_218 hi (hi 299 17)) < 0) → (hi 299 ((12) + (g_218 hi (hi 299 17))).toNatClampNeg) ≤ 0 → ¬ (((u2 hi 299 ((8) + (g_218 hi (hi 299 17))).toNatClampNeg ((hi 299 ((8) + (g_218 hi (hi 299 17))).toNatClampNeg) + (hi 298 (((4) * x1) + (g_218 hi (hi 299 17))).toNatClampNeg))) 299 ((8) + (g_218 hi (hi 299 17))).toNatClampNeg) < (hi 297 (g_218 hi (hi 299 17)).toNatClampNeg)) → Q none (mkH (u2 (u2 hi 299 ((8) + (g_218 hi (hi 299 17))).toNatClampNeg ((hi 299 ((8) + (g_218 hi (hi 299 17))).toNatClampNeg) + (hi 298 (((4) * x1) + (g_218 hi (hi 299 17))).toNatClampNeg))) 299 ((12) + (g_218 hi (hi 299 17))).toNatClampNeg (1)) hl sw kp))
    (h11 : ¬ ((g_218 hi (hi 299 17)) < 0) → ¬ ((hi 299 ((12) + (g_218 hi (hi 299 17))).toNatClampNeg) ≤ 0) → Q none (mkH hi hl sw kp))
    : cW cd_225 (d + 1) Q 0 [some (.ref 279), some (.int x1), none] [] (mkH hi hl sw kp) :=
  cW.run (am_in []) 65 (And.intro (show vp_in 17 82 from vin_l (by decide +kernel)) (cC.of (s_218 (h1) (h2) (And.intro (Nat.le_of_ble_eq_true rfl) (And.intro (fun c1 => (cQ.of (h3 c1))) (fun c2 => (And.intro (h4 c2) (And.intro (fun c3 => (And.intro rfl (And.intro rfl (And.intro (h5 c2 c3) (And.intro (h6 c2 c3) (And.intro (h5 c2 c3) (And.intro (h5 c2 c3) (And.intro (h7 c2 c3) (And.intro (fun c4 => (And.intro (h5 c2 c3) (And.intro (h7 c2 c3) (And.intro (fun c5 => (And.intro (h4 c2) (cQ.of (h8 c2 c3 c4 c5)))) (fun c6 => (And.intro (h4 c2) (cQ.of (h9 c2 c3 c4 c6)))))))) (fun c7 => (And.intro (h4 c2) (cQ.of (h10 c2 c3 c7))))))))))))) (fun c8 => (cQ.of (h11 c2 c8)))))))))))
theorem e_225 {x1 : Int32}
    (h1 : ¬ ((hi 279 48) = 0) → ¬ (hi 279 51) = 0)
    (h2 : ¬ ((hi 279 48) = 0) → ¬ (hi 279 48) = 0)
    (h3 : (g_218 hi (hi 299 17)) < 0 → Q none (mkH hi hl sw kp))
    (h4 : ¬ ((g_218 hi (hi 299 17)) < 0) → vp_in ((12) + (g_218 hi (hi 299 17))) 82)
    (h5 : ¬ ((g_218 hi (hi 299 17)) < 0) → (hi 299 ((12) + (g_218 hi (hi 299 17))).toNatClampNeg) ≤ 0 → vp_in ((8) + (g_218 hi (hi 299 17))) 82)
    (h6 : ¬ ((g_218 hi (hi 299 17)) < 0) → (hi 299 ((12) + (g_218 hi (hi 299 17))).toNatClampNeg) ≤ 0 → vp_in (((4) * x1) + (g_218 hi (hi 299 17))) 16)
    (h7 : ¬ ((g_218 hi (hi 299 17)) < 0) → (hi 299 ((12) + (g_218 hi (hi 299 17))).toNatClampNeg) ≤ 0 → vp_in (g_218 hi (hi 299 17)) 4)
    (h8 : ¬ ((g_218 hi (hi 299 17)) < 0) → (hi 299 ((12) + (g_218 hi (hi 299 17))).toNatClampNeg) ≤ 0 → ((u2 hi 299 ((8) + (g_218 hi (hi 299 17))).toNatClampNeg ((hi 299 ((8) + (g_218 hi (hi 299 17))).toNatClampNeg) + (hi 298 (((4) * x1) + (g_218 hi (hi 299 17))).toNatClampNeg))) 299 ((8) + (g_218 hi (hi 299 17))).toNatClampNeg) < (hi 297 (g_218 hi (hi 299 17)).toNatClampNeg) → (-(hi 297 (g_218 hi (hi 299 17)).toNatClampNeg)) < ((u2 hi 299 ((8) + (g_218 hi (hi 299 17))).toNatClampNeg ((hi 299 ((8) + (g_218 hi (hi 299 17))).toNatClampNeg) + (hi 298 (((4) * x1) + (g_218 hi (hi 299 17))).toNatClampNeg))) 299 ((8) + (g_218 hi (hi 299 17))).toNatClampNeg) → Q none (mkH (u2 (u2 hi 299 ((8) + (g_218 hi (hi 299 17))).toNatClampNeg ((hi 299 ((8) + (g_218 hi (hi 299 17))).toNatClampNeg) + (hi 298 (((4) * x1) + (g_218 hi (hi 299 17))).toNatClampNeg))) 299 ((12) + (g_218 hi (hi 299 17))).toNatClampNeg (0)) hl sw kp))
    (h9 : ¬ ((g_218 hi (hi 299 17)) < 0) → (hi 299 ((12) + (g_218 hi (hi 299 17))).toNatClampNeg) ≤ 0 → ((u2 hi 299 ((8) + (g_218 hi (hi 299 17))).toNatClampNeg ((hi 299 ((8) + (g_218 hi (hi 299 17))).toNatClampNeg) + (hi 298 (((4) * x1) + (g_218 hi (hi 299 17))).toNatClampNeg))) 299 ((8) + (g_218 hi (hi 299 17))).toNatClampNeg) < (hi 297 (g_218 hi (hi 299 17)).toNatClampNeg) → ¬ ((-(hi 297 (g_218 hi (hi 299 17)).toNatClampNeg)) < ((u2 hi 299 ((8) + (g_218 hi (hi 299 17))).toNatClampNeg ((hi 299 ((8) + (g_218 hi (hi 299 17))).toNatClampNeg) + (hi 298 (((4) * x1) + (g_218 hi (hi 299 17))).toNatClampNeg))) 299 ((8) + (g_218 hi (hi 299 17))).toNatClampNeg)) → Q none (mkH (u2 (u2 hi 299 ((8) + (g_218 hi (hi 299 17))).toNatClampNeg ((hi 299 ((8) + (g_218 hi (hi 299 17))).toNatClampNeg) + (hi 298 (((4) * x1) + (g_218 hi (hi 299 17))).toNatClampNeg))) 299 ((12) + (g_218 hi (hi 299 17))).toNatClampNeg (2)) hl sw kp))
    (h10 : ¬ ((g_218 hi (hi 299 17)) < 0) → (hi 299 ((12) + (g_218 hi (hi 299 17))).toNatClampNeg) ≤ 0 → ¬ (((u2 hi 299 ((8) + (g_218 hi (hi 299 17))).toNatClampNeg ((hi 299 ((8) + (g_218 hi (hi 299 17))).toNatClampNeg) + (hi 298 (((4) * x1) + (g_218 hi (hi 299 17))).toNatClampNeg))) 299 ((8) + (g_218 hi (hi 299 17))).toNatClampNeg) < (hi 297 (g_218 hi (hi 299 17)).toNatClampNeg)) → Q none (mkH (u2 (u2 hi 299 ((8) + (g_218 hi (hi 299 17))).toNatClampNeg ((hi 299 ((8) + (g_218 hi (hi 299 17))).toNatClampNeg) + (hi 298 (((4) * x1) + (g_218 hi (hi 299 17))).toNatClampNeg))) 299 ((12) + (g_218 hi (hi 299 17))).toNatClampNeg (1)) hl sw kp))
    (h11 : ¬ ((g_218 hi (hi 299 17)) < 0) → ¬ ((hi 299 ((12) + (g_218 hi (hi 299 17))).toNatClampNeg) ≤ 0) → Q none (mkH hi hl sw kp))
    : cS ((d + 1) + 1) 225 [(.ref 279), (.int x1)] (mkH hi hl sw kp) Q := cS.of rfl (k_225_0 h1 h2 h3 h4 h5 h6 h7 h8 h9 h10 h11)
-- 230: DogDecreesModel.undo()Z
set_option maxRecDepth 100000 in
theorem k_230_0
    (h1 : (hi 279 66) = 0 → Q (some (.int (0))) (mkH hi hl sw kp))
    (h2 : ¬ ((hi 279 66) = 0) → cS d 224 [(.ref 279), (.int ((82) * ((hi 279 66) - (1))))] (mkH (u2 (u2 hi 279 66 ((hi 279 66) - (1))) 279 67 ((hi 279 67) + (1))) hl sw kp) (am_ret (cW cd_230 d Q) 40 [some (.ref 279)] []))
    : cW cd_230 d Q 0 [some (.ref 279)] [] (mkH hi hl sw kp) :=
  cW.run (am_in [40]) 21 (And.intro (fun c1 => (And.intro (Or.inl rfl) (cQ.of (h1 c1)))) (fun c2 => (And.intro rfl (And.intro rfl (cC.of (h2 c2))))))
theorem e_230
    (h1 : (hi 279 66) = 0 → Q (some (.int (0))) (mkH hi hl sw kp))
    (h2 : ¬ ((hi 279 66) = 0) → cS d 224 [(.ref 279), (.int ((82) * ((hi 279 66) - (1))))] (mkH (u2 (u2 hi 279 66 ((hi 279 66) - (1))) 279 67 ((hi 279 67) + (1))) hl sw kp) (am_ret (cW cd_230 d Q) 40 [some (.ref 279)] []))
    : cS (d + 1) 230 [(.ref 279)] (mkH hi hl sw kp) Q := cS.of rfl (k_230_0 h1 h2)
set_option maxRecDepth 100000 in
theorem k_230_40
    (h1 : Q (some (.int (1))) (mkH hi hl sw kp))
    : cW cd_230 d Q 40 [some (.ref 279)] [] (mkH hi hl sw kp) :=
  cW.run (am_in [40]) 2 (And.intro (Or.inr rfl) (cQ.of (h1)))
-- 231: DogDecreesModel.redo()Z
set_option maxRecDepth 100000 in
theorem k_231_0
    (h1 : (hi 279 67) = 0 → Q (some (.int (0))) (mkH hi hl sw kp))
    (h2 : ¬ ((hi 279 67) = 0) → cS d 224 [(.ref 279), (.int ((82) * (hi 279 66)))] (mkH hi hl sw kp) (am_ret (cW cd_231 d Q) 20 [some (.ref 279)] []))
    : cW cd_231 d Q 0 [some (.ref 279)] [] (mkH hi hl sw kp) :=
  cW.run (am_in [20]) 9 (And.intro (fun c1 => (And.intro (Or.inl rfl) (cQ.of (h1 c1)))) (fun c2 => (cC.of (h2 c2))))
theorem e_231
    (h1 : (hi 279 67) = 0 → Q (some (.int (0))) (mkH hi hl sw kp))
    (h2 : ¬ ((hi 279 67) = 0) → cS d 224 [(.ref 279), (.int ((82) * (hi 279 66)))] (mkH hi hl sw kp) (am_ret (cW cd_231 d Q) 20 [some (.ref 279)] []))
    : cS (d + 1) 231 [(.ref 279)] (mkH hi hl sw kp) Q := cS.of rfl (k_231_0 h1 h2)
set_option maxRecDepth 100000 in
theorem k_231_20
    (h1 : Q (some (.int (1))) (mkH (u2 (u2 hi 279 66 ((hi 279 66) + (1))) 279 67 ((hi 279 67) - (1))) hl sw kp))
    : cW cd_231 d Q 20 [some (.ref 279)] [] (mkH hi hl sw kp) :=
  cW.run (am_in [20]) 14 (And.intro rfl (And.intro rfl (And.intro (Or.inr rfl) (cQ.of (h1)))))
-- 236: DogDecreesModel.partOf(JJI)J
set_option maxRecDepth 100000 in
theorem k_236_0 {x0 : Int64} {x2 : Int64} {x4 : Int32}
    (h1 : cS d 235 [(.long x2), (.long x0)] (mkH hi hl sw kp) (am_ret (cW cd_236 d Q) 5 [some (.long x0), none, some (.long x2), none, some (.int x4), none, none] []))
    : cW cd_236 d Q 0 [some (.long x0), none, some (.long x2), none, some (.int x4), none, none] [] (mkH hi hl sw kp) :=
  cW.run (am_in [5]) 3 (cC.of (h1))
theorem e_236 {x0 : Int64} {x2 : Int64} {x4 : Int32}
    (h1 : cS d 235 [(.long x2), (.long x0)] (mkH hi hl sw kp) (am_ret (cW cd_236 d Q) 5 [some (.long x0), none, some (.long x2), none, some (.int x4), none, none] []))
    : cS (d + 1) 236 [(.long x0), (.long x2), (.int x4)] (mkH hi hl sw kp) Q := cS.of rfl (k_236_0 h1)
set_option maxRecDepth 100000 in
theorem k_236_5 {x0 : Int64} {x2 : Int64} {x4 : Int32} {s0 : Int64}
    (h1 : x4 = 0 → ¬ s0 = 0)
    (h2 : x4 = 0 → Q (some (.long (x0 / s0))) (mkH hi hl sw kp))
    (h3 : ¬ (x4 = 0) → ¬ s0 = 0)
    (h4 : ¬ (x4 = 0) → Q (some (.long (x2 / s0))) (mkH hi hl sw kp))
    : cW cd_236 d Q 5 [some (.long x0), none, some (.long x2), none, some (.int x4), none, none] [(.long s0)] (mkH hi hl sw kp) :=
  cW.run (am_in [5]) 8 (And.intro (Nat.le_of_ble_eq_true rfl) (And.intro (fun c1 => (And.intro (h1 c1) (cQ.of (h2 c1)))) (fun c2 => (And.intro (h3 c2) (cQ.of (h4 c2))))))
-- 247: DogDecreesModel.isMost(JI)Z
set_option maxRecDepth 100000 in
theorem k_247_0 {x0 : Int64} {x2 : Int32}
    (h1 : cS d 234 [(.int x2)] (mkH hi hl sw kp) (am_ret (cW cd_247 d Q) 9 [some (.long x0), none, some (.int x2)] [(.long ((2) * x0))]))
    : cW cd_247 d Q 0 [some (.long x0), none, some (.int x2)] [] (mkH hi hl sw kp) :=
  cW.run (am_in [9]) 5 (cC.of (h1))
theorem e_247 {x0 : Int64} {x2 : Int32}
    (h1 : cS d 234 [(.int x2)] (mkH hi hl sw kp) (am_ret (cW cd_247 d Q) 9 [some (.long x0), none, some (.int x2)] [(.long ((2) * x0))]))
    : cS (d + 1) 247 [(.long x0), (.int x2)] (mkH hi hl sw kp) Q := cS.of rfl (k_247_0 h1)
set_option maxRecDepth 100000 in
theorem k_247_9 {x0 : Int64} {x2 : Int32} {s0 : Int64} {s1 : Int64}
    (h1 : (lg_cmp s0 s1) ≤ 0 → Q (some (.int (0))) (mkH hi hl sw kp))
    (h2 : ¬ ((lg_cmp s0 s1) ≤ 0) → Q (some (.int (1))) (mkH hi hl sw kp))
    : cW cd_247 d Q 9 [some (.long x0), none, some (.int x2)] [(.long s1), (.long s0)] (mkH hi hl sw kp) :=
  cW.run (am_in [9]) 5 (And.intro (fun c1 => (And.intro (Or.inl rfl) (cQ.of (h1 c1)))) (fun c2 => (And.intro (Or.inr rfl) (cQ.of (h2 c2)))))
-- 249: DogDecreesModel.loadMore()V
set_option maxRecDepth 100000 in
theorem k_249_0
    (h1 : cS d 211 [(.ref 279)] (mkH hi hl sw kp) (am_ret (cW cd_249 d Q) 4 [some (.ref 279), none] []))
    : cW cd_249 d Q 0 [some (.ref 279), none] [] (mkH hi hl sw kp) :=
  cW.run (am_in [4, 6]) 2 (cC.of (h1))
theorem e_249
    (h1 : cS d 211 [(.ref 279)] (mkH hi hl sw kp) (am_ret (cW cd_249 d Q) 4 [some (.ref 279), none] []))
    : cS (d + 1) 249 [(.ref 279)] (mkH hi hl sw kp) Q := cS.of rfl (k_249_0 h1)
set_option maxRecDepth 100000 in
theorem k_249_4
    (h1 : cW cd_249 d Q 6 [some (.ref 279), some (.int (0))] [] (mkH hi hl sw kp))
    : cW cd_249 d Q 4 [some (.ref 279), none] [] (mkH hi hl sw kp) :=
  cW.run (am_in [4, 6]) 2 (And.intro (Nat.le_of_ble_eq_true rfl) (h1))
set_option maxRecDepth 100000 in
theorem k_249_6 {x1 : Int32}
    (h1 : (hi 279 46) ≤ x1 → Q none (mkH hi hl sw kp))
    (h2 : ¬ ((hi 279 46) ≤ x1) → vp_in x1 8)
    (h3 : ¬ ((hi 279 46) ≤ x1) → cW cd_249 d Q 6 [some (.ref 279), some (.int (x1 + (1)))] [] (mkH (u2 hi 300 x1.toNatClampNeg ((hi 300 x1.toNatClampNeg) + (hi 308 x1.toNatClampNeg))) hl sw kp))
    : cW cd_249 d Q 6 [some (.ref 279), some (.int x1)] [] (mkH hi hl sw kp) :=
  cW.run (am_in [4, 6]) 17 (And.intro (fun c1 => (cQ.of (h1 c1))) (fun c2 => (And.intro rfl (And.intro rfl (And.intro (h2 c2) (And.intro (h2 c2) (And.intro (h2 c2) (And.intro (Nat.le_of_ble_eq_true rfl) (h3 c2)))))))))
-- 261: DogDecreesModel.walk(I)I
set_option maxRecDepth 100000 in
theorem k_261_0 {x1 : Int32}
    (h1 : (g_207 x1 (0 : Int32) ((hi 299 20) - (1))) = 0 → Q (some (.int (-1))) (mkH hi hl sw kp))
    (h2 : ¬ ((g_207 x1 (0 : Int32) ((hi 299 20) - (1))) = 0) → ¬ ((hi 299 20) ≤ x1) → vp_in ((((21) + (hi 299 20)) - (1)) - x1) 82)
    (h3 : ¬ ((g_207 x1 (0 : Int32) ((hi 299 20) - (1))) = 0) → Q (some (.int (g_260 hi x1))) (mkH hi hl sw kp))
    : cW cd_261 (d + 1) Q 0 [some (.ref 279), some (.int x1)] [] (mkH hi hl sw kp) :=
  cW.run (am_in []) 15 (And.intro (show vp_in 20 82 from vin_l (by decide +kernel)) (cC.of (s_207 (And.intro (fun c1 => (cQ.of (h1 c1))) (fun c2 => (cC.of (s_260 (h2 c2) (cQ.of (h3 c2)))))))))
theorem e_261 {x1 : Int32}
    (h1 : (g_207 x1 (0 : Int32) ((hi 299 20) - (1))) = 0 → Q (some (.int (-1))) (mkH hi hl sw kp))
    (h2 : ¬ ((g_207 x1 (0 : Int32) ((hi 299 20) - (1))) = 0) → ¬ ((hi 299 20) ≤ x1) → vp_in ((((21) + (hi 299 20)) - (1)) - x1) 82)
    (h3 : ¬ ((g_207 x1 (0 : Int32) ((hi 299 20) - (1))) = 0) → Q (some (.int (g_260 hi x1))) (mkH hi hl sw kp))
    : cS ((d + 1) + 1) 261 [(.ref 279), (.int x1)] (mkH hi hl sw kp) Q := cS.of rfl (k_261_0 h1 h2 h3)
def g_261 (hi : Nat → Nat → Int32) (x1 : Int32) : Int32 := if (g_207 x1 (0 : Int32) ((hi 299 20) - (1))) = 0 then (-1) else ((g_260 hi x1))
set_option maxRecDepth 100000 in
theorem s_261 {x1 : Int32} (o1 : ¬ ((g_207 x1 (0 : Int32) ((hi 299 20) - (1))) = 0) → ¬ ((hi 299 20) ≤ x1) → vp_in ((((21) + (hi 299 20)) - (1)) - x1) 82) (w : Q (some (.int (g_261 hi x1))) (mkH hi hl sw kp)) : cS ((d + 1) + 1) 261 [(.ref 279), (.int x1)] (mkH hi hl sw kp) Q :=
  e_261 (fun c1 => by
      have e : g_261 hi x1 = (-1) := by
        unfold g_261
        rw [if_pos c1]
      rw [e] at w
      exact w) o1 (fun c2 => by
      have e : g_261 hi x1 = (g_260 hi x1) := by
        unfold g_261
        rw [if_neg c2]
      rw [e] at w
      exact w)
-- 264: DogDecreesModel.lies(I)I
set_option maxRecDepth 100000 in
theorem k_264_0 {x1 : Int32}
    (h1 : (g_207 x1 (0 : Int32) ((hi 279 75) - (1))) = 0 → Q (some (.int (-1000000))) (mkH hi hl sw kp))
    (h2 : ¬ ((g_207 x1 (0 : Int32) ((hi 279 75) - (1))) = 0) → vp_in x1 8)
    (h3 : ¬ ((g_207 x1 (0 : Int32) ((hi 279 75) - (1))) = 0) → Q (some (.int (hi 310 x1.toNatClampNeg))) (mkH hi hl sw kp))
    : cW cd_264 (d + 1) Q 0 [some (.ref 279), some (.int x1)] [] (mkH hi hl sw kp) :=
  cW.run (am_in []) 14 (cC.of (s_207 (And.intro (fun c1 => (cQ.of (h1 c1))) (fun c2 => (And.intro (h2 c2) (cQ.of (h3 c2)))))))
theorem e_264 {x1 : Int32}
    (h1 : (g_207 x1 (0 : Int32) ((hi 279 75) - (1))) = 0 → Q (some (.int (-1000000))) (mkH hi hl sw kp))
    (h2 : ¬ ((g_207 x1 (0 : Int32) ((hi 279 75) - (1))) = 0) → vp_in x1 8)
    (h3 : ¬ ((g_207 x1 (0 : Int32) ((hi 279 75) - (1))) = 0) → Q (some (.int (hi 310 x1.toNatClampNeg))) (mkH hi hl sw kp))
    : cS ((d + 1) + 1) 264 [(.ref 279), (.int x1)] (mkH hi hl sw kp) Q := cS.of rfl (k_264_0 h1 h2 h3)
def g_264 (hi : Nat → Nat → Int32) (x1 : Int32) : Int32 := if (g_207 x1 (0 : Int32) ((hi 279 75) - (1))) = 0 then (-1000000) else ((hi 310 x1.toNatClampNeg))
set_option maxRecDepth 100000 in
theorem s_264 {x1 : Int32} (o1 : ¬ ((g_207 x1 (0 : Int32) ((hi 279 75) - (1))) = 0) → vp_in x1 8) (w : Q (some (.int (g_264 hi x1))) (mkH hi hl sw kp)) : cS ((d + 1) + 1) 264 [(.ref 279), (.int x1)] (mkH hi hl sw kp) Q :=
  e_264 (fun c1 => by
      have e : g_264 hi x1 = (-1000000) := by
        unfold g_264
        rw [if_pos c1]
      rw [e] at w
      exact w) o1 (fun c2 => by
      have e : g_264 hi x1 = (hi 310 x1.toNatClampNeg) := by
        unfold g_264
        rw [if_neg c2]
      rw [e] at w
      exact w)
-- 266: DogDecreesModel.untell(I)Z
set_option maxRecDepth 100000 in
theorem k_266_0 {x1 : Int32}
    (h1 : (g_207 x1 (0 : Int32) ((hi 279 86) - (1))) = 0 → Q (some (.int (0))) (mkH hi hl sw kp))
    (h2 : ¬ ((g_207 x1 (0 : Int32) ((hi 279 86) - (1))) = 0) → vp_in x1 30)
    (h3 : ¬ ((g_207 x1 (0 : Int32) ((hi 279 86) - (1))) = 0) → (hi 319 x1.toNatClampNeg) < 0 → Q (some (.int (1))) (mkH (u2 hi 319 x1.toNatClampNeg (hi 279 87)) hl sw kp))
    (h4 : ¬ ((g_207 x1 (0 : Int32) ((hi 279 86) - (1))) = 0) → ¬ ((hi 319 x1.toNatClampNeg) < 0) → Q (some (.int (0))) (mkH hi hl sw kp))
    : cW cd_266 (d + 1) Q 0 [some (.ref 279), some (.int x1)] [] (mkH hi hl sw kp) :=
  cW.run (am_in []) 21 (cC.of (s_207 (And.intro (fun c1 => (And.intro (Or.inl rfl) (cQ.of (h1 c1)))) (fun c2 => (And.intro (h2 c2) (And.intro (fun c3 => (And.intro (h2 c2) (And.intro (Or.inr rfl) (cQ.of (h3 c2 c3))))) (fun c4 => (And.intro (Or.inl rfl) (cQ.of (h4 c2 c4))))))))))
theorem e_266 {x1 : Int32}
    (h1 : (g_207 x1 (0 : Int32) ((hi 279 86) - (1))) = 0 → Q (some (.int (0))) (mkH hi hl sw kp))
    (h2 : ¬ ((g_207 x1 (0 : Int32) ((hi 279 86) - (1))) = 0) → vp_in x1 30)
    (h3 : ¬ ((g_207 x1 (0 : Int32) ((hi 279 86) - (1))) = 0) → (hi 319 x1.toNatClampNeg) < 0 → Q (some (.int (1))) (mkH (u2 hi 319 x1.toNatClampNeg (hi 279 87)) hl sw kp))
    (h4 : ¬ ((g_207 x1 (0 : Int32) ((hi 279 86) - (1))) = 0) → ¬ ((hi 319 x1.toNatClampNeg) < 0) → Q (some (.int (0))) (mkH hi hl sw kp))
    : cS ((d + 1) + 1) 266 [(.ref 279), (.int x1)] (mkH hi hl sw kp) Q := cS.of rfl (k_266_0 h1 h2 h3 h4)
-- 269: DogDecreesModel.layTally(II)I
set_option maxRecDepth 100000 in
theorem k_269_0 {x1 : Int32} {x2 : Int32}
    (h1 : cW cd_269 d Q 2 [some (.ref 279), some (.int x1), some (.int x2), some (.int (0)), none, none, none, none] [] (mkH hi hl sw kp))
    : cW cd_269 d Q 0 [some (.ref 279), some (.int x1), some (.int x2), none, none, none, none, none] [] (mkH hi hl sw kp) :=
  cW.run (am_in [2, 26, 52, 65, 107, 119]) 2 (And.intro (Nat.le_of_ble_eq_true rfl) (h1))
theorem e_269 {x1 : Int32} {x2 : Int32}
    (h1 : cW cd_269 d Q 2 [some (.ref 279), some (.int x1), some (.int x2), some (.int (0)), none, none, none, none] [] (mkH hi hl sw kp))
    : cS (d + 1) 269 [(.ref 279), (.int x1), (.int x2)] (mkH hi hl sw kp) Q := cS.of rfl (k_269_0 h1)
set_option maxRecDepth 100000 in
theorem k_269_2 {x1 : Int32} {x2 : Int32} {x3 : Int32}
    (h1 : (28) ≤ x3 → cW cd_269 d Q 26 [some (.ref 279), some (.int x1), some (.int x2), some (.int (1)), some (.int (0)), none, none, none] [] (mkH hi hl sw kp))
    (h2 : ¬ ((28) ≤ x3) → vp_in x3 28)
    (h3 : ¬ ((28) ≤ x3) → cW cd_269 d Q 2 [some (.ref 279), some (.int x1), some (.int x2), some (.int (x3 + (1))), none, none, none, none] [] (mkH (u2 hi 320 x3.toNatClampNeg (0)) hl sw kp))
    : cW cd_269 d Q 2 [some (.ref 279), some (.int x1), some (.int x2), some (.int x3), none, none, none, none] [] (mkH hi hl sw kp) :=
  cW.run (am_in [2, 26, 52, 65, 107, 119]) 10 (And.intro (fun c1 => (And.intro (Nat.le_of_ble_eq_true rfl) (And.intro (Nat.le_of_ble_eq_true rfl) (h1 c1)))) (fun c2 => (And.intro (h2 c2) (And.intro (Nat.le_of_ble_eq_true rfl) (h3 c2)))))
set_option maxRecDepth 100000 in
theorem k_269_26 {x1 : Int32} {x2 : Int32} {x3 : Int32} {x4 : Int32}
    (h1 : (hi 279 45) ≤ x4 → cW cd_269 d Q 52 [some (.ref 279), some (.int x1), some (.int x2), some (.int x3), some (.int (0)), some (.int (0)), none, none] [] (mkH hi hl sw kp))
    (h2 : ¬ ((hi 279 45) ≤ x4) → cW cd_269 d Q 26 [some (.ref 279), some (.int x1), some (.int x2), some (.int (x3 * (7))), some (.int (x4 + (1))), none, none, none] [] (mkH hi hl sw kp))
    : cW cd_269 d Q 26 [some (.ref 279), some (.int x1), some (.int x2), some (.int x3), some (.int x4), none, none, none] [] (mkH hi hl sw kp) :=
  cW.run (am_in [2, 26, 52, 65, 107, 119]) 10 (And.intro (fun c1 => (And.intro (Nat.le_of_ble_eq_true rfl) (And.intro (Nat.le_of_ble_eq_true rfl) (h1 c1)))) (fun c2 => (And.intro (Nat.le_of_ble_eq_true rfl) (And.intro (Nat.le_of_ble_eq_true rfl) (h2 c2)))))
set_option maxRecDepth 100000 in
theorem k_269_52 {x1 : Int32} {x2 : Int32} {x3 : Int32} {x4 : Int32} {x5 : Int32} {o6 : Option Value} {o7 : Option Value}
    (h1 : x3 ≤ x5 → Q (some (.int x4)) (mkH hi hl sw kp))
    (h2 : ¬ (x3 ≤ x5) → cW cd_269 d Q 65 [some (.ref 279), some (.int x1), some (.int x2), some (.int x3), some (.int x4), some (.int x5), some (.int x5), some (.int (0))] [] (mkH hi hl sw kp))
    : cW cd_269 d Q 52 [some (.ref 279), some (.int x1), some (.int x2), some (.int x3), some (.int x4), some (.int x5), o6, o7] [] (mkH hi hl sw kp) :=
  cW.run (am_in [2, 26, 52, 65, 107, 119]) 7 (And.intro (fun c1 => (cQ.of (h1 c1))) (fun c2 => (And.intro (Nat.le_of_ble_eq_true rfl) (And.intro (Nat.le_of_ble_eq_true rfl) (h2 c2)))))
set_option maxRecDepth 100000 in
theorem k_269_65 {x1 : Int32} {x2 : Int32} {x3 : Int32} {x4 : Int32} {x5 : Int32} {x6 : Int32} {x7 : Int32}
    (h1 : (hi 279 45) ≤ x7 → cS d 268 [(.ref 279), (.int x1), (.int x2)] (mkH hi hl sw kp) (am_ret (cW cd_269 d Q) 107 [some (.ref 279), some (.int x1), some (.int x2), some (.int x3), some (.int x4), some (.int x5), some (.int x6), some (.int x7)] []))
    (h2 : ¬ ((hi 279 45) ≤ x7) → vp_in x7 4)
    (h3 : ¬ ((hi 279 45) ≤ x7) → cW cd_269 d Q 65 [some (.ref 279), some (.int x1), some (.int x2), some (.int x3), some (.int x4), some (.int x5), some (.int (x6 / (7))), some (.int (x7 + (1)))] [] (mkH (u2 hi 321 x7.toNatClampNeg ((x6 - x6 / (7) * (7)) - (3))) hl sw kp))
    : cW cd_269 d Q 65 [some (.ref 279), some (.int x1), some (.int x2), some (.int x3), some (.int x4), some (.int x5), some (.int x6), some (.int x7)] [] (mkH hi hl sw kp) :=
  cW.run (am_in [2, 26, 52, 65, 107, 119]) 19 (And.intro (fun c1 => (cC.of (h1 c1))) (fun c2 => (And.intro (show ¬ ((7) : Int32) = 0 by decide +kernel) (And.intro (h2 c2) (And.intro (show ¬ ((7) : Int32) = 0 by decide +kernel) (And.intro (Nat.le_of_ble_eq_true rfl) (And.intro (Nat.le_of_ble_eq_true rfl) (h3 c2))))))))
set_option maxRecDepth 100000 in
theorem k_269_107 {x1 : Int32} {x2 : Int32} {x3 : Int32} {x4 : Int32} {x5 : Int32} {x6 : Int32} {x7 : Int32} {s0 : Int32}
    (h1 : s0 = 0 → cW cd_269 d Q 52 [some (.ref 279), some (.int x1), some (.int x2), some (.int x3), some (.int x4), some (.int (x5 + (1))), some (.int x6), some (.int x7)] [] (mkH hi hl sw kp))
    (h2 : ¬ (s0 = 0) → cW cd_269 d Q 119 [some (.ref 279), some (.int x1), some (.int x2), some (.int x3), some (.int (x4 + (1))), some (.int x5), some (.int x6), some (.int (0))] [] (mkH hi hl sw kp))
    : cW cd_269 d Q 107 [some (.ref 279), some (.int x1), some (.int x2), some (.int x3), some (.int x4), some (.int x5), some (.int x6), some (.int x7)] [(.int s0)] (mkH hi hl sw kp) :=
  cW.run (am_in [2, 26, 52, 65, 107, 119]) 4 (And.intro (fun c1 => (And.intro (Nat.le_of_ble_eq_true rfl) (h1 c1))) (fun c2 => (And.intro (Nat.le_of_ble_eq_true rfl) (And.intro (Nat.le_of_ble_eq_true rfl) (h2 c2)))))
set_option maxRecDepth 100000 in
theorem k_269_119 {x1 : Int32} {x2 : Int32} {x3 : Int32} {x4 : Int32} {x5 : Int32} {x6 : Int32} {x7 : Int32}
    (h1 : (hi 279 45) ≤ x7 → cW cd_269 d Q 52 [some (.ref 279), some (.int x1), some (.int x2), some (.int x3), some (.int x4), some (.int (x5 + (1))), some (.int x6), some (.int x7)] [] (mkH hi hl sw kp))
    (h2 : ¬ ((hi 279 45) ≤ x7) → vp_in x7 4)
    (h3 : ¬ ((hi 279 45) ≤ x7) → vp_in ((((7) * x7) + (hi 321 x7.toNatClampNeg)) + (3)) 28)
    (h4 : ¬ ((hi 279 45) ≤ x7) → cW cd_269 d Q 119 [some (.ref 279), some (.int x1), some (.int x2), some (.int x3), some (.int x4), some (.int x5), some (.int x6), some (.int (x7 + (1)))] [] (mkH (u2 hi 320 ((((7) * x7) + (hi 321 x7.toNatClampNeg)) + (3)).toNatClampNeg ((hi 320 ((((7) * x7) + (hi 321 x7.toNatClampNeg)) + (3)).toNatClampNeg) + (1))) hl sw kp))
    : cW cd_269 d Q 119 [some (.ref 279), some (.int x1), some (.int x2), some (.int x3), some (.int x4), some (.int x5), some (.int x6), some (.int x7)] [] (mkH hi hl sw kp) :=
  cW.run (am_in [2, 26, 52, 65, 107, 119]) 23 (And.intro (fun c1 => (And.intro (Nat.le_of_ble_eq_true rfl) (h1 c1))) (fun c2 => (And.intro (h2 c2) (And.intro rfl (And.intro rfl (And.intro (h3 c2) (And.intro (h3 c2) (And.intro (Nat.le_of_ble_eq_true rfl) (h4 c2)))))))))
-- 275: DogDecreesModel.image(I)I
set_option maxRecDepth 100000 in
theorem k_275_0 {x1 : Int32}
    (h1 : (g_274 x1) = 0 → Q (some (.int (-1))) (mkH hi hl sw kp))
    (h2 : ¬ ((g_274 x1) = 0) → vp_in x1 3)
    (h3 : ¬ ((g_274 x1) = 0) → cW cd_275 (d + 1) Q 18 [some (.ref 279), some (.int x1), some (.int (0))] [] (mkH (u2 hi 322 x1.toNatClampNeg (vp_nar .boolean (1))) hl sw kp))
    : cW cd_275 (d + 1) Q 0 [some (.ref 279), some (.int x1), none] [] (mkH hi hl sw kp) :=
  cW.run (am_in [18]) 10 (cC.of (s_274 (And.intro (fun c1 => (cQ.of (h1 c1))) (fun c2 => (And.intro (h2 c2) (And.intro (Nat.le_of_ble_eq_true rfl) (h3 c2)))))))
theorem e_275 {x1 : Int32}
    (h1 : (g_274 x1) = 0 → Q (some (.int (-1))) (mkH hi hl sw kp))
    (h2 : ¬ ((g_274 x1) = 0) → vp_in x1 3)
    (h3 : ¬ ((g_274 x1) = 0) → cW cd_275 (d + 1) Q 18 [some (.ref 279), some (.int x1), some (.int (0))] [] (mkH (u2 hi 322 x1.toNatClampNeg (vp_nar .boolean (1))) hl sw kp))
    : cS ((d + 1) + 1) 275 [(.ref 279), (.int x1)] (mkH hi hl sw kp) Q := cS.of rfl (k_275_0 h1 h2 h3)
set_option maxRecDepth 100000 in
theorem k_275_18 {x1 : Int32} {x2 : Int32}
    (h1 : (81) ≤ x2 → Q (some (.int (hi 299 17))) (mkH hi hl sw kp))
    (h2 : ¬ ((81) ≤ x2) → vp_in x2 82)
    (h3 : ¬ ((81) ≤ x2) → vp_in (((82) * x1) + x2) 246)
    (h4 : ¬ ((81) ≤ x2) → cW cd_275 (d + 1) Q 18 [some (.ref 279), some (.int x1), some (.int (x2 + (1)))] [] (mkH (u2 hi 323 (((82) * x1) + x2).toNatClampNeg (hi 299 x2.toNatClampNeg)) hl sw kp))
    : cW cd_275 (d + 1) Q 18 [some (.ref 279), some (.int x1), some (.int x2)] [] (mkH hi hl sw kp) :=
  cW.run (am_in [18]) 17 (And.intro (fun c1 => (And.intro (show vp_in 17 82 from vin_l (by decide +kernel)) (cQ.of (h1 c1)))) (fun c2 => (And.intro (h2 c2) (And.intro (h3 c2) (And.intro (Nat.le_of_ble_eq_true rfl) (h4 c2))))))
-- 276: DogDecreesModel.back(I)I
set_option maxRecDepth 100000 in
theorem k_276_0 {x1 : Int32}
    (h1 : (g_274 x1) = 0 → Q (some (.int (-1))) (mkH hi hl sw kp))
    (h2 : ¬ ((g_274 x1) = 0) → vp_in x1 3)
    (h3 : ¬ ((g_274 x1) = 0) → (hi 322 x1.toNatClampNeg) = 0 → Q (some (.int (-1))) (mkH hi hl sw kp))
    (h4 : ¬ ((g_274 x1) = 0) → ¬ ((hi 322 x1.toNatClampNeg) = 0) → cW cd_276 (d + 1) Q 20 [some (.ref 279), some (.int x1), some (.int (0))] [] (mkH hi hl sw kp))
    : cW cd_276 (d + 1) Q 0 [some (.ref 279), some (.int x1), none] [] (mkH hi hl sw kp) :=
  cW.run (am_in [20]) 10 (cC.of (s_274 (And.intro (fun c1 => (cQ.of (h1 c1))) (fun c2 => (And.intro (h2 c2) (And.intro (fun c3 => (cQ.of (h3 c2 c3))) (fun c4 => (And.intro (Nat.le_of_ble_eq_true rfl) (h4 c2 c4)))))))))
theorem e_276 {x1 : Int32}
    (h1 : (g_274 x1) = 0 → Q (some (.int (-1))) (mkH hi hl sw kp))
    (h2 : ¬ ((g_274 x1) = 0) → vp_in x1 3)
    (h3 : ¬ ((g_274 x1) = 0) → (hi 322 x1.toNatClampNeg) = 0 → Q (some (.int (-1))) (mkH hi hl sw kp))
    (h4 : ¬ ((g_274 x1) = 0) → ¬ ((hi 322 x1.toNatClampNeg) = 0) → cW cd_276 (d + 1) Q 20 [some (.ref 279), some (.int x1), some (.int (0))] [] (mkH hi hl sw kp))
    : cS ((d + 1) + 1) 276 [(.ref 279), (.int x1)] (mkH hi hl sw kp) Q := cS.of rfl (k_276_0 h1 h2 h3 h4)
set_option maxRecDepth 100000 in
theorem k_276_20 {x1 : Int32} {x2 : Int32}
    (h1 : (81) ≤ x2 → Q (some (.int (hi 299 17))) (mkH (u2 (u2 hi 279 66 (0)) 279 67 (0)) hl sw kp))
    (h2 : ¬ ((81) ≤ x2) → vp_in (((82) * x1) + x2) 246)
    (h3 : ¬ ((81) ≤ x2) → vp_in x2 82)
    (h4 : ¬ ((81) ≤ x2) → cW cd_276 (d + 1) Q 20 [some (.ref 279), some (.int x1), some (.int (x2 + (1)))] [] (mkH (u2 hi 299 x2.toNatClampNeg (hi 323 (((82) * x1) + x2).toNatClampNeg)) hl sw kp))
    : cW cd_276 (d + 1) Q 20 [some (.ref 279), some (.int x1), some (.int x2)] [] (mkH hi hl sw kp) :=
  cW.run (am_in [20]) 17 (And.intro (fun c1 => (And.intro (show vp_in 17 82 from vin_l (by decide +kernel)) (cQ.of (h1 c1)))) (fun c2 => (And.intro (h2 c2) (And.intro (h3 c2) (And.intro (Nat.le_of_ble_eq_true rfl) (h4 c2))))))
-- 278: DogDecreesModel.about(I)I
set_option maxRecDepth 100000 in
theorem k_278_0 {x1 : Int32}
    (h1 : x1 = 0 → Q (some (.int (hi 279 46))) (mkH hi hl sw kp))
    (h2 : ¬ x1 = 0 → x1 = 1 → Q (some (.int (hi 279 45))) (mkH hi hl sw kp))
    (h3 : ¬ x1 = 0 → ¬ x1 = 1 → x1 = 2 → Q (some (.int (hi 279 48))) (mkH hi hl sw kp))
    (h4 : ¬ x1 = 0 → ¬ x1 = 1 → ¬ x1 = 2 → x1 = 3 → Q (some (.int (hi 279 47))) (mkH hi hl sw kp))
    (h5 : ¬ x1 = 0 → ¬ x1 = 1 → ¬ x1 = 2 → ¬ x1 = 3 → x1 = 4 → Q (some (.int (hi 299 16))) (mkH hi hl sw kp))
    (h6 : ¬ x1 = 0 → ¬ x1 = 1 → ¬ x1 = 2 → ¬ x1 = 3 → ¬ x1 = 4 → x1 = 5 → ¬ (hi 279 50) = 0)
    (h7 : ¬ x1 = 0 → ¬ x1 = 1 → ¬ x1 = 2 → ¬ x1 = 3 → ¬ x1 = 4 → x1 = 5 → Q (some (.int ((hi 299 17) - (hi 299 17) / (hi 279 50) * (hi 279 50)))) (mkH hi hl sw kp))
    (h8 : ¬ x1 = 0 → ¬ x1 = 1 → ¬ x1 = 2 → ¬ x1 = 3 → ¬ x1 = 4 → ¬ x1 = 5 → x1 = 6 → Q (some (.int (hi 299 17))) (mkH hi hl sw kp))
    (h9 : ¬ x1 = 0 → ¬ x1 = 1 → ¬ x1 = 2 → ¬ x1 = 3 → ¬ x1 = 4 → ¬ x1 = 5 → ¬ x1 = 6 → x1 = 7 → Q (some (.int (hi 299 18))) (mkH hi hl sw kp))
    (h10 : ¬ x1 = 0 → ¬ x1 = 1 → ¬ x1 = 2 → ¬ x1 = 3 → ¬ x1 = 4 → ¬ x1 = 5 → ¬ x1 = 6 → ¬ x1 = 7 → x1 = 8 → Q (some (.int (hi 299 19))) (mkH hi hl sw kp))
    (h11 : ¬ x1 = 0 → ¬ x1 = 1 → ¬ x1 = 2 → ¬ x1 = 3 → ¬ x1 = 4 → ¬ x1 = 5 → ¬ x1 = 6 → ¬ x1 = 7 → ¬ x1 = 8 → x1 = 9 → cS d 277 [(.ref 279)] (mkH hi hl sw kp) (am_ret (cW cd_278 d Q) 157 [some (.ref 279), some (.int x1)] []))
    (h12 : ¬ x1 = 0 → ¬ x1 = 1 → ¬ x1 = 2 → ¬ x1 = 3 → ¬ x1 = 4 → ¬ x1 = 5 → ¬ x1 = 6 → ¬ x1 = 7 → ¬ x1 = 8 → ¬ x1 = 9 → x1 = 10 → Q (some (.int (hi 279 66))) (mkH hi hl sw kp))
    (h13 : ¬ x1 = 0 → ¬ x1 = 1 → ¬ x1 = 2 → ¬ x1 = 3 → ¬ x1 = 4 → ¬ x1 = 5 → ¬ x1 = 6 → ¬ x1 = 7 → ¬ x1 = 8 → ¬ x1 = 9 → ¬ x1 = 10 → x1 = 11 → Q (some (.int (hi 279 67))) (mkH hi hl sw kp))
    (h14 : ¬ x1 = 0 → ¬ x1 = 1 → ¬ x1 = 2 → ¬ x1 = 3 → ¬ x1 = 4 → ¬ x1 = 5 → ¬ x1 = 6 → ¬ x1 = 7 → ¬ x1 = 8 → ¬ x1 = 9 → ¬ x1 = 10 → ¬ x1 = 11 → x1 = 12 → Q (some (.int (hi 279 86))) (mkH hi hl sw kp))
    (h15 : ¬ x1 = 0 → ¬ x1 = 1 → ¬ x1 = 2 → ¬ x1 = 3 → ¬ x1 = 4 → ¬ x1 = 5 → ¬ x1 = 6 → ¬ x1 = 7 → ¬ x1 = 8 → ¬ x1 = 9 → ¬ x1 = 10 → ¬ x1 = 11 → ¬ x1 = 12 → x1 = 13 → Q (some (.int (hi 279 87))) (mkH hi hl sw kp))
    (h16 : ¬ x1 = 0 → ¬ x1 = 1 → ¬ x1 = 2 → ¬ x1 = 3 → ¬ x1 = 4 → ¬ x1 = 5 → ¬ x1 = 6 → ¬ x1 = 7 → ¬ x1 = 8 → ¬ x1 = 9 → ¬ x1 = 10 → ¬ x1 = 11 → ¬ x1 = 12 → ¬ x1 = 13 → x1 = 14 → Q (some (.int (hi 279 1))) (mkH hi hl sw kp))
    (h17 : ¬ x1 = 0 → ¬ x1 = 1 → ¬ x1 = 2 → ¬ x1 = 3 → ¬ x1 = 4 → ¬ x1 = 5 → ¬ x1 = 6 → ¬ x1 = 7 → ¬ x1 = 8 → ¬ x1 = 9 → ¬ x1 = 10 → ¬ x1 = 11 → ¬ x1 = 12 → ¬ x1 = 13 → ¬ x1 = 14 → x1 = 15 → Q (some (.int (hi 279 21))) (mkH hi hl sw kp))
    (h18 : ¬ x1 = 0 → ¬ x1 = 1 → ¬ x1 = 2 → ¬ x1 = 3 → ¬ x1 = 4 → ¬ x1 = 5 → ¬ x1 = 6 → ¬ x1 = 7 → ¬ x1 = 8 → ¬ x1 = 9 → ¬ x1 = 10 → ¬ x1 = 11 → ¬ x1 = 12 → ¬ x1 = 13 → ¬ x1 = 14 → ¬ x1 = 15 → x1 = 16 → Q (some (.int (hi 279 75))) (mkH hi hl sw kp))
    (h19 : ¬ x1 = 0 → ¬ x1 = 1 → ¬ x1 = 2 → ¬ x1 = 3 → ¬ x1 = 4 → ¬ x1 = 5 → ¬ x1 = 6 → ¬ x1 = 7 → ¬ x1 = 8 → ¬ x1 = 9 → ¬ x1 = 10 → ¬ x1 = 11 → ¬ x1 = 12 → ¬ x1 = 13 → ¬ x1 = 14 → ¬ x1 = 15 → ¬ x1 = 16 → x1 = 17 → Q (some (.int (hi 279 50))) (mkH hi hl sw kp))
    (h20 : ¬ x1 = 0 → ¬ x1 = 1 → ¬ x1 = 2 → ¬ x1 = 3 → ¬ x1 = 4 → ¬ x1 = 5 → ¬ x1 = 6 → ¬ x1 = 7 → ¬ x1 = 8 → ¬ x1 = 9 → ¬ x1 = 10 → ¬ x1 = 11 → ¬ x1 = 12 → ¬ x1 = 13 → ¬ x1 = 14 → ¬ x1 = 15 → ¬ x1 = 16 → ¬ x1 = 17 → Q (some (.int (-1))) (mkH hi hl sw kp))
    : cW cd_278 d Q 0 [some (.ref 279), some (.int x1)] [] (mkH hi hl sw kp) :=
  cW.run (am_in [157]) 10 (And.intro (fun c1 => (cQ.of (h1 c1))) (fun c2 => (And.intro (fun c3 => (cQ.of (h2 c2 c3))) (fun c4 => (And.intro (fun c5 => (cQ.of (h3 c2 c4 c5))) (fun c6 => (And.intro (fun c7 => (cQ.of (h4 c2 c4 c6 c7))) (fun c8 => (And.intro (fun c9 => (And.intro (show vp_in 16 82 from vin_l (by decide +kernel)) (cQ.of (h5 c2 c4 c6 c8 c9)))) (fun c10 => (And.intro (fun c11 => (And.intro (show vp_in 17 82 from vin_l (by decide +kernel)) (And.intro (h6 c2 c4 c6 c8 c10 c11) (cQ.of (h7 c2 c4 c6 c8 c10 c11))))) (fun c12 => (And.intro (fun c13 => (And.intro (show vp_in 17 82 from vin_l (by decide +kernel)) (cQ.of (h8 c2 c4 c6 c8 c10 c12 c13)))) (fun c14 => (And.intro (fun c15 => (And.intro (show vp_in 18 82 from vin_l (by decide +kernel)) (cQ.of (h9 c2 c4 c6 c8 c10 c12 c14 c15)))) (fun c16 => (And.intro (fun c17 => (And.intro (show vp_in 19 82 from vin_l (by decide +kernel)) (cQ.of (h10 c2 c4 c6 c8 c10 c12 c14 c16 c17)))) (fun c18 => (And.intro (fun c19 => (cC.of (h11 c2 c4 c6 c8 c10 c12 c14 c16 c18 c19))) (fun c20 => (And.intro (fun c21 => (cQ.of (h12 c2 c4 c6 c8 c10 c12 c14 c16 c18 c20 c21))) (fun c22 => (And.intro (fun c23 => (cQ.of (h13 c2 c4 c6 c8 c10 c12 c14 c16 c18 c20 c22 c23))) (fun c24 => (And.intro (fun c25 => (cQ.of (h14 c2 c4 c6 c8 c10 c12 c14 c16 c18 c20 c22 c24 c25))) (fun c26 => (And.intro (fun c27 => (cQ.of (h15 c2 c4 c6 c8 c10 c12 c14 c16 c18 c20 c22 c24 c26 c27))) (fun c28 => (And.intro (fun c29 => (cQ.of (h16 c2 c4 c6 c8 c10 c12 c14 c16 c18 c20 c22 c24 c26 c28 c29))) (fun c30 => (And.intro (fun c31 => (cQ.of (h17 c2 c4 c6 c8 c10 c12 c14 c16 c18 c20 c22 c24 c26 c28 c30 c31))) (fun c32 => (And.intro (fun c33 => (cQ.of (h18 c2 c4 c6 c8 c10 c12 c14 c16 c18 c20 c22 c24 c26 c28 c30 c32 c33))) (fun c34 => (And.intro (fun c35 => (cQ.of (h19 c2 c4 c6 c8 c10 c12 c14 c16 c18 c20 c22 c24 c26 c28 c30 c32 c34 c35))) (fun c36 => (cQ.of (h20 c2 c4 c6 c8 c10 c12 c14 c16 c18 c20 c22 c24 c26 c28 c30 c32 c34 c36))))))))))))))))))))))))))))))))))))))
theorem e_278 {x1 : Int32}
    (h1 : x1 = 0 → Q (some (.int (hi 279 46))) (mkH hi hl sw kp))
    (h2 : ¬ x1 = 0 → x1 = 1 → Q (some (.int (hi 279 45))) (mkH hi hl sw kp))
    (h3 : ¬ x1 = 0 → ¬ x1 = 1 → x1 = 2 → Q (some (.int (hi 279 48))) (mkH hi hl sw kp))
    (h4 : ¬ x1 = 0 → ¬ x1 = 1 → ¬ x1 = 2 → x1 = 3 → Q (some (.int (hi 279 47))) (mkH hi hl sw kp))
    (h5 : ¬ x1 = 0 → ¬ x1 = 1 → ¬ x1 = 2 → ¬ x1 = 3 → x1 = 4 → Q (some (.int (hi 299 16))) (mkH hi hl sw kp))
    (h6 : ¬ x1 = 0 → ¬ x1 = 1 → ¬ x1 = 2 → ¬ x1 = 3 → ¬ x1 = 4 → x1 = 5 → ¬ (hi 279 50) = 0)
    (h7 : ¬ x1 = 0 → ¬ x1 = 1 → ¬ x1 = 2 → ¬ x1 = 3 → ¬ x1 = 4 → x1 = 5 → Q (some (.int ((hi 299 17) - (hi 299 17) / (hi 279 50) * (hi 279 50)))) (mkH hi hl sw kp))
    (h8 : ¬ x1 = 0 → ¬ x1 = 1 → ¬ x1 = 2 → ¬ x1 = 3 → ¬ x1 = 4 → ¬ x1 = 5 → x1 = 6 → Q (some (.int (hi 299 17))) (mkH hi hl sw kp))
    (h9 : ¬ x1 = 0 → ¬ x1 = 1 → ¬ x1 = 2 → ¬ x1 = 3 → ¬ x1 = 4 → ¬ x1 = 5 → ¬ x1 = 6 → x1 = 7 → Q (some (.int (hi 299 18))) (mkH hi hl sw kp))
    (h10 : ¬ x1 = 0 → ¬ x1 = 1 → ¬ x1 = 2 → ¬ x1 = 3 → ¬ x1 = 4 → ¬ x1 = 5 → ¬ x1 = 6 → ¬ x1 = 7 → x1 = 8 → Q (some (.int (hi 299 19))) (mkH hi hl sw kp))
    (h11 : ¬ x1 = 0 → ¬ x1 = 1 → ¬ x1 = 2 → ¬ x1 = 3 → ¬ x1 = 4 → ¬ x1 = 5 → ¬ x1 = 6 → ¬ x1 = 7 → ¬ x1 = 8 → x1 = 9 → cS d 277 [(.ref 279)] (mkH hi hl sw kp) (am_ret (cW cd_278 d Q) 157 [some (.ref 279), some (.int x1)] []))
    (h12 : ¬ x1 = 0 → ¬ x1 = 1 → ¬ x1 = 2 → ¬ x1 = 3 → ¬ x1 = 4 → ¬ x1 = 5 → ¬ x1 = 6 → ¬ x1 = 7 → ¬ x1 = 8 → ¬ x1 = 9 → x1 = 10 → Q (some (.int (hi 279 66))) (mkH hi hl sw kp))
    (h13 : ¬ x1 = 0 → ¬ x1 = 1 → ¬ x1 = 2 → ¬ x1 = 3 → ¬ x1 = 4 → ¬ x1 = 5 → ¬ x1 = 6 → ¬ x1 = 7 → ¬ x1 = 8 → ¬ x1 = 9 → ¬ x1 = 10 → x1 = 11 → Q (some (.int (hi 279 67))) (mkH hi hl sw kp))
    (h14 : ¬ x1 = 0 → ¬ x1 = 1 → ¬ x1 = 2 → ¬ x1 = 3 → ¬ x1 = 4 → ¬ x1 = 5 → ¬ x1 = 6 → ¬ x1 = 7 → ¬ x1 = 8 → ¬ x1 = 9 → ¬ x1 = 10 → ¬ x1 = 11 → x1 = 12 → Q (some (.int (hi 279 86))) (mkH hi hl sw kp))
    (h15 : ¬ x1 = 0 → ¬ x1 = 1 → ¬ x1 = 2 → ¬ x1 = 3 → ¬ x1 = 4 → ¬ x1 = 5 → ¬ x1 = 6 → ¬ x1 = 7 → ¬ x1 = 8 → ¬ x1 = 9 → ¬ x1 = 10 → ¬ x1 = 11 → ¬ x1 = 12 → x1 = 13 → Q (some (.int (hi 279 87))) (mkH hi hl sw kp))
    (h16 : ¬ x1 = 0 → ¬ x1 = 1 → ¬ x1 = 2 → ¬ x1 = 3 → ¬ x1 = 4 → ¬ x1 = 5 → ¬ x1 = 6 → ¬ x1 = 7 → ¬ x1 = 8 → ¬ x1 = 9 → ¬ x1 = 10 → ¬ x1 = 11 → ¬ x1 = 12 → ¬ x1 = 13 → x1 = 14 → Q (some (.int (hi 279 1))) (mkH hi hl sw kp))
    (h17 : ¬ x1 = 0 → ¬ x1 = 1 → ¬ x1 = 2 → ¬ x1 = 3 → ¬ x1 = 4 → ¬ x1 = 5 → ¬ x1 = 6 → ¬ x1 = 7 → ¬ x1 = 8 → ¬ x1 = 9 → ¬ x1 = 10 → ¬ x1 = 11 → ¬ x1 = 12 → ¬ x1 = 13 → ¬ x1 = 14 → x1 = 15 → Q (some (.int (hi 279 21))) (mkH hi hl sw kp))
    (h18 : ¬ x1 = 0 → ¬ x1 = 1 → ¬ x1 = 2 → ¬ x1 = 3 → ¬ x1 = 4 → ¬ x1 = 5 → ¬ x1 = 6 → ¬ x1 = 7 → ¬ x1 = 8 → ¬ x1 = 9 → ¬ x1 = 10 → ¬ x1 = 11 → ¬ x1 = 12 → ¬ x1 = 13 → ¬ x1 = 14 → ¬ x1 = 15 → x1 = 16 → Q (some (.int (hi 279 75))) (mkH hi hl sw kp))
    (h19 : ¬ x1 = 0 → ¬ x1 = 1 → ¬ x1 = 2 → ¬ x1 = 3 → ¬ x1 = 4 → ¬ x1 = 5 → ¬ x1 = 6 → ¬ x1 = 7 → ¬ x1 = 8 → ¬ x1 = 9 → ¬ x1 = 10 → ¬ x1 = 11 → ¬ x1 = 12 → ¬ x1 = 13 → ¬ x1 = 14 → ¬ x1 = 15 → ¬ x1 = 16 → x1 = 17 → Q (some (.int (hi 279 50))) (mkH hi hl sw kp))
    (h20 : ¬ x1 = 0 → ¬ x1 = 1 → ¬ x1 = 2 → ¬ x1 = 3 → ¬ x1 = 4 → ¬ x1 = 5 → ¬ x1 = 6 → ¬ x1 = 7 → ¬ x1 = 8 → ¬ x1 = 9 → ¬ x1 = 10 → ¬ x1 = 11 → ¬ x1 = 12 → ¬ x1 = 13 → ¬ x1 = 14 → ¬ x1 = 15 → ¬ x1 = 16 → ¬ x1 = 17 → Q (some (.int (-1))) (mkH hi hl sw kp))
    : cS (d + 1) 278 [(.ref 279), (.int x1)] (mkH hi hl sw kp) Q := cS.of rfl (k_278_0 h1 h2 h3 h4 h5 h6 h7 h8 h9 h10 h11 h12 h13 h14 h15 h16 h17 h18 h19 h20)
set_option maxRecDepth 100000 in
theorem k_278_157 {x1 : Int32} {s0 : Int32}
    (h1 : Q (some (.int s0)) (mkH hi hl sw kp))
    : cW cd_278 d Q 157 [some (.ref 279), some (.int x1)] [(.int s0)] (mkH hi hl sw kp) :=
  cW.run (am_in [157]) 1 (cQ.of (h1))
-- 10: DogDecrees$Formula.valueOf(IIIII)I
set_option maxRecDepth 100000 in
theorem k_10_0 {x1 : Int32} {x2 : Int32} {x3 : Int32} {x4 : Int32} {x5 : Int32}
    (h1 : cW cd_10 (d + 2) Q 6 [some (.ref 25), some (.int x1), some (.int x2), some (.int x3), some (.int x4), some (.int x5), some (.int (0)), some (.int (0)), none] [] (mkH hi hl sw kp))
    : cW cd_10 (d + 2) Q 0 [some (.ref 25), some (.int x1), some (.int x2), some (.int x3), some (.int x4), some (.int x5), none, none, none] [] (mkH hi hl sw kp) :=
  cW.run (am_in [6]) 4 (And.intro (Nat.le_of_ble_eq_true rfl) (And.intro (Nat.le_of_ble_eq_true rfl) (h1)))
theorem e_10 {x1 : Int32} {x2 : Int32} {x3 : Int32} {x4 : Int32} {x5 : Int32}
    (h1 : cW cd_10 (d + 2) Q 6 [some (.ref 25), some (.int x1), some (.int x2), some (.int x3), some (.int x4), some (.int x5), some (.int (0)), some (.int (0)), none] [] (mkH hi hl sw kp))
    : cS ((d + 2) + 1) 10 [(.ref 25), (.int x1), (.int x2), (.int x3), (.int x4), (.int x5)] (mkH hi hl sw kp) Q := cS.of rfl (k_10_0 h1)
set_option maxRecDepth 100000 in
theorem k_10_6 {x1 : Int32} {x2 : Int32} {x3 : Int32} {x4 : Int32} {x5 : Int32} {x6 : Int32} {x7 : Int32} {o8 : Option Value}
    (h1 : (hi 25 2) ≤ x7 → x6 ≤ 0 → Q (some (.int (1))) (mkH hi hl sw kp))
    (h2 : (hi 25 2) ≤ x7 → ¬ (x6 ≤ 0) → Q (some (.int (hi 27 0))) (mkH hi hl sw kp))
    (h3 : ¬ ((hi 25 2) ≤ x7) → (269) ≤ x7 → x6 ≤ 0 → Q (some (.int (1))) (mkH hi hl sw kp))
    (h4 : ¬ ((hi 25 2) ≤ x7) → (269) ≤ x7 → ¬ (x6 ≤ 0) → Q (some (.int (hi 27 0))) (mkH hi hl sw kp))
    (h5 : ¬ ((hi 25 2) ≤ x7) → ¬ ((269) ≤ x7) → vp_in x7 269)
    (h6 : ¬ ((hi 25 2) ≤ x7) → ¬ ((269) ≤ x7) → (hi 26 x7.toNatClampNeg) = (-217) → x6 ≤ 0 → cW cd_10 (d + 2) Q 6 [some (.ref 25), some (.int x1), some (.int x2), some (.int x3), some (.int x4), some (.int x5), some (.int x6), some (.int (x7 + (1))), some (.int (hi 26 x7.toNatClampNeg))] [] (mkH hi hl sw kp))
    (h7 : ¬ ((hi 25 2) ≤ x7) → ¬ ((269) ≤ x7) → (hi 26 x7.toNatClampNeg) = (-217) → ¬ (x6 ≤ 0) → vp_in (x6 - (1)) 30)
    (h8 : ¬ ((hi 25 2) ≤ x7) → ¬ ((269) ≤ x7) → (hi 26 x7.toNatClampNeg) = (-217) → ¬ (x6 ≤ 0) → (hi 27 (x6 - (1)).toNatClampNeg) = 0 → cW cd_10 (d + 2) Q 6 [some (.ref 25), some (.int x1), some (.int x2), some (.int x3), some (.int x4), some (.int x5), some (.int x6), some (.int (x7 + (1))), some (.int (hi 26 x7.toNatClampNeg))] [] (mkH (u2 hi 27 (x6 - (1)).toNatClampNeg (g_14 (1 : Int32))) hl sw kp))
    (h9 : ¬ ((hi 25 2) ≤ x7) → ¬ ((269) ≤ x7) → (hi 26 x7.toNatClampNeg) = (-217) → ¬ (x6 ≤ 0) → ¬ ((hi 27 (x6 - (1)).toNatClampNeg) = 0) → cW cd_10 (d + 2) Q 6 [some (.ref 25), some (.int x1), some (.int x2), some (.int x3), some (.int x4), some (.int x5), some (.int x6), some (.int (x7 + (1))), some (.int (hi 26 x7.toNatClampNeg))] [] (mkH (u2 hi 27 (x6 - (1)).toNatClampNeg (g_14 (0 : Int32))) hl sw kp))
    (h10 : ¬ ((hi 25 2) ≤ x7) → ¬ ((269) ≤ x7) → ¬ ((hi 26 x7.toNatClampNeg) = (-217)) → (g_11 (hi 26 x7.toNatClampNeg)) = 0 → (30) ≤ x6 → cW cd_10 (d + 2) Q 6 [some (.ref 25), some (.int x1), some (.int x2), some (.int x3), some (.int x4), some (.int x5), some (.int x6), some (.int (x7 + (1))), some (.int (hi 26 x7.toNatClampNeg))] [] (mkH hi hl sw kp))
    (h11 : ¬ ((hi 25 2) ≤ x7) → ¬ ((269) ≤ x7) → ¬ ((hi 26 x7.toNatClampNeg) = (-217)) → (g_11 (hi 26 x7.toNatClampNeg)) = 0 → ¬ ((30) ≤ x6) → (hi 26 x7.toNatClampNeg) < 0 → vp_in x6 30)
    (h12 : ¬ ((hi 25 2) ≤ x7) → ¬ ((269) ≤ x7) → ¬ ((hi 26 x7.toNatClampNeg) = (-217)) → (g_11 (hi 26 x7.toNatClampNeg)) = 0 → ¬ ((30) ≤ x6) → (hi 26 x7.toNatClampNeg) < 0 → cW cd_10 (d + 2) Q 6 [some (.ref 25), some (.int x1), some (.int x2), some (.int x3), some (.int x4), some (.int x5), some (.int (x6 + (1))), some (.int (x7 + (1))), some (.int (hi 26 x7.toNatClampNeg))] [] (mkH (u2 hi 27 x6.toNatClampNeg (g_12 (-(hi 26 x7.toNatClampNeg)) x1 x2 x3 x4 x5)) hl sw kp))
    (h13 : ¬ ((hi 25 2) ≤ x7) → ¬ ((269) ≤ x7) → ¬ ((hi 26 x7.toNatClampNeg) = (-217)) → (g_11 (hi 26 x7.toNatClampNeg)) = 0 → ¬ ((30) ≤ x6) → ¬ ((hi 26 x7.toNatClampNeg) < 0) → vp_in x6 30)
    (h14 : ¬ ((hi 25 2) ≤ x7) → ¬ ((269) ≤ x7) → ¬ ((hi 26 x7.toNatClampNeg) = (-217)) → (g_11 (hi 26 x7.toNatClampNeg)) = 0 → ¬ ((30) ≤ x6) → ¬ ((hi 26 x7.toNatClampNeg) < 0) → cW cd_10 (d + 2) Q 6 [some (.ref 25), some (.int x1), some (.int x2), some (.int x3), some (.int x4), some (.int x5), some (.int (x6 + (1))), some (.int (x7 + (1))), some (.int (hi 26 x7.toNatClampNeg))] [] (mkH (u2 hi 27 x6.toNatClampNeg (hi 26 x7.toNatClampNeg)) hl sw kp))
    (h15 : ¬ ((hi 25 2) ≤ x7) → ¬ ((269) ≤ x7) → ¬ ((hi 26 x7.toNatClampNeg) = (-217)) → ¬ ((g_11 (hi 26 x7.toNatClampNeg)) = 0) → x6 ≤ (1) → cW cd_10 (d + 2) Q 6 [some (.ref 25), some (.int x1), some (.int x2), some (.int x3), some (.int x4), some (.int x5), some (.int x6), some (.int (x7 + (1))), some (.int (hi 26 x7.toNatClampNeg))] [] (mkH hi hl sw kp))
    (h16 : ¬ ((hi 25 2) ≤ x7) → ¬ ((269) ≤ x7) → ¬ ((hi 26 x7.toNatClampNeg) = (-217)) → ¬ ((g_11 (hi 26 x7.toNatClampNeg)) = 0) → ¬ (x6 ≤ (1)) → vp_in ((x6 + (-1)) - (1)) 30)
    (h17 : ¬ ((hi 25 2) ≤ x7) → ¬ ((269) ≤ x7) → ¬ ((hi 26 x7.toNatClampNeg) = (-217)) → ¬ ((g_11 (hi 26 x7.toNatClampNeg)) = 0) → ¬ (x6 ≤ (1)) → vp_in (x6 + (-1)) 30)
    (h18 : ¬ ((hi 25 2) ≤ x7) → ¬ ((269) ≤ x7) → ¬ ((hi 26 x7.toNatClampNeg) = (-217)) → ¬ ((g_11 (hi 26 x7.toNatClampNeg)) = 0) → ¬ (x6 ≤ (1)) → (-(hi 26 x7.toNatClampNeg)) = 37 → ¬ ((hi 27 (x6 + (-1)).toNatClampNeg) = 0) → ¬ (hi 27 (x6 + (-1)).toNatClampNeg) = 0)
    (h19 : ¬ ((hi 25 2) ≤ x7) → ¬ ((269) ≤ x7) → ¬ ((hi 26 x7.toNatClampNeg) = (-217)) → ¬ ((g_11 (hi 26 x7.toNatClampNeg)) = 0) → ¬ (x6 ≤ (1)) → ¬ (-(hi 26 x7.toNatClampNeg)) = 37 → ¬ (-(hi 26 x7.toNatClampNeg)) = 42 → ¬ (-(hi 26 x7.toNatClampNeg)) = 43 → ¬ (-(hi 26 x7.toNatClampNeg)) = 45 → (-(hi 26 x7.toNatClampNeg)) = 47 → ¬ ((hi 27 (x6 + (-1)).toNatClampNeg) = 0) → ¬ (hi 27 (x6 + (-1)).toNatClampNeg) = 0)
    (h20 : ¬ ((hi 25 2) ≤ x7) → ¬ ((269) ≤ x7) → ¬ ((hi 26 x7.toNatClampNeg) = (-217)) → ¬ ((g_11 (hi 26 x7.toNatClampNeg)) = 0) → ¬ (x6 ≤ (1)) → cW cd_10 (d + 2) Q 6 [some (.ref 25), some (.int x1), some (.int x2), some (.int x3), some (.int x4), some (.int x5), some (.int (x6 + (-1))), some (.int (x7 + (1))), some (.int (hi 26 x7.toNatClampNeg))] [] (mkH (u2 hi 27 ((x6 + (-1)) - (1)).toNatClampNeg (g_13 (-(hi 26 x7.toNatClampNeg)) (hi 27 ((x6 + (-1)) - (1)).toNatClampNeg) (hi 27 (x6 + (-1)).toNatClampNeg))) hl sw kp))
    : cW cd_10 (d + 2) Q 6 [some (.ref 25), some (.int x1), some (.int x2), some (.int x3), some (.int x4), some (.int x5), some (.int x6), some (.int x7), o8] [] (mkH hi hl sw kp) :=
  cW.run (am_in [6]) 44 (And.intro (fun c1 => (And.intro (fun c2 => (cQ.of (h1 c1 c2))) (fun c3 => (And.intro (show vp_in 0 30 from vin_l (by decide +kernel)) (cQ.of (h2 c1 c3)))))) (fun c4 => (And.intro (fun c5 => (And.intro (fun c6 => (cQ.of (h3 c4 c5 c6))) (fun c7 => (And.intro (show vp_in 0 30 from vin_l (by decide +kernel)) (cQ.of (h4 c4 c5 c7)))))) (fun c8 => (And.intro (h5 c4 c8) (And.intro (Nat.le_of_ble_eq_true rfl) (And.intro (fun c9 => (And.intro (fun c10 => (And.intro (Nat.le_of_ble_eq_true rfl) (h6 c4 c8 c9 c10))) (fun c11 => (And.intro (h7 c4 c8 c9 c11) (And.intro (fun c12 => (cC.of (s_14 (And.intro (h7 c4 c8 c9 c11) (And.intro (Nat.le_of_ble_eq_true rfl) (h8 c4 c8 c9 c11 c12)))))) (fun c13 => (cC.of (s_14 (And.intro (h7 c4 c8 c9 c11) (And.intro (Nat.le_of_ble_eq_true rfl) (h9 c4 c8 c9 c11 c13))))))))))) (fun c14 => (cC.of (s_11 (And.intro (fun c15 => (And.intro (fun c16 => (And.intro (Nat.le_of_ble_eq_true rfl) (h10 c4 c8 c14 c15 c16))) (fun c17 => (And.intro (fun c18 => (cC.of (s_12 (And.intro (h11 c4 c8 c14 c15 c17 c18) (And.intro (Nat.le_of_ble_eq_true rfl) (And.intro (Nat.le_of_ble_eq_true rfl) (h12 c4 c8 c14 c15 c17 c18))))))) (fun c19 => (And.intro (h13 c4 c8 c14 c15 c17 c19) (And.intro (Nat.le_of_ble_eq_true rfl) (And.intro (Nat.le_of_ble_eq_true rfl) (h14 c4 c8 c14 c15 c17 c19))))))))) (fun c20 => (And.intro (fun c21 => (And.intro (Nat.le_of_ble_eq_true rfl) (h15 c4 c8 c14 c20 c21))) (fun c22 => (And.intro (Nat.le_of_ble_eq_true rfl) (And.intro (h16 c4 c8 c14 c20 c22) (And.intro (h17 c4 c8 c14 c20 c22) (cC.of (s_13 (h18 c4 c8 c14 c20 c22) (h19 c4 c8 c14 c20 c22) (And.intro (h16 c4 c8 c14 c20 c22) (And.intro (Nat.le_of_ble_eq_true rfl) (h20 c4 c8 c14 c20 c22))))))))))))))))))))))
end BLK
