/-! ===== blocks of methods, by program ===== -/
section BLK
variable {d : Nat} {Q : am_Q} {hi : Nat → Nat → Int32} {hl : Nat → Nat → Int64} {sw : Bool} {kp : Nat → Nat}
-- 195: DogDecreesModel.done(III)I
set_option maxRecDepth 100000 in
theorem k_195_0 {x0 : Int32} {x1 : Int32} {x2 : Int32}
    (h1 : x0 = 37 → x2 = 0 → Q (some (.int (0))) (mkH hi hl sw kp))
    (h2 : x0 = 37 → ¬ (x2 = 0) → ¬ x2 = 0)
    (h3 : x0 = 37 → ¬ (x2 = 0) → Q (some (.int (x1 - x1 / x2 * x2))) (mkH hi hl sw kp))
    (h4 : ¬ x0 = 37 → x0 = 38 → x1 = 0 → cS d 194 [(.int (0))] (mkH hi hl sw kp) (am_ret (cW cd_195 d Q) 214 [some (.int x0), some (.int x1), some (.int x2)] []))
    (h5 : ¬ x0 = 37 → x0 = 38 → ¬ (x1 = 0) → x2 = 0 → cS d 194 [(.int (0))] (mkH hi hl sw kp) (am_ret (cW cd_195 d Q) 214 [some (.int x0), some (.int x1), some (.int x2)] []))
    (h6 : ¬ x0 = 37 → x0 = 38 → ¬ (x1 = 0) → ¬ (x2 = 0) → cS d 194 [(.int (1))] (mkH hi hl sw kp) (am_ret (cW cd_195 d Q) 214 [some (.int x0), some (.int x1), some (.int x2)] []))
    (h7 : ¬ x0 = 37 → ¬ x0 = 38 → x0 = 39 → x1 = 0 → x2 = 0 → cS d 194 [(.int (0))] (mkH hi hl sw kp) (am_ret (cW cd_195 d Q) 231 [some (.int x0), some (.int x1), some (.int x2)] []))
    (h8 : ¬ x0 = 37 → ¬ x0 = 38 → x0 = 39 → x1 = 0 → ¬ (x2 = 0) → cS d 194 [(.int (1))] (mkH hi hl sw kp) (am_ret (cW cd_195 d Q) 231 [some (.int x0), some (.int x1), some (.int x2)] []))
    (h9 : ¬ x0 = 37 → ¬ x0 = 38 → x0 = 39 → ¬ (x1 = 0) → cS d 194 [(.int (1))] (mkH hi hl sw kp) (am_ret (cW cd_195 d Q) 231 [some (.int x0), some (.int x1), some (.int x2)] []))
    (h10 : ¬ x0 = 37 → ¬ x0 = 38 → ¬ x0 = 39 → x0 = 40 → x1 = 0 → x2 = 0 → cS d 194 [(.int (0))] (mkH hi hl sw kp) (am_ret (cW cd_195 d Q) 231 [some (.int x0), some (.int x1), some (.int x2)] []))
    (h11 : ¬ x0 = 37 → ¬ x0 = 38 → ¬ x0 = 39 → x0 = 40 → x1 = 0 → ¬ (x2 = 0) → cS d 194 [(.int (1))] (mkH hi hl sw kp) (am_ret (cW cd_195 d Q) 231 [some (.int x0), some (.int x1), some (.int x2)] []))
    (h12 : ¬ x0 = 37 → ¬ x0 = 38 → ¬ x0 = 39 → x0 = 40 → ¬ (x1 = 0) → cS d 194 [(.int (1))] (mkH hi hl sw kp) (am_ret (cW cd_195 d Q) 231 [some (.int x0), some (.int x1), some (.int x2)] []))
    (h13 : ¬ x0 = 37 → ¬ x0 = 38 → ¬ x0 = 39 → ¬ x0 = 40 → x0 = 41 → x1 = 0 → x2 = 0 → cS d 194 [(.int (0))] (mkH hi hl sw kp) (am_ret (cW cd_195 d Q) 231 [some (.int x0), some (.int x1), some (.int x2)] []))
    (h14 : ¬ x0 = 37 → ¬ x0 = 38 → ¬ x0 = 39 → ¬ x0 = 40 → x0 = 41 → x1 = 0 → ¬ (x2 = 0) → cS d 194 [(.int (1))] (mkH hi hl sw kp) (am_ret (cW cd_195 d Q) 231 [some (.int x0), some (.int x1), some (.int x2)] []))
    (h15 : ¬ x0 = 37 → ¬ x0 = 38 → ¬ x0 = 39 → ¬ x0 = 40 → x0 = 41 → ¬ (x1 = 0) → cS d 194 [(.int (1))] (mkH hi hl sw kp) (am_ret (cW cd_195 d Q) 231 [some (.int x0), some (.int x1), some (.int x2)] []))
    (h16 : ¬ x0 = 37 → ¬ x0 = 38 → ¬ x0 = 39 → ¬ x0 = 40 → ¬ x0 = 41 → x0 = 42 → Q (some (.int (x1 * x2))) (mkH hi hl sw kp))
    (h17 : ¬ x0 = 37 → ¬ x0 = 38 → ¬ x0 = 39 → ¬ x0 = 40 → ¬ x0 = 41 → ¬ x0 = 42 → x0 = 43 → Q (some (.int (x1 + x2))) (mkH hi hl sw kp))
    (h18 : ¬ x0 = 37 → ¬ x0 = 38 → ¬ x0 = 39 → ¬ x0 = 40 → ¬ x0 = 41 → ¬ x0 = 42 → ¬ x0 = 43 → x0 = 44 → x1 = 0 → x2 = 0 → cS d 194 [(.int (0))] (mkH hi hl sw kp) (am_ret (cW cd_195 d Q) 231 [some (.int x0), some (.int x1), some (.int x2)] []))
    (h19 : ¬ x0 = 37 → ¬ x0 = 38 → ¬ x0 = 39 → ¬ x0 = 40 → ¬ x0 = 41 → ¬ x0 = 42 → ¬ x0 = 43 → x0 = 44 → x1 = 0 → ¬ (x2 = 0) → cS d 194 [(.int (1))] (mkH hi hl sw kp) (am_ret (cW cd_195 d Q) 231 [some (.int x0), some (.int x1), some (.int x2)] []))
    (h20 : ¬ x0 = 37 → ¬ x0 = 38 → ¬ x0 = 39 → ¬ x0 = 40 → ¬ x0 = 41 → ¬ x0 = 42 → ¬ x0 = 43 → x0 = 44 → ¬ (x1 = 0) → cS d 194 [(.int (1))] (mkH hi hl sw kp) (am_ret (cW cd_195 d Q) 231 [some (.int x0), some (.int x1), some (.int x2)] []))
    (h21 : ¬ x0 = 37 → ¬ x0 = 38 → ¬ x0 = 39 → ¬ x0 = 40 → ¬ x0 = 41 → ¬ x0 = 42 → ¬ x0 = 43 → ¬ x0 = 44 → x0 = 45 → Q (some (.int (x1 - x2))) (mkH hi hl sw kp))
    (h22 : ¬ x0 = 37 → ¬ x0 = 38 → ¬ x0 = 39 → ¬ x0 = 40 → ¬ x0 = 41 → ¬ x0 = 42 → ¬ x0 = 43 → ¬ x0 = 44 → ¬ x0 = 45 → x0 = 46 → x1 = 0 → x2 = 0 → cS d 194 [(.int (0))] (mkH hi hl sw kp) (am_ret (cW cd_195 d Q) 231 [some (.int x0), some (.int x1), some (.int x2)] []))
    (h23 : ¬ x0 = 37 → ¬ x0 = 38 → ¬ x0 = 39 → ¬ x0 = 40 → ¬ x0 = 41 → ¬ x0 = 42 → ¬ x0 = 43 → ¬ x0 = 44 → ¬ x0 = 45 → x0 = 46 → x1 = 0 → ¬ (x2 = 0) → cS d 194 [(.int (1))] (mkH hi hl sw kp) (am_ret (cW cd_195 d Q) 231 [some (.int x0), some (.int x1), some (.int x2)] []))
    (h24 : ¬ x0 = 37 → ¬ x0 = 38 → ¬ x0 = 39 → ¬ x0 = 40 → ¬ x0 = 41 → ¬ x0 = 42 → ¬ x0 = 43 → ¬ x0 = 44 → ¬ x0 = 45 → x0 = 46 → ¬ (x1 = 0) → cS d 194 [(.int (1))] (mkH hi hl sw kp) (am_ret (cW cd_195 d Q) 231 [some (.int x0), some (.int x1), some (.int x2)] []))
    (h25 : ¬ x0 = 37 → ¬ x0 = 38 → ¬ x0 = 39 → ¬ x0 = 40 → ¬ x0 = 41 → ¬ x0 = 42 → ¬ x0 = 43 → ¬ x0 = 44 → ¬ x0 = 45 → ¬ x0 = 46 → x0 = 47 → x2 = 0 → Q (some (.int (0))) (mkH hi hl sw kp))
    (h26 : ¬ x0 = 37 → ¬ x0 = 38 → ¬ x0 = 39 → ¬ x0 = 40 → ¬ x0 = 41 → ¬ x0 = 42 → ¬ x0 = 43 → ¬ x0 = 44 → ¬ x0 = 45 → ¬ x0 = 46 → x0 = 47 → ¬ (x2 = 0) → ¬ x2 = 0)
    (h27 : ¬ x0 = 37 → ¬ x0 = 38 → ¬ x0 = 39 → ¬ x0 = 40 → ¬ x0 = 41 → ¬ x0 = 42 → ¬ x0 = 43 → ¬ x0 = 44 → ¬ x0 = 45 → ¬ x0 = 46 → x0 = 47 → ¬ (x2 = 0) → Q (some (.int (x1 / x2))) (mkH hi hl sw kp))
    (h28 : ¬ x0 = 37 → ¬ x0 = 38 → ¬ x0 = 39 → ¬ x0 = 40 → ¬ x0 = 41 → ¬ x0 = 42 → ¬ x0 = 43 → ¬ x0 = 44 → ¬ x0 = 45 → ¬ x0 = 46 → ¬ x0 = 47 → x0 = 48 → x1 = 0 → x2 = 0 → cS d 194 [(.int (0))] (mkH hi hl sw kp) (am_ret (cW cd_195 d Q) 231 [some (.int x0), some (.int x1), some (.int x2)] []))
    (h29 : ¬ x0 = 37 → ¬ x0 = 38 → ¬ x0 = 39 → ¬ x0 = 40 → ¬ x0 = 41 → ¬ x0 = 42 → ¬ x0 = 43 → ¬ x0 = 44 → ¬ x0 = 45 → ¬ x0 = 46 → ¬ x0 = 47 → x0 = 48 → x1 = 0 → ¬ (x2 = 0) → cS d 194 [(.int (1))] (mkH hi hl sw kp) (am_ret (cW cd_195 d Q) 231 [some (.int x0), some (.int x1), some (.int x2)] []))
    (h30 : ¬ x0 = 37 → ¬ x0 = 38 → ¬ x0 = 39 → ¬ x0 = 40 → ¬ x0 = 41 → ¬ x0 = 42 → ¬ x0 = 43 → ¬ x0 = 44 → ¬ x0 = 45 → ¬ x0 = 46 → ¬ x0 = 47 → x0 = 48 → ¬ (x1 = 0) → cS d 194 [(.int (1))] (mkH hi hl sw kp) (am_ret (cW cd_195 d Q) 231 [some (.int x0), some (.int x1), some (.int x2)] []))
    (h31 : ¬ x0 = 37 → ¬ x0 = 38 → ¬ x0 = 39 → ¬ x0 = 40 → ¬ x0 = 41 → ¬ x0 = 42 → ¬ x0 = 43 → ¬ x0 = 44 → ¬ x0 = 45 → ¬ x0 = 46 → ¬ x0 = 47 → ¬ x0 = 48 → x0 = 49 → x1 = 0 → x2 = 0 → cS d 194 [(.int (0))] (mkH hi hl sw kp) (am_ret (cW cd_195 d Q) 231 [some (.int x0), some (.int x1), some (.int x2)] []))
    (h32 : ¬ x0 = 37 → ¬ x0 = 38 → ¬ x0 = 39 → ¬ x0 = 40 → ¬ x0 = 41 → ¬ x0 = 42 → ¬ x0 = 43 → ¬ x0 = 44 → ¬ x0 = 45 → ¬ x0 = 46 → ¬ x0 = 47 → ¬ x0 = 48 → x0 = 49 → x1 = 0 → ¬ (x2 = 0) → cS d 194 [(.int (1))] (mkH hi hl sw kp) (am_ret (cW cd_195 d Q) 231 [some (.int x0), some (.int x1), some (.int x2)] []))
    (h33 : ¬ x0 = 37 → ¬ x0 = 38 → ¬ x0 = 39 → ¬ x0 = 40 → ¬ x0 = 41 → ¬ x0 = 42 → ¬ x0 = 43 → ¬ x0 = 44 → ¬ x0 = 45 → ¬ x0 = 46 → ¬ x0 = 47 → ¬ x0 = 48 → x0 = 49 → ¬ (x1 = 0) → cS d 194 [(.int (1))] (mkH hi hl sw kp) (am_ret (cW cd_195 d Q) 231 [some (.int x0), some (.int x1), some (.int x2)] []))
    (h34 : ¬ x0 = 37 → ¬ x0 = 38 → ¬ x0 = 39 → ¬ x0 = 40 → ¬ x0 = 41 → ¬ x0 = 42 → ¬ x0 = 43 → ¬ x0 = 44 → ¬ x0 = 45 → ¬ x0 = 46 → ¬ x0 = 47 → ¬ x0 = 48 → ¬ x0 = 49 → x0 = 50 → x1 = 0 → x2 = 0 → cS d 194 [(.int (0))] (mkH hi hl sw kp) (am_ret (cW cd_195 d Q) 231 [some (.int x0), some (.int x1), some (.int x2)] []))
    (h35 : ¬ x0 = 37 → ¬ x0 = 38 → ¬ x0 = 39 → ¬ x0 = 40 → ¬ x0 = 41 → ¬ x0 = 42 → ¬ x0 = 43 → ¬ x0 = 44 → ¬ x0 = 45 → ¬ x0 = 46 → ¬ x0 = 47 → ¬ x0 = 48 → ¬ x0 = 49 → x0 = 50 → x1 = 0 → ¬ (x2 = 0) → cS d 194 [(.int (1))] (mkH hi hl sw kp) (am_ret (cW cd_195 d Q) 231 [some (.int x0), some (.int x1), some (.int x2)] []))
    (h36 : ¬ x0 = 37 → ¬ x0 = 38 → ¬ x0 = 39 → ¬ x0 = 40 → ¬ x0 = 41 → ¬ x0 = 42 → ¬ x0 = 43 → ¬ x0 = 44 → ¬ x0 = 45 → ¬ x0 = 46 → ¬ x0 = 47 → ¬ x0 = 48 → ¬ x0 = 49 → x0 = 50 → ¬ (x1 = 0) → cS d 194 [(.int (1))] (mkH hi hl sw kp) (am_ret (cW cd_195 d Q) 231 [some (.int x0), some (.int x1), some (.int x2)] []))
    (h37 : ¬ x0 = 37 → ¬ x0 = 38 → ¬ x0 = 39 → ¬ x0 = 40 → ¬ x0 = 41 → ¬ x0 = 42 → ¬ x0 = 43 → ¬ x0 = 44 → ¬ x0 = 45 → ¬ x0 = 46 → ¬ x0 = 47 → ¬ x0 = 48 → ¬ x0 = 49 → ¬ x0 = 50 → x0 = 51 → x1 = 0 → x2 = 0 → cS d 194 [(.int (0))] (mkH hi hl sw kp) (am_ret (cW cd_195 d Q) 231 [some (.int x0), some (.int x1), some (.int x2)] []))
    (h38 : ¬ x0 = 37 → ¬ x0 = 38 → ¬ x0 = 39 → ¬ x0 = 40 → ¬ x0 = 41 → ¬ x0 = 42 → ¬ x0 = 43 → ¬ x0 = 44 → ¬ x0 = 45 → ¬ x0 = 46 → ¬ x0 = 47 → ¬ x0 = 48 → ¬ x0 = 49 → ¬ x0 = 50 → x0 = 51 → x1 = 0 → ¬ (x2 = 0) → cS d 194 [(.int (1))] (mkH hi hl sw kp) (am_ret (cW cd_195 d Q) 231 [some (.int x0), some (.int x1), some (.int x2)] []))
    (h39 : ¬ x0 = 37 → ¬ x0 = 38 → ¬ x0 = 39 → ¬ x0 = 40 → ¬ x0 = 41 → ¬ x0 = 42 → ¬ x0 = 43 → ¬ x0 = 44 → ¬ x0 = 45 → ¬ x0 = 46 → ¬ x0 = 47 → ¬ x0 = 48 → ¬ x0 = 49 → ¬ x0 = 50 → x0 = 51 → ¬ (x1 = 0) → cS d 194 [(.int (1))] (mkH hi hl sw kp) (am_ret (cW cd_195 d Q) 231 [some (.int x0), some (.int x1), some (.int x2)] []))
    (h40 : ¬ x0 = 37 → ¬ x0 = 38 → ¬ x0 = 39 → ¬ x0 = 40 → ¬ x0 = 41 → ¬ x0 = 42 → ¬ x0 = 43 → ¬ x0 = 44 → ¬ x0 = 45 → ¬ x0 = 46 → ¬ x0 = 47 → ¬ x0 = 48 → ¬ x0 = 49 → ¬ x0 = 50 → ¬ x0 = 51 → x0 = 52 → x1 = 0 → x2 = 0 → cS d 194 [(.int (0))] (mkH hi hl sw kp) (am_ret (cW cd_195 d Q) 231 [some (.int x0), some (.int x1), some (.int x2)] []))
    (h41 : ¬ x0 = 37 → ¬ x0 = 38 → ¬ x0 = 39 → ¬ x0 = 40 → ¬ x0 = 41 → ¬ x0 = 42 → ¬ x0 = 43 → ¬ x0 = 44 → ¬ x0 = 45 → ¬ x0 = 46 → ¬ x0 = 47 → ¬ x0 = 48 → ¬ x0 = 49 → ¬ x0 = 50 → ¬ x0 = 51 → x0 = 52 → x1 = 0 → ¬ (x2 = 0) → cS d 194 [(.int (1))] (mkH hi hl sw kp) (am_ret (cW cd_195 d Q) 231 [some (.int x0), some (.int x1), some (.int x2)] []))
    (h42 : ¬ x0 = 37 → ¬ x0 = 38 → ¬ x0 = 39 → ¬ x0 = 40 → ¬ x0 = 41 → ¬ x0 = 42 → ¬ x0 = 43 → ¬ x0 = 44 → ¬ x0 = 45 → ¬ x0 = 46 → ¬ x0 = 47 → ¬ x0 = 48 → ¬ x0 = 49 → ¬ x0 = 50 → ¬ x0 = 51 → x0 = 52 → ¬ (x1 = 0) → cS d 194 [(.int (1))] (mkH hi hl sw kp) (am_ret (cW cd_195 d Q) 231 [some (.int x0), some (.int x1), some (.int x2)] []))
    (h43 : ¬ x0 = 37 → ¬ x0 = 38 → ¬ x0 = 39 → ¬ x0 = 40 → ¬ x0 = 41 → ¬ x0 = 42 → ¬ x0 = 43 → ¬ x0 = 44 → ¬ x0 = 45 → ¬ x0 = 46 → ¬ x0 = 47 → ¬ x0 = 48 → ¬ x0 = 49 → ¬ x0 = 50 → ¬ x0 = 51 → ¬ x0 = 52 → x0 = 53 → x1 = 0 → x2 = 0 → cS d 194 [(.int (0))] (mkH hi hl sw kp) (am_ret (cW cd_195 d Q) 231 [some (.int x0), some (.int x1), some (.int x2)] []))
    (h44 : ¬ x0 = 37 → ¬ x0 = 38 → ¬ x0 = 39 → ¬ x0 = 40 → ¬ x0 = 41 → ¬ x0 = 42 → ¬ x0 = 43 → ¬ x0 = 44 → ¬ x0 = 45 → ¬ x0 = 46 → ¬ x0 = 47 → ¬ x0 = 48 → ¬ x0 = 49 → ¬ x0 = 50 → ¬ x0 = 51 → ¬ x0 = 52 → x0 = 53 → x1 = 0 → ¬ (x2 = 0) → cS d 194 [(.int (1))] (mkH hi hl sw kp) (am_ret (cW cd_195 d Q) 231 [some (.int x0), some (.int x1), some (.int x2)] []))
    (h45 : ¬ x0 = 37 → ¬ x0 = 38 → ¬ x0 = 39 → ¬ x0 = 40 → ¬ x0 = 41 → ¬ x0 = 42 → ¬ x0 = 43 → ¬ x0 = 44 → ¬ x0 = 45 → ¬ x0 = 46 → ¬ x0 = 47 → ¬ x0 = 48 → ¬ x0 = 49 → ¬ x0 = 50 → ¬ x0 = 51 → ¬ x0 = 52 → x0 = 53 → ¬ (x1 = 0) → cS d 194 [(.int (1))] (mkH hi hl sw kp) (am_ret (cW cd_195 d Q) 231 [some (.int x0), some (.int x1), some (.int x2)] []))
    (h46 : ¬ x0 = 37 → ¬ x0 = 38 → ¬ x0 = 39 → ¬ x0 = 40 → ¬ x0 = 41 → ¬ x0 = 42 → ¬ x0 = 43 → ¬ x0 = 44 → ¬ x0 = 45 → ¬ x0 = 46 → ¬ x0 = 47 → ¬ x0 = 48 → ¬ x0 = 49 → ¬ x0 = 50 → ¬ x0 = 51 → ¬ x0 = 52 → ¬ x0 = 53 → x0 = 54 → x1 = 0 → x2 = 0 → cS d 194 [(.int (0))] (mkH hi hl sw kp) (am_ret (cW cd_195 d Q) 231 [some (.int x0), some (.int x1), some (.int x2)] []))
    (h47 : ¬ x0 = 37 → ¬ x0 = 38 → ¬ x0 = 39 → ¬ x0 = 40 → ¬ x0 = 41 → ¬ x0 = 42 → ¬ x0 = 43 → ¬ x0 = 44 → ¬ x0 = 45 → ¬ x0 = 46 → ¬ x0 = 47 → ¬ x0 = 48 → ¬ x0 = 49 → ¬ x0 = 50 → ¬ x0 = 51 → ¬ x0 = 52 → ¬ x0 = 53 → x0 = 54 → x1 = 0 → ¬ (x2 = 0) → cS d 194 [(.int (1))] (mkH hi hl sw kp) (am_ret (cW cd_195 d Q) 231 [some (.int x0), some (.int x1), some (.int x2)] []))
    (h48 : ¬ x0 = 37 → ¬ x0 = 38 → ¬ x0 = 39 → ¬ x0 = 40 → ¬ x0 = 41 → ¬ x0 = 42 → ¬ x0 = 43 → ¬ x0 = 44 → ¬ x0 = 45 → ¬ x0 = 46 → ¬ x0 = 47 → ¬ x0 = 48 → ¬ x0 = 49 → ¬ x0 = 50 → ¬ x0 = 51 → ¬ x0 = 52 → ¬ x0 = 53 → x0 = 54 → ¬ (x1 = 0) → cS d 194 [(.int (1))] (mkH hi hl sw kp) (am_ret (cW cd_195 d Q) 231 [some (.int x0), some (.int x1), some (.int x2)] []))
    (h49 : ¬ x0 = 37 → ¬ x0 = 38 → ¬ x0 = 39 → ¬ x0 = 40 → ¬ x0 = 41 → ¬ x0 = 42 → ¬ x0 = 43 → ¬ x0 = 44 → ¬ x0 = 45 → ¬ x0 = 46 → ¬ x0 = 47 → ¬ x0 = 48 → ¬ x0 = 49 → ¬ x0 = 50 → ¬ x0 = 51 → ¬ x0 = 52 → ¬ x0 = 53 → ¬ x0 = 54 → x0 = 55 → x1 = 0 → x2 = 0 → cS d 194 [(.int (0))] (mkH hi hl sw kp) (am_ret (cW cd_195 d Q) 231 [some (.int x0), some (.int x1), some (.int x2)] []))
    (h50 : ¬ x0 = 37 → ¬ x0 = 38 → ¬ x0 = 39 → ¬ x0 = 40 → ¬ x0 = 41 → ¬ x0 = 42 → ¬ x0 = 43 → ¬ x0 = 44 → ¬ x0 = 45 → ¬ x0 = 46 → ¬ x0 = 47 → ¬ x0 = 48 → ¬ x0 = 49 → ¬ x0 = 50 → ¬ x0 = 51 → ¬ x0 = 52 → ¬ x0 = 53 → ¬ x0 = 54 → x0 = 55 → x1 = 0 → ¬ (x2 = 0) → cS d 194 [(.int (1))] (mkH hi hl sw kp) (am_ret (cW cd_195 d Q) 231 [some (.int x0), some (.int x1), some (.int x2)] []))
    (h51 : ¬ x0 = 37 → ¬ x0 = 38 → ¬ x0 = 39 → ¬ x0 = 40 → ¬ x0 = 41 → ¬ x0 = 42 → ¬ x0 = 43 → ¬ x0 = 44 → ¬ x0 = 45 → ¬ x0 = 46 → ¬ x0 = 47 → ¬ x0 = 48 → ¬ x0 = 49 → ¬ x0 = 50 → ¬ x0 = 51 → ¬ x0 = 52 → ¬ x0 = 53 → ¬ x0 = 54 → x0 = 55 → ¬ (x1 = 0) → cS d 194 [(.int (1))] (mkH hi hl sw kp) (am_ret (cW cd_195 d Q) 231 [some (.int x0), some (.int x1), some (.int x2)] []))
    (h52 : ¬ x0 = 37 → ¬ x0 = 38 → ¬ x0 = 39 → ¬ x0 = 40 → ¬ x0 = 41 → ¬ x0 = 42 → ¬ x0 = 43 → ¬ x0 = 44 → ¬ x0 = 45 → ¬ x0 = 46 → ¬ x0 = 47 → ¬ x0 = 48 → ¬ x0 = 49 → ¬ x0 = 50 → ¬ x0 = 51 → ¬ x0 = 52 → ¬ x0 = 53 → ¬ x0 = 54 → ¬ x0 = 55 → x0 = 56 → x1 = 0 → x2 = 0 → cS d 194 [(.int (0))] (mkH hi hl sw kp) (am_ret (cW cd_195 d Q) 231 [some (.int x0), some (.int x1), some (.int x2)] []))
    (h53 : ¬ x0 = 37 → ¬ x0 = 38 → ¬ x0 = 39 → ¬ x0 = 40 → ¬ x0 = 41 → ¬ x0 = 42 → ¬ x0 = 43 → ¬ x0 = 44 → ¬ x0 = 45 → ¬ x0 = 46 → ¬ x0 = 47 → ¬ x0 = 48 → ¬ x0 = 49 → ¬ x0 = 50 → ¬ x0 = 51 → ¬ x0 = 52 → ¬ x0 = 53 → ¬ x0 = 54 → ¬ x0 = 55 → x0 = 56 → x1 = 0 → ¬ (x2 = 0) → cS d 194 [(.int (1))] (mkH hi hl sw kp) (am_ret (cW cd_195 d Q) 231 [some (.int x0), some (.int x1), some (.int x2)] []))
    (h54 : ¬ x0 = 37 → ¬ x0 = 38 → ¬ x0 = 39 → ¬ x0 = 40 → ¬ x0 = 41 → ¬ x0 = 42 → ¬ x0 = 43 → ¬ x0 = 44 → ¬ x0 = 45 → ¬ x0 = 46 → ¬ x0 = 47 → ¬ x0 = 48 → ¬ x0 = 49 → ¬ x0 = 50 → ¬ x0 = 51 → ¬ x0 = 52 → ¬ x0 = 53 → ¬ x0 = 54 → ¬ x0 = 55 → x0 = 56 → ¬ (x1 = 0) → cS d 194 [(.int (1))] (mkH hi hl sw kp) (am_ret (cW cd_195 d Q) 231 [some (.int x0), some (.int x1), some (.int x2)] []))
    (h55 : ¬ x0 = 37 → ¬ x0 = 38 → ¬ x0 = 39 → ¬ x0 = 40 → ¬ x0 = 41 → ¬ x0 = 42 → ¬ x0 = 43 → ¬ x0 = 44 → ¬ x0 = 45 → ¬ x0 = 46 → ¬ x0 = 47 → ¬ x0 = 48 → ¬ x0 = 49 → ¬ x0 = 50 → ¬ x0 = 51 → ¬ x0 = 52 → ¬ x0 = 53 → ¬ x0 = 54 → ¬ x0 = 55 → ¬ x0 = 56 → x0 = 57 → x1 = 0 → x2 = 0 → cS d 194 [(.int (0))] (mkH hi hl sw kp) (am_ret (cW cd_195 d Q) 231 [some (.int x0), some (.int x1), some (.int x2)] []))
    (h56 : ¬ x0 = 37 → ¬ x0 = 38 → ¬ x0 = 39 → ¬ x0 = 40 → ¬ x0 = 41 → ¬ x0 = 42 → ¬ x0 = 43 → ¬ x0 = 44 → ¬ x0 = 45 → ¬ x0 = 46 → ¬ x0 = 47 → ¬ x0 = 48 → ¬ x0 = 49 → ¬ x0 = 50 → ¬ x0 = 51 → ¬ x0 = 52 → ¬ x0 = 53 → ¬ x0 = 54 → ¬ x0 = 55 → ¬ x0 = 56 → x0 = 57 → x1 = 0 → ¬ (x2 = 0) → cS d 194 [(.int (1))] (mkH hi hl sw kp) (am_ret (cW cd_195 d Q) 231 [some (.int x0), some (.int x1), some (.int x2)] []))
    (h57 : ¬ x0 = 37 → ¬ x0 = 38 → ¬ x0 = 39 → ¬ x0 = 40 → ¬ x0 = 41 → ¬ x0 = 42 → ¬ x0 = 43 → ¬ x0 = 44 → ¬ x0 = 45 → ¬ x0 = 46 → ¬ x0 = 47 → ¬ x0 = 48 → ¬ x0 = 49 → ¬ x0 = 50 → ¬ x0 = 51 → ¬ x0 = 52 → ¬ x0 = 53 → ¬ x0 = 54 → ¬ x0 = 55 → ¬ x0 = 56 → x0 = 57 → ¬ (x1 = 0) → cS d 194 [(.int (1))] (mkH hi hl sw kp) (am_ret (cW cd_195 d Q) 231 [some (.int x0), some (.int x1), some (.int x2)] []))
    (h58 : ¬ x0 = 37 → ¬ x0 = 38 → ¬ x0 = 39 → ¬ x0 = 40 → ¬ x0 = 41 → ¬ x0 = 42 → ¬ x0 = 43 → ¬ x0 = 44 → ¬ x0 = 45 → ¬ x0 = 46 → ¬ x0 = 47 → ¬ x0 = 48 → ¬ x0 = 49 → ¬ x0 = 50 → ¬ x0 = 51 → ¬ x0 = 52 → ¬ x0 = 53 → ¬ x0 = 54 → ¬ x0 = 55 → ¬ x0 = 56 → ¬ x0 = 57 → x0 = 58 → x1 = 0 → x2 = 0 → cS d 194 [(.int (0))] (mkH hi hl sw kp) (am_ret (cW cd_195 d Q) 231 [some (.int x0), some (.int x1), some (.int x2)] []))
    (h59 : ¬ x0 = 37 → ¬ x0 = 38 → ¬ x0 = 39 → ¬ x0 = 40 → ¬ x0 = 41 → ¬ x0 = 42 → ¬ x0 = 43 → ¬ x0 = 44 → ¬ x0 = 45 → ¬ x0 = 46 → ¬ x0 = 47 → ¬ x0 = 48 → ¬ x0 = 49 → ¬ x0 = 50 → ¬ x0 = 51 → ¬ x0 = 52 → ¬ x0 = 53 → ¬ x0 = 54 → ¬ x0 = 55 → ¬ x0 = 56 → ¬ x0 = 57 → x0 = 58 → x1 = 0 → ¬ (x2 = 0) → cS d 194 [(.int (1))] (mkH hi hl sw kp) (am_ret (cW cd_195 d Q) 231 [some (.int x0), some (.int x1), some (.int x2)] []))
    (h60 : ¬ x0 = 37 → ¬ x0 = 38 → ¬ x0 = 39 → ¬ x0 = 40 → ¬ x0 = 41 → ¬ x0 = 42 → ¬ x0 = 43 → ¬ x0 = 44 → ¬ x0 = 45 → ¬ x0 = 46 → ¬ x0 = 47 → ¬ x0 = 48 → ¬ x0 = 49 → ¬ x0 = 50 → ¬ x0 = 51 → ¬ x0 = 52 → ¬ x0 = 53 → ¬ x0 = 54 → ¬ x0 = 55 → ¬ x0 = 56 → ¬ x0 = 57 → x0 = 58 → ¬ (x1 = 0) → cS d 194 [(.int (1))] (mkH hi hl sw kp) (am_ret (cW cd_195 d Q) 231 [some (.int x0), some (.int x1), some (.int x2)] []))
    (h61 : ¬ x0 = 37 → ¬ x0 = 38 → ¬ x0 = 39 → ¬ x0 = 40 → ¬ x0 = 41 → ¬ x0 = 42 → ¬ x0 = 43 → ¬ x0 = 44 → ¬ x0 = 45 → ¬ x0 = 46 → ¬ x0 = 47 → ¬ x0 = 48 → ¬ x0 = 49 → ¬ x0 = 50 → ¬ x0 = 51 → ¬ x0 = 52 → ¬ x0 = 53 → ¬ x0 = 54 → ¬ x0 = 55 → ¬ x0 = 56 → ¬ x0 = 57 → ¬ x0 = 58 → x0 = 59 → x1 = 0 → x2 = 0 → cS d 194 [(.int (0))] (mkH hi hl sw kp) (am_ret (cW cd_195 d Q) 231 [some (.int x0), some (.int x1), some (.int x2)] []))
    (h62 : ¬ x0 = 37 → ¬ x0 = 38 → ¬ x0 = 39 → ¬ x0 = 40 → ¬ x0 = 41 → ¬ x0 = 42 → ¬ x0 = 43 → ¬ x0 = 44 → ¬ x0 = 45 → ¬ x0 = 46 → ¬ x0 = 47 → ¬ x0 = 48 → ¬ x0 = 49 → ¬ x0 = 50 → ¬ x0 = 51 → ¬ x0 = 52 → ¬ x0 = 53 → ¬ x0 = 54 → ¬ x0 = 55 → ¬ x0 = 56 → ¬ x0 = 57 → ¬ x0 = 58 → x0 = 59 → x1 = 0 → ¬ (x2 = 0) → cS d 194 [(.int (1))] (mkH hi hl sw kp) (am_ret (cW cd_195 d Q) 231 [some (.int x0), some (.int x1), some (.int x2)] []))
    (h63 : ¬ x0 = 37 → ¬ x0 = 38 → ¬ x0 = 39 → ¬ x0 = 40 → ¬ x0 = 41 → ¬ x0 = 42 → ¬ x0 = 43 → ¬ x0 = 44 → ¬ x0 = 45 → ¬ x0 = 46 → ¬ x0 = 47 → ¬ x0 = 48 → ¬ x0 = 49 → ¬ x0 = 50 → ¬ x0 = 51 → ¬ x0 = 52 → ¬ x0 = 53 → ¬ x0 = 54 → ¬ x0 = 55 → ¬ x0 = 56 → ¬ x0 = 57 → ¬ x0 = 58 → x0 = 59 → ¬ (x1 = 0) → cS d 194 [(.int (1))] (mkH hi hl sw kp) (am_ret (cW cd_195 d Q) 231 [some (.int x0), some (.int x1), some (.int x2)] []))
    (h64 : ¬ x0 = 37 → ¬ x0 = 38 → ¬ x0 = 39 → ¬ x0 = 40 → ¬ x0 = 41 → ¬ x0 = 42 → ¬ x0 = 43 → ¬ x0 = 44 → ¬ x0 = 45 → ¬ x0 = 46 → ¬ x0 = 47 → ¬ x0 = 48 → ¬ x0 = 49 → ¬ x0 = 50 → ¬ x0 = 51 → ¬ x0 = 52 → ¬ x0 = 53 → ¬ x0 = 54 → ¬ x0 = 55 → ¬ x0 = 56 → ¬ x0 = 57 → ¬ x0 = 58 → ¬ x0 = 59 → x0 = 60 → x2 ≤ x1 → cS d 194 [(.int (0))] (mkH hi hl sw kp) (am_ret (cW cd_195 d Q) 169 [some (.int x0), some (.int x1), some (.int x2)] []))
    (h65 : ¬ x0 = 37 → ¬ x0 = 38 → ¬ x0 = 39 → ¬ x0 = 40 → ¬ x0 = 41 → ¬ x0 = 42 → ¬ x0 = 43 → ¬ x0 = 44 → ¬ x0 = 45 → ¬ x0 = 46 → ¬ x0 = 47 → ¬ x0 = 48 → ¬ x0 = 49 → ¬ x0 = 50 → ¬ x0 = 51 → ¬ x0 = 52 → ¬ x0 = 53 → ¬ x0 = 54 → ¬ x0 = 55 → ¬ x0 = 56 → ¬ x0 = 57 → ¬ x0 = 58 → ¬ x0 = 59 → x0 = 60 → ¬ (x2 ≤ x1) → cS d 194 [(.int (1))] (mkH hi hl sw kp) (am_ret (cW cd_195 d Q) 169 [some (.int x0), some (.int x1), some (.int x2)] []))
    (h66 : ¬ x0 = 37 → ¬ x0 = 38 → ¬ x0 = 39 → ¬ x0 = 40 → ¬ x0 = 41 → ¬ x0 = 42 → ¬ x0 = 43 → ¬ x0 = 44 → ¬ x0 = 45 → ¬ x0 = 46 → ¬ x0 = 47 → ¬ x0 = 48 → ¬ x0 = 49 → ¬ x0 = 50 → ¬ x0 = 51 → ¬ x0 = 52 → ¬ x0 = 53 → ¬ x0 = 54 → ¬ x0 = 55 → ¬ x0 = 56 → ¬ x0 = 57 → ¬ x0 = 58 → ¬ x0 = 59 → ¬ x0 = 60 → x0 = 61 → x1 = x2 → cS d 194 [(.int (1))] (mkH hi hl sw kp) (am_ret (cW cd_195 d Q) 197 [some (.int x0), some (.int x1), some (.int x2)] []))
    (h67 : ¬ x0 = 37 → ¬ x0 = 38 → ¬ x0 = 39 → ¬ x0 = 40 → ¬ x0 = 41 → ¬ x0 = 42 → ¬ x0 = 43 → ¬ x0 = 44 → ¬ x0 = 45 → ¬ x0 = 46 → ¬ x0 = 47 → ¬ x0 = 48 → ¬ x0 = 49 → ¬ x0 = 50 → ¬ x0 = 51 → ¬ x0 = 52 → ¬ x0 = 53 → ¬ x0 = 54 → ¬ x0 = 55 → ¬ x0 = 56 → ¬ x0 = 57 → ¬ x0 = 58 → ¬ x0 = 59 → ¬ x0 = 60 → x0 = 61 → ¬ (x1 = x2) → cS d 194 [(.int (0))] (mkH hi hl sw kp) (am_ret (cW cd_195 d Q) 197 [some (.int x0), some (.int x1), some (.int x2)] []))
    (h68 : ¬ x0 = 37 → ¬ x0 = 38 → ¬ x0 = 39 → ¬ x0 = 40 → ¬ x0 = 41 → ¬ x0 = 42 → ¬ x0 = 43 → ¬ x0 = 44 → ¬ x0 = 45 → ¬ x0 = 46 → ¬ x0 = 47 → ¬ x0 = 48 → ¬ x0 = 49 → ¬ x0 = 50 → ¬ x0 = 51 → ¬ x0 = 52 → ¬ x0 = 53 → ¬ x0 = 54 → ¬ x0 = 55 → ¬ x0 = 56 → ¬ x0 = 57 → ¬ x0 = 58 → ¬ x0 = 59 → ¬ x0 = 60 → ¬ x0 = 61 → x0 = 62 → x1 ≤ x2 → cS d 194 [(.int (0))] (mkH hi hl sw kp) (am_ret (cW cd_195 d Q) 183 [some (.int x0), some (.int x1), some (.int x2)] []))
    (h69 : ¬ x0 = 37 → ¬ x0 = 38 → ¬ x0 = 39 → ¬ x0 = 40 → ¬ x0 = 41 → ¬ x0 = 42 → ¬ x0 = 43 → ¬ x0 = 44 → ¬ x0 = 45 → ¬ x0 = 46 → ¬ x0 = 47 → ¬ x0 = 48 → ¬ x0 = 49 → ¬ x0 = 50 → ¬ x0 = 51 → ¬ x0 = 52 → ¬ x0 = 53 → ¬ x0 = 54 → ¬ x0 = 55 → ¬ x0 = 56 → ¬ x0 = 57 → ¬ x0 = 58 → ¬ x0 = 59 → ¬ x0 = 60 → ¬ x0 = 61 → x0 = 62 → ¬ (x1 ≤ x2) → cS d 194 [(.int (1))] (mkH hi hl sw kp) (am_ret (cW cd_195 d Q) 183 [some (.int x0), some (.int x1), some (.int x2)] []))
    (h70 : ¬ x0 = 37 → ¬ x0 = 38 → ¬ x0 = 39 → ¬ x0 = 40 → ¬ x0 = 41 → ¬ x0 = 42 → ¬ x0 = 43 → ¬ x0 = 44 → ¬ x0 = 45 → ¬ x0 = 46 → ¬ x0 = 47 → ¬ x0 = 48 → ¬ x0 = 49 → ¬ x0 = 50 → ¬ x0 = 51 → ¬ x0 = 52 → ¬ x0 = 53 → ¬ x0 = 54 → ¬ x0 = 55 → ¬ x0 = 56 → ¬ x0 = 57 → ¬ x0 = 58 → ¬ x0 = 59 → ¬ x0 = 60 → ¬ x0 = 61 → ¬ x0 = 62 → x1 = 0 → x2 = 0 → cS d 194 [(.int (0))] (mkH hi hl sw kp) (am_ret (cW cd_195 d Q) 231 [some (.int x0), some (.int x1), some (.int x2)] []))
    (h71 : ¬ x0 = 37 → ¬ x0 = 38 → ¬ x0 = 39 → ¬ x0 = 40 → ¬ x0 = 41 → ¬ x0 = 42 → ¬ x0 = 43 → ¬ x0 = 44 → ¬ x0 = 45 → ¬ x0 = 46 → ¬ x0 = 47 → ¬ x0 = 48 → ¬ x0 = 49 → ¬ x0 = 50 → ¬ x0 = 51 → ¬ x0 = 52 → ¬ x0 = 53 → ¬ x0 = 54 → ¬ x0 = 55 → ¬ x0 = 56 → ¬ x0 = 57 → ¬ x0 = 58 → ¬ x0 = 59 → ¬ x0 = 60 → ¬ x0 = 61 → ¬ x0 = 62 → x1 = 0 → ¬ (x2 = 0) → cS d 194 [(.int (1))] (mkH hi hl sw kp) (am_ret (cW cd_195 d Q) 231 [some (.int x0), some (.int x1), some (.int x2)] []))
    (h72 : ¬ x0 = 37 → ¬ x0 = 38 → ¬ x0 = 39 → ¬ x0 = 40 → ¬ x0 = 41 → ¬ x0 = 42 → ¬ x0 = 43 → ¬ x0 = 44 → ¬ x0 = 45 → ¬ x0 = 46 → ¬ x0 = 47 → ¬ x0 = 48 → ¬ x0 = 49 → ¬ x0 = 50 → ¬ x0 = 51 → ¬ x0 = 52 → ¬ x0 = 53 → ¬ x0 = 54 → ¬ x0 = 55 → ¬ x0 = 56 → ¬ x0 = 57 → ¬ x0 = 58 → ¬ x0 = 59 → ¬ x0 = 60 → ¬ x0 = 61 → ¬ x0 = 62 → ¬ (x1 = 0) → cS d 194 [(.int (1))] (mkH hi hl sw kp) (am_ret (cW cd_195 d Q) 231 [some (.int x0), some (.int x1), some (.int x2)] []))
    : cW cd_195 d Q 0 [some (.int x0), some (.int x1), some (.int x2)] [] (mkH hi hl sw kp) :=
  cW.run (am_in [169, 183, 197, 214, 231]) 9 (And.intro (fun c1 => (And.intro (fun c2 => (cQ.of (h1 c1 c2))) (fun c3 => (And.intro (h2 c1 c3) (cQ.of (h3 c1 c3)))))) (fun c4 => (And.intro (fun c5 => (And.intro (fun c6 => (cC.of (h4 c4 c5 c6))) (fun c7 => (And.intro (fun c8 => (cC.of (h5 c4 c5 c7 c8))) (fun c9 => (cC.of (h6 c4 c5 c7 c9))))))) (fun c10 => (And.intro (fun c11 => (And.intro (fun c12 => (And.intro (fun c13 => (cC.of (h7 c4 c10 c11 c12 c13))) (fun c14 => (cC.of (h8 c4 c10 c11 c12 c14))))) (fun c15 => (cC.of (h9 c4 c10 c11 c15))))) (fun c16 => (And.intro (fun c17 => (And.intro (fun c18 => (And.intro (fun c19 => (cC.of (h10 c4 c10 c16 c17 c18 c19))) (fun c20 => (cC.of (h11 c4 c10 c16 c17 c18 c20))))) (fun c21 => (cC.of (h12 c4 c10 c16 c17 c21))))) (fun c22 => (And.intro (fun c23 => (And.intro (fun c24 => (And.intro (fun c25 => (cC.of (h13 c4 c10 c16 c22 c23 c24 c25))) (fun c26 => (cC.of (h14 c4 c10 c16 c22 c23 c24 c26))))) (fun c27 => (cC.of (h15 c4 c10 c16 c22 c23 c27))))) (fun c28 => (And.intro (fun c29 => (cQ.of (h16 c4 c10 c16 c22 c28 c29))) (fun c30 => (And.intro (fun c31 => (cQ.of (h17 c4 c10 c16 c22 c28 c30 c31))) (fun c32 => (And.intro (fun c33 => (And.intro (fun c34 => (And.intro (fun c35 => (cC.of (h18 c4 c10 c16 c22 c28 c30 c32 c33 c34 c35))) (fun c36 => (cC.of (h19 c4 c10 c16 c22 c28 c30 c32 c33 c34 c36))))) (fun c37 => (cC.of (h20 c4 c10 c16 c22 c28 c30 c32 c33 c37))))) (fun c38 => (And.intro (fun c39 => (cQ.of (h21 c4 c10 c16 c22 c28 c30 c32 c38 c39))) (fun c40 => (And.intro (fun c41 => (And.intro (fun c42 => (And.intro (fun c43 => (cC.of (h22 c4 c10 c16 c22 c28 c30 c32 c38 c40 c41 c42 c43))) (fun c44 => (cC.of (h23 c4 c10 c16 c22 c28 c30 c32 c38 c40 c41 c42 c44))))) (fun c45 => (cC.of (h24 c4 c10 c16 c22 c28 c30 c32 c38 c40 c41 c45))))) (fun c46 => (And.intro (fun c47 => (And.intro (fun c48 => (cQ.of (h25 c4 c10 c16 c22 c28 c30 c32 c38 c40 c46 c47 c48))) (fun c49 => (And.intro (h26 c4 c10 c16 c22 c28 c30 c32 c38 c40 c46 c47 c49) (cQ.of (h27 c4 c10 c16 c22 c28 c30 c32 c38 c40 c46 c47 c49)))))) (fun c50 => (And.intro (fun c51 => (And.intro (fun c52 => (And.intro (fun c53 => (cC.of (h28 c4 c10 c16 c22 c28 c30 c32 c38 c40 c46 c50 c51 c52 c53))) (fun c54 => (cC.of (h29 c4 c10 c16 c22 c28 c30 c32 c38 c40 c46 c50 c51 c52 c54))))) (fun c55 => (cC.of (h30 c4 c10 c16 c22 c28 c30 c32 c38 c40 c46 c50 c51 c55))))) (fun c56 => (And.intro (fun c57 => (And.intro (fun c58 => (And.intro (fun c59 => (cC.of (h31 c4 c10 c16 c22 c28 c30 c32 c38 c40 c46 c50 c56 c57 c58 c59))) (fun c60 => (cC.of (h32 c4 c10 c16 c22 c28 c30 c32 c38 c40 c46 c50 c56 c57 c58 c60))))) (fun c61 => (cC.of (h33 c4 c10 c16 c22 c28 c30 c32 c38 c40 c46 c50 c56 c57 c61))))) (fun c62 => (And.intro (fun c63 => (And.intro (fun c64 => (And.intro (fun c65 => (cC.of (h34 c4 c10 c16 c22 c28 c30 c32 c38 c40 c46 c50 c56 c62 c63 c64 c65))) (fun c66 => (cC.of (h35 c4 c10 c16 c22 c28 c30 c32 c38 c40 c46 c50 c56 c62 c63 c64 c66))))) (fun c67 => (cC.of (h36 c4 c10 c16 c22 c28 c30 c32 c38 c40 c46 c50 c56 c62 c63 c67))))) (fun c68 => (And.intro (fun c69 => (And.intro (fun c70 => (And.intro (fun c71 => (cC.of (h37 c4 c10 c16 c22 c28 c30 c32 c38 c40 c46 c50 c56 c62 c68 c69 c70 c71))) (fun c72 => (cC.of (h38 c4 c10 c16 c22 c28 c30 c32 c38 c40 c46 c50 c56 c62 c68 c69 c70 c72))))) (fun c73 => (cC.of (h39 c4 c10 c16 c22 c28 c30 c32 c38 c40 c46 c50 c56 c62 c68 c69 c73))))) (fun c74 => (And.intro (fun c75 => (And.intro (fun c76 => (And.intro (fun c77 => (cC.of (h40 c4 c10 c16 c22 c28 c30 c32 c38 c40 c46 c50 c56 c62 c68 c74 c75 c76 c77))) (fun c78 => (cC.of (h41 c4 c10 c16 c22 c28 c30 c32 c38 c40 c46 c50 c56 c62 c68 c74 c75 c76 c78))))) (fun c79 => (cC.of (h42 c4 c10 c16 c22 c28 c30 c32 c38 c40 c46 c50 c56 c62 c68 c74 c75 c79))))) (fun c80 => (And.intro (fun c81 => (And.intro (fun c82 => (And.intro (fun c83 => (cC.of (h43 c4 c10 c16 c22 c28 c30 c32 c38 c40 c46 c50 c56 c62 c68 c74 c80 c81 c82 c83))) (fun c84 => (cC.of (h44 c4 c10 c16 c22 c28 c30 c32 c38 c40 c46 c50 c56 c62 c68 c74 c80 c81 c82 c84))))) (fun c85 => (cC.of (h45 c4 c10 c16 c22 c28 c30 c32 c38 c40 c46 c50 c56 c62 c68 c74 c80 c81 c85))))) (fun c86 => (And.intro (fun c87 => (And.intro (fun c88 => (And.intro (fun c89 => (cC.of (h46 c4 c10 c16 c22 c28 c30 c32 c38 c40 c46 c50 c56 c62 c68 c74 c80 c86 c87 c88 c89))) (fun c90 => (cC.of (h47 c4 c10 c16 c22 c28 c30 c32 c38 c40 c46 c50 c56 c62 c68 c74 c80 c86 c87 c88 c90))))) (fun c91 => (cC.of (h48 c4 c10 c16 c22 c28 c30 c32 c38 c40 c46 c50 c56 c62 c68 c74 c80 c86 c87 c91))))) (fun c92 => (And.intro (fun c93 => (And.intro (fun c94 => (And.intro (fun c95 => (cC.of (h49 c4 c10 c16 c22 c28 c30 c32 c38 c40 c46 c50 c56 c62 c68 c74 c80 c86 c92 c93 c94 c95))) (fun c96 => (cC.of (h50 c4 c10 c16 c22 c28 c30 c32 c38 c40 c46 c50 c56 c62 c68 c74 c80 c86 c92 c93 c94 c96))))) (fun c97 => (cC.of (h51 c4 c10 c16 c22 c28 c30 c32 c38 c40 c46 c50 c56 c62 c68 c74 c80 c86 c92 c93 c97))))) (fun c98 => (And.intro (fun c99 => (And.intro (fun c100 => (And.intro (fun c101 => (cC.of (h52 c4 c10 c16 c22 c28 c30 c32 c38 c40 c46 c50 c56 c62 c68 c74 c80 c86 c92 c98 c99 c100 c101))) (fun c102 => (cC.of (h53 c4 c10 c16 c22 c28 c30 c32 c38 c40 c46 c50 c56 c62 c68 c74 c80 c86 c92 c98 c99 c100 c102))))) (fun c103 => (cC.of (h54 c4 c10 c16 c22 c28 c30 c32 c38 c40 c46 c50 c56 c62 c68 c74 c80 c86 c92 c98 c99 c103))))) (fun c104 => (And.intro (fun c105 => (And.intro (fun c106 => (And.intro (fun c107 => (cC.of (h55 c4 c10 c16 c22 c28 c30 c32 c38 c40 c46 c50 c56 c62 c68 c74 c80 c86 c92 c98 c104 c105 c106 c107))) (fun c108 => (cC.of (h56 c4 c10 c16 c22 c28 c30 c32 c38 c40 c46 c50 c56 c62 c68 c74 c80 c86 c92 c98 c104 c105 c106 c108))))) (fun c109 => (cC.of (h57 c4 c10 c16 c22 c28 c30 c32 c38 c40 c46 c50 c56 c62 c68 c74 c80 c86 c92 c98 c104 c105 c109))))) (fun c110 => (And.intro (fun c111 => (And.intro (fun c112 => (And.intro (fun c113 => (cC.of (h58 c4 c10 c16 c22 c28 c30 c32 c38 c40 c46 c50 c56 c62 c68 c74 c80 c86 c92 c98 c104 c110 c111 c112 c113))) (fun c114 => (cC.of (h59 c4 c10 c16 c22 c28 c30 c32 c38 c40 c46 c50 c56 c62 c68 c74 c80 c86 c92 c98 c104 c110 c111 c112 c114))))) (fun c115 => (cC.of (h60 c4 c10 c16 c22 c28 c30 c32 c38 c40 c46 c50 c56 c62 c68 c74 c80 c86 c92 c98 c104 c110 c111 c115))))) (fun c116 => (And.intro (fun c117 => (And.intro (fun c118 => (And.intro (fun c119 => (cC.of (h61 c4 c10 c16 c22 c28 c30 c32 c38 c40 c46 c50 c56 c62 c68 c74 c80 c86 c92 c98 c104 c110 c116 c117 c118 c119))) (fun c120 => (cC.of (h62 c4 c10 c16 c22 c28 c30 c32 c38 c40 c46 c50 c56 c62 c68 c74 c80 c86 c92 c98 c104 c110 c116 c117 c118 c120))))) (fun c121 => (cC.of (h63 c4 c10 c16 c22 c28 c30 c32 c38 c40 c46 c50 c56 c62 c68 c74 c80 c86 c92 c98 c104 c110 c116 c117 c121))))) (fun c122 => (And.intro (fun c123 => (And.intro (fun c124 => (cC.of (h64 c4 c10 c16 c22 c28 c30 c32 c38 c40 c46 c50 c56 c62 c68 c74 c80 c86 c92 c98 c104 c110 c116 c122 c123 c124))) (fun c125 => (cC.of (h65 c4 c10 c16 c22 c28 c30 c32 c38 c40 c46 c50 c56 c62 c68 c74 c80 c86 c92 c98 c104 c110 c116 c122 c123 c125))))) (fun c126 => (And.intro (fun c127 => (And.intro (fun c128 => (cC.of (h66 c4 c10 c16 c22 c28 c30 c32 c38 c40 c46 c50 c56 c62 c68 c74 c80 c86 c92 c98 c104 c110 c116 c122 c126 c127 c128))) (fun c129 => (cC.of (h67 c4 c10 c16 c22 c28 c30 c32 c38 c40 c46 c50 c56 c62 c68 c74 c80 c86 c92 c98 c104 c110 c116 c122 c126 c127 c129))))) (fun c130 => (And.intro (fun c131 => (And.intro (fun c132 => (cC.of (h68 c4 c10 c16 c22 c28 c30 c32 c38 c40 c46 c50 c56 c62 c68 c74 c80 c86 c92 c98 c104 c110 c116 c122 c126 c130 c131 c132))) (fun c133 => (cC.of (h69 c4 c10 c16 c22 c28 c30 c32 c38 c40 c46 c50 c56 c62 c68 c74 c80 c86 c92 c98 c104 c110 c116 c122 c126 c130 c131 c133))))) (fun c134 => (And.intro (fun c135 => (And.intro (fun c136 => (cC.of (h70 c4 c10 c16 c22 c28 c30 c32 c38 c40 c46 c50 c56 c62 c68 c74 c80 c86 c92 c98 c104 c110 c116 c122 c126 c130 c134 c135 c136))) (fun c137 => (cC.of (h71 c4 c10 c16 c22 c28 c30 c32 c38 c40 c46 c50 c56 c62 c68 c74 c80 c86 c92 c98 c104 c110 c116 c122 c126 c130 c134 c135 c137))))) (fun c138 => (cC.of (h72 c4 c10 c16 c22 c28 c30 c32 c38 c40 c46 c50 c56 c62 c68 c74 c80 c86 c92 c98 c104 c110 c116 c122 c126 c130 c134 c138))))))))))))))))))))))))))))))))))))))))))))))))))))))))
theorem e_195 {x0 : Int32} {x1 : Int32} {x2 : Int32}
    (h1 : x0 = 37 → x2 = 0 → Q (some (.int (0))) (mkH hi hl sw kp))
    (h2 : x0 = 37 → ¬ (x2 = 0) → ¬ x2 = 0)
    (h3 : x0 = 37 → ¬ (x2 = 0) → Q (some (.int (x1 - x1 / x2 * x2))) (mkH hi hl sw kp))
    (h4 : ¬ x0 = 37 → x0 = 38 → x1 = 0 → cS d 194 [(.int (0))] (mkH hi hl sw kp) (am_ret (cW cd_195 d Q) 214 [some (.int x0), some (.int x1), some (.int x2)] []))
    (h5 : ¬ x0 = 37 → x0 = 38 → ¬ (x1 = 0) → x2 = 0 → cS d 194 [(.int (0))] (mkH hi hl sw kp) (am_ret (cW cd_195 d Q) 214 [some (.int x0), some (.int x1), some (.int x2)] []))
    (h6 : ¬ x0 = 37 → x0 = 38 → ¬ (x1 = 0) → ¬ (x2 = 0) → cS d 194 [(.int (1))] (mkH hi hl sw kp) (am_ret (cW cd_195 d Q) 214 [some (.int x0), some (.int x1), some (.int x2)] []))
    (h7 : ¬ x0 = 37 → ¬ x0 = 38 → x0 = 39 → x1 = 0 → x2 = 0 → cS d 194 [(.int (0))] (mkH hi hl sw kp) (am_ret (cW cd_195 d Q) 231 [some (.int x0), some (.int x1), some (.int x2)] []))
    (h8 : ¬ x0 = 37 → ¬ x0 = 38 → x0 = 39 → x1 = 0 → ¬ (x2 = 0) → cS d 194 [(.int (1))] (mkH hi hl sw kp) (am_ret (cW cd_195 d Q) 231 [some (.int x0), some (.int x1), some (.int x2)] []))
    (h9 : ¬ x0 = 37 → ¬ x0 = 38 → x0 = 39 → ¬ (x1 = 0) → cS d 194 [(.int (1))] (mkH hi hl sw kp) (am_ret (cW cd_195 d Q) 231 [some (.int x0), some (.int x1), some (.int x2)] []))
    (h10 : ¬ x0 = 37 → ¬ x0 = 38 → ¬ x0 = 39 → x0 = 40 → x1 = 0 → x2 = 0 → cS d 194 [(.int (0))] (mkH hi hl sw kp) (am_ret (cW cd_195 d Q) 231 [some (.int x0), some (.int x1), some (.int x2)] []))
    (h11 : ¬ x0 = 37 → ¬ x0 = 38 → ¬ x0 = 39 → x0 = 40 → x1 = 0 → ¬ (x2 = 0) → cS d 194 [(.int (1))] (mkH hi hl sw kp) (am_ret (cW cd_195 d Q) 231 [some (.int x0), some (.int x1), some (.int x2)] []))
    (h12 : ¬ x0 = 37 → ¬ x0 = 38 → ¬ x0 = 39 → x0 = 40 → ¬ (x1 = 0) → cS d 194 [(.int (1))] (mkH hi hl sw kp) (am_ret (cW cd_195 d Q) 231 [some (.int x0), some (.int x1), some (.int x2)] []))
    (h13 : ¬ x0 = 37 → ¬ x0 = 38 → ¬ x0 = 39 → ¬ x0 = 40 → x0 = 41 → x1 = 0 → x2 = 0 → cS d 194 [(.int (0))] (mkH hi hl sw kp) (am_ret (cW cd_195 d Q) 231 [some (.int x0), some (.int x1), some (.int x2)] []))
    (h14 : ¬ x0 = 37 → ¬ x0 = 38 → ¬ x0 = 39 → ¬ x0 = 40 → x0 = 41 → x1 = 0 → ¬ (x2 = 0) → cS d 194 [(.int (1))] (mkH hi hl sw kp) (am_ret (cW cd_195 d Q) 231 [some (.int x0), some (.int x1), some (.int x2)] []))
    (h15 : ¬ x0 = 37 → ¬ x0 = 38 → ¬ x0 = 39 → ¬ x0 = 40 → x0 = 41 → ¬ (x1 = 0) → cS d 194 [(.int (1))] (mkH hi hl sw kp) (am_ret (cW cd_195 d Q) 231 [some (.int x0), some (.int x1), some (.int x2)] []))
    (h16 : ¬ x0 = 37 → ¬ x0 = 38 → ¬ x0 = 39 → ¬ x0 = 40 → ¬ x0 = 41 → x0 = 42 → Q (some (.int (x1 * x2))) (mkH hi hl sw kp))
    (h17 : ¬ x0 = 37 → ¬ x0 = 38 → ¬ x0 = 39 → ¬ x0 = 40 → ¬ x0 = 41 → ¬ x0 = 42 → x0 = 43 → Q (some (.int (x1 + x2))) (mkH hi hl sw kp))
    (h18 : ¬ x0 = 37 → ¬ x0 = 38 → ¬ x0 = 39 → ¬ x0 = 40 → ¬ x0 = 41 → ¬ x0 = 42 → ¬ x0 = 43 → x0 = 44 → x1 = 0 → x2 = 0 → cS d 194 [(.int (0))] (mkH hi hl sw kp) (am_ret (cW cd_195 d Q) 231 [some (.int x0), some (.int x1), some (.int x2)] []))
    (h19 : ¬ x0 = 37 → ¬ x0 = 38 → ¬ x0 = 39 → ¬ x0 = 40 → ¬ x0 = 41 → ¬ x0 = 42 → ¬ x0 = 43 → x0 = 44 → x1 = 0 → ¬ (x2 = 0) → cS d 194 [(.int (1))] (mkH hi hl sw kp) (am_ret (cW cd_195 d Q) 231 [some (.int x0), some (.int x1), some (.int x2)] []))
    (h20 : ¬ x0 = 37 → ¬ x0 = 38 → ¬ x0 = 39 → ¬ x0 = 40 → ¬ x0 = 41 → ¬ x0 = 42 → ¬ x0 = 43 → x0 = 44 → ¬ (x1 = 0) → cS d 194 [(.int (1))] (mkH hi hl sw kp) (am_ret (cW cd_195 d Q) 231 [some (.int x0), some (.int x1), some (.int x2)] []))
    (h21 : ¬ x0 = 37 → ¬ x0 = 38 → ¬ x0 = 39 → ¬ x0 = 40 → ¬ x0 = 41 → ¬ x0 = 42 → ¬ x0 = 43 → ¬ x0 = 44 → x0 = 45 → Q (some (.int (x1 - x2))) (mkH hi hl sw kp))
    (h22 : ¬ x0 = 37 → ¬ x0 = 38 → ¬ x0 = 39 → ¬ x0 = 40 → ¬ x0 = 41 → ¬ x0 = 42 → ¬ x0 = 43 → ¬ x0 = 44 → ¬ x0 = 45 → x0 = 46 → x1 = 0 → x2 = 0 → cS d 194 [(.int (0))] (mkH hi hl sw kp) (am_ret (cW cd_195 d Q) 231 [some (.int x0), some (.int x1), some (.int x2)] []))
    (h23 : ¬ x0 = 37 → ¬ x0 = 38 → ¬ x0 = 39 → ¬ x0 = 40 → ¬ x0 = 41 → ¬ x0 = 42 → ¬ x0 = 43 → ¬ x0 = 44 → ¬ x0 = 45 → x0 = 46 → x1 = 0 → ¬ (x2 = 0) → cS d 194 [(.int (1))] (mkH hi hl sw kp) (am_ret (cW cd_195 d Q) 231 [some (.int x0), some (.int x1), some (.int x2)] []))
    (h24 : ¬ x0 = 37 → ¬ x0 = 38 → ¬ x0 = 39 → ¬ x0 = 40 → ¬ x0 = 41 → ¬ x0 = 42 → ¬ x0 = 43 → ¬ x0 = 44 → ¬ x0 = 45 → x0 = 46 → ¬ (x1 = 0) → cS d 194 [(.int (1))] (mkH hi hl sw kp) (am_ret (cW cd_195 d Q) 231 [some (.int x0), some (.int x1), some (.int x2)] []))
    (h25 : ¬ x0 = 37 → ¬ x0 = 38 → ¬ x0 = 39 → ¬ x0 = 40 → ¬ x0 = 41 → ¬ x0 = 42 → ¬ x0 = 43 → ¬ x0 = 44 → ¬ x0 = 45 → ¬ x0 = 46 → x0 = 47 → x2 = 0 → Q (some (.int (0))) (mkH hi hl sw kp))
    (h26 : ¬ x0 = 37 → ¬ x0 = 38 → ¬ x0 = 39 → ¬ x0 = 40 → ¬ x0 = 41 → ¬ x0 = 42 → ¬ x0 = 43 → ¬ x0 = 44 → ¬ x0 = 45 → ¬ x0 = 46 → x0 = 47 → ¬ (x2 = 0) → ¬ x2 = 0)
    (h27 : ¬ x0 = 37 → ¬ x0 = 38 → ¬ x0 = 39 → ¬ x0 = 40 → ¬ x0 = 41 → ¬ x0 = 42 → ¬ x0 = 43 → ¬ x0 = 44 → ¬ x0 = 45 → ¬ x0 = 46 → x0 = 47 → ¬ (x2 = 0) → Q (some (.int (x1 / x2))) (mkH hi hl sw kp))
    (h28 : ¬ x0 = 37 → ¬ x0 = 38 → ¬ x0 = 39 → ¬ x0 = 40 → ¬ x0 = 41 → ¬ x0 = 42 → ¬ x0 = 43 → ¬ x0 = 44 → ¬ x0 = 45 → ¬ x0 = 46 → ¬ x0 = 47 → x0 = 48 → x1 = 0 → x2 = 0 → cS d 194 [(.int (0))] (mkH hi hl sw kp) (am_ret (cW cd_195 d Q) 231 [some (.int x0), some (.int x1), some (.int x2)] []))
    (h29 : ¬ x0 = 37 → ¬ x0 = 38 → ¬ x0 = 39 → ¬ x0 = 40 → ¬ x0 = 41 → ¬ x0 = 42 → ¬ x0 = 43 → ¬ x0 = 44 → ¬ x0 = 45 → ¬ x0 = 46 → ¬ x0 = 47 → x0 = 48 → x1 = 0 → ¬ (x2 = 0) → cS d 194 [(.int (1))] (mkH hi hl sw kp) (am_ret (cW cd_195 d Q) 231 [some (.int x0), some (.int x1), some (.int x2)] []))
    (h30 : ¬ x0 = 37 → ¬ x0 = 38 → ¬ x0 = 39 → ¬ x0 = 40 → ¬ x0 = 41 → ¬ x0 = 42 → ¬ x0 = 43 → ¬ x0 = 44 → ¬ x0 = 45 → ¬ x0 = 46 → ¬ x0 = 47 → x0 = 48 → ¬ (x1 = 0) → cS d 194 [(.int (1))] (mkH hi hl sw kp) (am_ret (cW cd_195 d Q) 231 [some (.int x0), some (.int x1), some (.int x2)] []))
    (h31 : ¬ x0 = 37 → ¬ x0 = 38 → ¬ x0 = 39 → ¬ x0 = 40 → ¬ x0 = 41 → ¬ x0 = 42 → ¬ x0 = 43 → ¬ x0 = 44 → ¬ x0 = 45 → ¬ x0 = 46 → ¬ x0 = 47 → ¬ x0 = 48 → x0 = 49 → x1 = 0 → x2 = 0 → cS d 194 [(.int (0))] (mkH hi hl sw kp) (am_ret (cW cd_195 d Q) 231 [some (.int x0), some (.int x1), some (.int x2)] []))
    (h32 : ¬ x0 = 37 → ¬ x0 = 38 → ¬ x0 = 39 → ¬ x0 = 40 → ¬ x0 = 41 → ¬ x0 = 42 → ¬ x0 = 43 → ¬ x0 = 44 → ¬ x0 = 45 → ¬ x0 = 46 → ¬ x0 = 47 → ¬ x0 = 48 → x0 = 49 → x1 = 0 → ¬ (x2 = 0) → cS d 194 [(.int (1))] (mkH hi hl sw kp) (am_ret (cW cd_195 d Q) 231 [some (.int x0), some (.int x1), some (.int x2)] []))
    (h33 : ¬ x0 = 37 → ¬ x0 = 38 → ¬ x0 = 39 → ¬ x0 = 40 → ¬ x0 = 41 → ¬ x0 = 42 → ¬ x0 = 43 → ¬ x0 = 44 → ¬ x0 = 45 → ¬ x0 = 46 → ¬ x0 = 47 → ¬ x0 = 48 → x0 = 49 → ¬ (x1 = 0) → cS d 194 [(.int (1))] (mkH hi hl sw kp) (am_ret (cW cd_195 d Q) 231 [some (.int x0), some (.int x1), some (.int x2)] []))
    (h34 : ¬ x0 = 37 → ¬ x0 = 38 → ¬ x0 = 39 → ¬ x0 = 40 → ¬ x0 = 41 → ¬ x0 = 42 → ¬ x0 = 43 → ¬ x0 = 44 → ¬ x0 = 45 → ¬ x0 = 46 → ¬ x0 = 47 → ¬ x0 = 48 → ¬ x0 = 49 → x0 = 50 → x1 = 0 → x2 = 0 → cS d 194 [(.int (0))] (mkH hi hl sw kp) (am_ret (cW cd_195 d Q) 231 [some (.int x0), some (.int x1), some (.int x2)] []))
    (h35 : ¬ x0 = 37 → ¬ x0 = 38 → ¬ x0 = 39 → ¬ x0 = 40 → ¬ x0 = 41 → ¬ x0 = 42 → ¬ x0 = 43 → ¬ x0 = 44 → ¬ x0 = 45 → ¬ x0 = 46 → ¬ x0 = 47 → ¬ x0 = 48 → ¬ x0 = 49 → x0 = 50 → x1 = 0 → ¬ (x2 = 0) → cS d 194 [(.int (1))] (mkH hi hl sw kp) (am_ret (cW cd_195 d Q) 231 [some (.int x0), some (.int x1), some (.int x2)] []))
    (h36 : ¬ x0 = 37 → ¬ x0 = 38 → ¬ x0 = 39 → ¬ x0 = 40 → ¬ x0 = 41 → ¬ x0 = 42 → ¬ x0 = 43 → ¬ x0 = 44 → ¬ x0 = 45 → ¬ x0 = 46 → ¬ x0 = 47 → ¬ x0 = 48 → ¬ x0 = 49 → x0 = 50 → ¬ (x1 = 0) → cS d 194 [(.int (1))] (mkH hi hl sw kp) (am_ret (cW cd_195 d Q) 231 [some (.int x0), some (.int x1), some (.int x2)] []))
    (h37 : ¬ x0 = 37 → ¬ x0 = 38 → ¬ x0 = 39 → ¬ x0 = 40 → ¬ x0 = 41 → ¬ x0 = 42 → ¬ x0 = 43 → ¬ x0 = 44 → ¬ x0 = 45 → ¬ x0 = 46 → ¬ x0 = 47 → ¬ x0 = 48 → ¬ x0 = 49 → ¬ x0 = 50 → x0 = 51 → x1 = 0 → x2 = 0 → cS d 194 [(.int (0))] (mkH hi hl sw kp) (am_ret (cW cd_195 d Q) 231 [some (.int x0), some (.int x1), some (.int x2)] []))
    (h38 : ¬ x0 = 37 → ¬ x0 = 38 → ¬ x0 = 39 → ¬ x0 = 40 → ¬ x0 = 41 → ¬ x0 = 42 → ¬ x0 = 43 → ¬ x0 = 44 → ¬ x0 = 45 → ¬ x0 = 46 → ¬ x0 = 47 → ¬ x0 = 48 → ¬ x0 = 49 → ¬ x0 = 50 → x0 = 51 → x1 = 0 → ¬ (x2 = 0) → cS d 194 [(.int (1))] (mkH hi hl sw kp) (am_ret (cW cd_195 d Q) 231 [some (.int x0), some (.int x1), some (.int x2)] []))
    (h39 : ¬ x0 = 37 → ¬ x0 = 38 → ¬ x0 = 39 → ¬ x0 = 40 → ¬ x0 = 41 → ¬ x0 = 42 → ¬ x0 = 43 → ¬ x0 = 44 → ¬ x0 = 45 → ¬ x0 = 46 → ¬ x0 = 47 → ¬ x0 = 48 → ¬ x0 = 49 → ¬ x0 = 50 → x0 = 51 → ¬ (x1 = 0) → cS d 194 [(.int (1))] (mkH hi hl sw kp) (am_ret (cW cd_195 d Q) 231 [some (.int x0), some (.int x1), some (.int x2)] []))
    (h40 : ¬ x0 = 37 → ¬ x0 = 38 → ¬ x0 = 39 → ¬ x0 = 40 → ¬ x0 = 41 → ¬ x0 = 42 → ¬ x0 = 43 → ¬ x0 = 44 → ¬ x0 = 45 → ¬ x0 = 46 → ¬ x0 = 47 → ¬ x0 = 48 → ¬ x0 = 49 → ¬ x0 = 50 → ¬ x0 = 51 → x0 = 52 → x1 = 0 → x2 = 0 → cS d 194 [(.int (0))] (mkH hi hl sw kp) (am_ret (cW cd_195 d Q) 231 [some (.int x0), some (.int x1), some (.int x2)] []))
    (h41 : ¬ x0 = 37 → ¬ x0 = 38 → ¬ x0 = 39 → ¬ x0 = 40 → ¬ x0 = 41 → ¬ x0 = 42 → ¬ x0 = 43 → ¬ x0 = 44 → ¬ x0 = 45 → ¬ x0 = 46 → ¬ x0 = 47 → ¬ x0 = 48 → ¬ x0 = 49 → ¬ x0 = 50 → ¬ x0 = 51 → x0 = 52 → x1 = 0 → ¬ (x2 = 0) → cS d 194 [(.int (1))] (mkH hi hl sw kp) (am_ret (cW cd_195 d Q) 231 [some (.int x0), some (.int x1), some (.int x2)] []))
    (h42 : ¬ x0 = 37 → ¬ x0 = 38 → ¬ x0 = 39 → ¬ x0 = 40 → ¬ x0 = 41 → ¬ x0 = 42 → ¬ x0 = 43 → ¬ x0 = 44 → ¬ x0 = 45 → ¬ x0 = 46 → ¬ x0 = 47 → ¬ x0 = 48 → ¬ x0 = 49 → ¬ x0 = 50 → ¬ x0 = 51 → x0 = 52 → ¬ (x1 = 0) → cS d 194 [(.int (1))] (mkH hi hl sw kp) (am_ret (cW cd_195 d Q) 231 [some (.int x0), some (.int x1), some (.int x2)] []))
    (h43 : ¬ x0 = 37 → ¬ x0 = 38 → ¬ x0 = 39 → ¬ x0 = 40 → ¬ x0 = 41 → ¬ x0 = 42 → ¬ x0 = 43 → ¬ x0 = 44 → ¬ x0 = 45 → ¬ x0 = 46 → ¬ x0 = 47 → ¬ x0 = 48 → ¬ x0 = 49 → ¬ x0 = 50 → ¬ x0 = 51 → ¬ x0 = 52 → x0 = 53 → x1 = 0 → x2 = 0 → cS d 194 [(.int (0))] (mkH hi hl sw kp) (am_ret (cW cd_195 d Q) 231 [some (.int x0), some (.int x1), some (.int x2)] []))
    (h44 : ¬ x0 = 37 → ¬ x0 = 38 → ¬ x0 = 39 → ¬ x0 = 40 → ¬ x0 = 41 → ¬ x0 = 42 → ¬ x0 = 43 → ¬ x0 = 44 → ¬ x0 = 45 → ¬ x0 = 46 → ¬ x0 = 47 → ¬ x0 = 48 → ¬ x0 = 49 → ¬ x0 = 50 → ¬ x0 = 51 → ¬ x0 = 52 → x0 = 53 → x1 = 0 → ¬ (x2 = 0) → cS d 194 [(.int (1))] (mkH hi hl sw kp) (am_ret (cW cd_195 d Q) 231 [some (.int x0), some (.int x1), some (.int x2)] []))
    (h45 : ¬ x0 = 37 → ¬ x0 = 38 → ¬ x0 = 39 → ¬ x0 = 40 → ¬ x0 = 41 → ¬ x0 = 42 → ¬ x0 = 43 → ¬ x0 = 44 → ¬ x0 = 45 → ¬ x0 = 46 → ¬ x0 = 47 → ¬ x0 = 48 → ¬ x0 = 49 → ¬ x0 = 50 → ¬ x0 = 51 → ¬ x0 = 52 → x0 = 53 → ¬ (x1 = 0) → cS d 194 [(.int (1))] (mkH hi hl sw kp) (am_ret (cW cd_195 d Q) 231 [some (.int x0), some (.int x1), some (.int x2)] []))
    (h46 : ¬ x0 = 37 → ¬ x0 = 38 → ¬ x0 = 39 → ¬ x0 = 40 → ¬ x0 = 41 → ¬ x0 = 42 → ¬ x0 = 43 → ¬ x0 = 44 → ¬ x0 = 45 → ¬ x0 = 46 → ¬ x0 = 47 → ¬ x0 = 48 → ¬ x0 = 49 → ¬ x0 = 50 → ¬ x0 = 51 → ¬ x0 = 52 → ¬ x0 = 53 → x0 = 54 → x1 = 0 → x2 = 0 → cS d 194 [(.int (0))] (mkH hi hl sw kp) (am_ret (cW cd_195 d Q) 231 [some (.int x0), some (.int x1), some (.int x2)] []))
    (h47 : ¬ x0 = 37 → ¬ x0 = 38 → ¬ x0 = 39 → ¬ x0 = 40 → ¬ x0 = 41 → ¬ x0 = 42 → ¬ x0 = 43 → ¬ x0 = 44 → ¬ x0 = 45 → ¬ x0 = 46 → ¬ x0 = 47 → ¬ x0 = 48 → ¬ x0 = 49 → ¬ x0 = 50 → ¬ x0 = 51 → ¬ x0 = 52 → ¬ x0 = 53 → x0 = 54 → x1 = 0 → ¬ (x2 = 0) → cS d 194 [(.int (1))] (mkH hi hl sw kp) (am_ret (cW cd_195 d Q) 231 [some (.int x0), some (.int x1), some (.int x2)] []))
    (h48 : ¬ x0 = 37 → ¬ x0 = 38 → ¬ x0 = 39 → ¬ x0 = 40 → ¬ x0 = 41 → ¬ x0 = 42 → ¬ x0 = 43 → ¬ x0 = 44 → ¬ x0 = 45 → ¬ x0 = 46 → ¬ x0 = 47 → ¬ x0 = 48 → ¬ x0 = 49 → ¬ x0 = 50 → ¬ x0 = 51 → ¬ x0 = 52 → ¬ x0 = 53 → x0 = 54 → ¬ (x1 = 0) → cS d 194 [(.int (1))] (mkH hi hl sw kp) (am_ret (cW cd_195 d Q) 231 [some (.int x0), some (.int x1), some (.int x2)] []))
    (h49 : ¬ x0 = 37 → ¬ x0 = 38 → ¬ x0 = 39 → ¬ x0 = 40 → ¬ x0 = 41 → ¬ x0 = 42 → ¬ x0 = 43 → ¬ x0 = 44 → ¬ x0 = 45 → ¬ x0 = 46 → ¬ x0 = 47 → ¬ x0 = 48 → ¬ x0 = 49 → ¬ x0 = 50 → ¬ x0 = 51 → ¬ x0 = 52 → ¬ x0 = 53 → ¬ x0 = 54 → x0 = 55 → x1 = 0 → x2 = 0 → cS d 194 [(.int (0))] (mkH hi hl sw kp) (am_ret (cW cd_195 d Q) 231 [some (.int x0), some (.int x1), some (.int x2)] []))
    (h50 : ¬ x0 = 37 → ¬ x0 = 38 → ¬ x0 = 39 → ¬ x0 = 40 → ¬ x0 = 41 → ¬ x0 = 42 → ¬ x0 = 43 → ¬ x0 = 44 → ¬ x0 = 45 → ¬ x0 = 46 → ¬ x0 = 47 → ¬ x0 = 48 → ¬ x0 = 49 → ¬ x0 = 50 → ¬ x0 = 51 → ¬ x0 = 52 → ¬ x0 = 53 → ¬ x0 = 54 → x0 = 55 → x1 = 0 → ¬ (x2 = 0) → cS d 194 [(.int (1))] (mkH hi hl sw kp) (am_ret (cW cd_195 d Q) 231 [some (.int x0), some (.int x1), some (.int x2)] []))
    (h51 : ¬ x0 = 37 → ¬ x0 = 38 → ¬ x0 = 39 → ¬ x0 = 40 → ¬ x0 = 41 → ¬ x0 = 42 → ¬ x0 = 43 → ¬ x0 = 44 → ¬ x0 = 45 → ¬ x0 = 46 → ¬ x0 = 47 → ¬ x0 = 48 → ¬ x0 = 49 → ¬ x0 = 50 → ¬ x0 = 51 → ¬ x0 = 52 → ¬ x0 = 53 → ¬ x0 = 54 → x0 = 55 → ¬ (x1 = 0) → cS d 194 [(.int (1))] (mkH hi hl sw kp) (am_ret (cW cd_195 d Q) 231 [some (.int x0), some (.int x1), some (.int x2)] []))
    (h52 : ¬ x0 = 37 → ¬ x0 = 38 → ¬ x0 = 39 → ¬ x0 = 40 → ¬ x0 = 41 → ¬ x0 = 42 → ¬ x0 = 43 → ¬ x0 = 44 → ¬ x0 = 45 → ¬ x0 = 46 → ¬ x0 = 47 → ¬ x0 = 48 → ¬ x0 = 49 → ¬ x0 = 50 → ¬ x0 = 51 → ¬ x0 = 52 → ¬ x0 = 53 → ¬ x0 = 54 → ¬ x0 = 55 → x0 = 56 → x1 = 0 → x2 = 0 → cS d 194 [(.int (0))] (mkH hi hl sw kp) (am_ret (cW cd_195 d Q) 231 [some (.int x0), some (.int x1), some (.int x2)] []))
    (h53 : ¬ x0 = 37 → ¬ x0 = 38 → ¬ x0 = 39 → ¬ x0 = 40 → ¬ x0 = 41 → ¬ x0 = 42 → ¬ x0 = 43 → ¬ x0 = 44 → ¬ x0 = 45 → ¬ x0 = 46 → ¬ x0 = 47 → ¬ x0 = 48 → ¬ x0 = 49 → ¬ x0 = 50 → ¬ x0 = 51 → ¬ x0 = 52 → ¬ x0 = 53 → ¬ x0 = 54 → ¬ x0 = 55 → x0 = 56 → x1 = 0 → ¬ (x2 = 0) → cS d 194 [(.int (1))] (mkH hi hl sw kp) (am_ret (cW cd_195 d Q) 231 [some (.int x0), some (.int x1), some (.int x2)] []))
    (h54 : ¬ x0 = 37 → ¬ x0 = 38 → ¬ x0 = 39 → ¬ x0 = 40 → ¬ x0 = 41 → ¬ x0 = 42 → ¬ x0 = 43 → ¬ x0 = 44 → ¬ x0 = 45 → ¬ x0 = 46 → ¬ x0 = 47 → ¬ x0 = 48 → ¬ x0 = 49 → ¬ x0 = 50 → ¬ x0 = 51 → ¬ x0 = 52 → ¬ x0 = 53 → ¬ x0 = 54 → ¬ x0 = 55 → x0 = 56 → ¬ (x1 = 0) → cS d 194 [(.int (1))] (mkH hi hl sw kp) (am_ret (cW cd_195 d Q) 231 [some (.int x0), some (.int x1), some (.int x2)] []))
    (h55 : ¬ x0 = 37 → ¬ x0 = 38 → ¬ x0 = 39 → ¬ x0 = 40 → ¬ x0 = 41 → ¬ x0 = 42 → ¬ x0 = 43 → ¬ x0 = 44 → ¬ x0 = 45 → ¬ x0 = 46 → ¬ x0 = 47 → ¬ x0 = 48 → ¬ x0 = 49 → ¬ x0 = 50 → ¬ x0 = 51 → ¬ x0 = 52 → ¬ x0 = 53 → ¬ x0 = 54 → ¬ x0 = 55 → ¬ x0 = 56 → x0 = 57 → x1 = 0 → x2 = 0 → cS d 194 [(.int (0))] (mkH hi hl sw kp) (am_ret (cW cd_195 d Q) 231 [some (.int x0), some (.int x1), some (.int x2)] []))
    (h56 : ¬ x0 = 37 → ¬ x0 = 38 → ¬ x0 = 39 → ¬ x0 = 40 → ¬ x0 = 41 → ¬ x0 = 42 → ¬ x0 = 43 → ¬ x0 = 44 → ¬ x0 = 45 → ¬ x0 = 46 → ¬ x0 = 47 → ¬ x0 = 48 → ¬ x0 = 49 → ¬ x0 = 50 → ¬ x0 = 51 → ¬ x0 = 52 → ¬ x0 = 53 → ¬ x0 = 54 → ¬ x0 = 55 → ¬ x0 = 56 → x0 = 57 → x1 = 0 → ¬ (x2 = 0) → cS d 194 [(.int (1))] (mkH hi hl sw kp) (am_ret (cW cd_195 d Q) 231 [some (.int x0), some (.int x1), some (.int x2)] []))
    (h57 : ¬ x0 = 37 → ¬ x0 = 38 → ¬ x0 = 39 → ¬ x0 = 40 → ¬ x0 = 41 → ¬ x0 = 42 → ¬ x0 = 43 → ¬ x0 = 44 → ¬ x0 = 45 → ¬ x0 = 46 → ¬ x0 = 47 → ¬ x0 = 48 → ¬ x0 = 49 → ¬ x0 = 50 → ¬ x0 = 51 → ¬ x0 = 52 → ¬ x0 = 53 → ¬ x0 = 54 → ¬ x0 = 55 → ¬ x0 = 56 → x0 = 57 → ¬ (x1 = 0) → cS d 194 [(.int (1))] (mkH hi hl sw kp) (am_ret (cW cd_195 d Q) 231 [some (.int x0), some (.int x1), some (.int x2)] []))
    (h58 : ¬ x0 = 37 → ¬ x0 = 38 → ¬ x0 = 39 → ¬ x0 = 40 → ¬ x0 = 41 → ¬ x0 = 42 → ¬ x0 = 43 → ¬ x0 = 44 → ¬ x0 = 45 → ¬ x0 = 46 → ¬ x0 = 47 → ¬ x0 = 48 → ¬ x0 = 49 → ¬ x0 = 50 → ¬ x0 = 51 → ¬ x0 = 52 → ¬ x0 = 53 → ¬ x0 = 54 → ¬ x0 = 55 → ¬ x0 = 56 → ¬ x0 = 57 → x0 = 58 → x1 = 0 → x2 = 0 → cS d 194 [(.int (0))] (mkH hi hl sw kp) (am_ret (cW cd_195 d Q) 231 [some (.int x0), some (.int x1), some (.int x2)] []))
    (h59 : ¬ x0 = 37 → ¬ x0 = 38 → ¬ x0 = 39 → ¬ x0 = 40 → ¬ x0 = 41 → ¬ x0 = 42 → ¬ x0 = 43 → ¬ x0 = 44 → ¬ x0 = 45 → ¬ x0 = 46 → ¬ x0 = 47 → ¬ x0 = 48 → ¬ x0 = 49 → ¬ x0 = 50 → ¬ x0 = 51 → ¬ x0 = 52 → ¬ x0 = 53 → ¬ x0 = 54 → ¬ x0 = 55 → ¬ x0 = 56 → ¬ x0 = 57 → x0 = 58 → x1 = 0 → ¬ (x2 = 0) → cS d 194 [(.int (1))] (mkH hi hl sw kp) (am_ret (cW cd_195 d Q) 231 [some (.int x0), some (.int x1), some (.int x2)] []))
    (h60 : ¬ x0 = 37 → ¬ x0 = 38 → ¬ x0 = 39 → ¬ x0 = 40 → ¬ x0 = 41 → ¬ x0 = 42 → ¬ x0 = 43 → ¬ x0 = 44 → ¬ x0 = 45 → ¬ x0 = 46 → ¬ x0 = 47 → ¬ x0 = 48 → ¬ x0 = 49 → ¬ x0 = 50 → ¬ x0 = 51 → ¬ x0 = 52 → ¬ x0 = 53 → ¬ x0 = 54 → ¬ x0 = 55 → ¬ x0 = 56 → ¬ x0 = 57 → x0 = 58 → ¬ (x1 = 0) → cS d 194 [(.int (1))] (mkH hi hl sw kp) (am_ret (cW cd_195 d Q) 231 [some (.int x0), some (.int x1), some (.int x2)] []))
    (h61 : ¬ x0 = 37 → ¬ x0 = 38 → ¬ x0 = 39 → ¬ x0 = 40 → ¬ x0 = 41 → ¬ x0 = 42 → ¬ x0 = 43 → ¬ x0 = 44 → ¬ x0 = 45 → ¬ x0 = 46 → ¬ x0 = 47 → ¬ x0 = 48 → ¬ x0 = 49 → ¬ x0 = 50 → ¬ x0 = 51 → ¬ x0 = 52 → ¬ x0 = 53 → ¬ x0 = 54 → ¬ x0 = 55 → ¬ x0 = 56 → ¬ x0 = 57 → ¬ x0 = 58 → x0 = 59 → x1 = 0 → x2 = 0 → cS d 194 [(.int (0))] (mkH hi hl sw kp) (am_ret (cW cd_195 d Q) 231 [some (.int x0), some (.int x1), some (.int x2)] []))
    (h62 : ¬ x0 = 37 → ¬ x0 = 38 → ¬ x0 = 39 → ¬ x0 = 40 → ¬ x0 = 41 → ¬ x0 = 42 → ¬ x0 = 43 → ¬ x0 = 44 → ¬ x0 = 45 → ¬ x0 = 46 → ¬ x0 = 47 → ¬ x0 = 48 → ¬ x0 = 49 → ¬ x0 = 50 → ¬ x0 = 51 → ¬ x0 = 52 → ¬ x0 = 53 → ¬ x0 = 54 → ¬ x0 = 55 → ¬ x0 = 56 → ¬ x0 = 57 → ¬ x0 = 58 → x0 = 59 → x1 = 0 → ¬ (x2 = 0) → cS d 194 [(.int (1))] (mkH hi hl sw kp) (am_ret (cW cd_195 d Q) 231 [some (.int x0), some (.int x1), some (.int x2)] []))
    (h63 : ¬ x0 = 37 → ¬ x0 = 38 → ¬ x0 = 39 → ¬ x0 = 40 → ¬ x0 = 41 → ¬ x0 = 42 → ¬ x0 = 43 → ¬ x0 = 44 → ¬ x0 = 45 → ¬ x0 = 46 → ¬ x0 = 47 → ¬ x0 = 48 → ¬ x0 = 49 → ¬ x0 = 50 → ¬ x0 = 51 → ¬ x0 = 52 → ¬ x0 = 53 → ¬ x0 = 54 → ¬ x0 = 55 → ¬ x0 = 56 → ¬ x0 = 57 → ¬ x0 = 58 → x0 = 59 → ¬ (x1 = 0) → cS d 194 [(.int (1))] (mkH hi hl sw kp) (am_ret (cW cd_195 d Q) 231 [some (.int x0), some (.int x1), some (.int x2)] []))
    (h64 : ¬ x0 = 37 → ¬ x0 = 38 → ¬ x0 = 39 → ¬ x0 = 40 → ¬ x0 = 41 → ¬ x0 = 42 → ¬ x0 = 43 → ¬ x0 = 44 → ¬ x0 = 45 → ¬ x0 = 46 → ¬ x0 = 47 → ¬ x0 = 48 → ¬ x0 = 49 → ¬ x0 = 50 → ¬ x0 = 51 → ¬ x0 = 52 → ¬ x0 = 53 → ¬ x0 = 54 → ¬ x0 = 55 → ¬ x0 = 56 → ¬ x0 = 57 → ¬ x0 = 58 → ¬ x0 = 59 → x0 = 60 → x2 ≤ x1 → cS d 194 [(.int (0))] (mkH hi hl sw kp) (am_ret (cW cd_195 d Q) 169 [some (.int x0), some (.int x1), some (.int x2)] []))
    (h65 : ¬ x0 = 37 → ¬ x0 = 38 → ¬ x0 = 39 → ¬ x0 = 40 → ¬ x0 = 41 → ¬ x0 = 42 → ¬ x0 = 43 → ¬ x0 = 44 → ¬ x0 = 45 → ¬ x0 = 46 → ¬ x0 = 47 → ¬ x0 = 48 → ¬ x0 = 49 → ¬ x0 = 50 → ¬ x0 = 51 → ¬ x0 = 52 → ¬ x0 = 53 → ¬ x0 = 54 → ¬ x0 = 55 → ¬ x0 = 56 → ¬ x0 = 57 → ¬ x0 = 58 → ¬ x0 = 59 → x0 = 60 → ¬ (x2 ≤ x1) → cS d 194 [(.int (1))] (mkH hi hl sw kp) (am_ret (cW cd_195 d Q) 169 [some (.int x0), some (.int x1), some (.int x2)] []))
    (h66 : ¬ x0 = 37 → ¬ x0 = 38 → ¬ x0 = 39 → ¬ x0 = 40 → ¬ x0 = 41 → ¬ x0 = 42 → ¬ x0 = 43 → ¬ x0 = 44 → ¬ x0 = 45 → ¬ x0 = 46 → ¬ x0 = 47 → ¬ x0 = 48 → ¬ x0 = 49 → ¬ x0 = 50 → ¬ x0 = 51 → ¬ x0 = 52 → ¬ x0 = 53 → ¬ x0 = 54 → ¬ x0 = 55 → ¬ x0 = 56 → ¬ x0 = 57 → ¬ x0 = 58 → ¬ x0 = 59 → ¬ x0 = 60 → x0 = 61 → x1 = x2 → cS d 194 [(.int (1))] (mkH hi hl sw kp) (am_ret (cW cd_195 d Q) 197 [some (.int x0), some (.int x1), some (.int x2)] []))
    (h67 : ¬ x0 = 37 → ¬ x0 = 38 → ¬ x0 = 39 → ¬ x0 = 40 → ¬ x0 = 41 → ¬ x0 = 42 → ¬ x0 = 43 → ¬ x0 = 44 → ¬ x0 = 45 → ¬ x0 = 46 → ¬ x0 = 47 → ¬ x0 = 48 → ¬ x0 = 49 → ¬ x0 = 50 → ¬ x0 = 51 → ¬ x0 = 52 → ¬ x0 = 53 → ¬ x0 = 54 → ¬ x0 = 55 → ¬ x0 = 56 → ¬ x0 = 57 → ¬ x0 = 58 → ¬ x0 = 59 → ¬ x0 = 60 → x0 = 61 → ¬ (x1 = x2) → cS d 194 [(.int (0))] (mkH hi hl sw kp) (am_ret (cW cd_195 d Q) 197 [some (.int x0), some (.int x1), some (.int x2)] []))
    (h68 : ¬ x0 = 37 → ¬ x0 = 38 → ¬ x0 = 39 → ¬ x0 = 40 → ¬ x0 = 41 → ¬ x0 = 42 → ¬ x0 = 43 → ¬ x0 = 44 → ¬ x0 = 45 → ¬ x0 = 46 → ¬ x0 = 47 → ¬ x0 = 48 → ¬ x0 = 49 → ¬ x0 = 50 → ¬ x0 = 51 → ¬ x0 = 52 → ¬ x0 = 53 → ¬ x0 = 54 → ¬ x0 = 55 → ¬ x0 = 56 → ¬ x0 = 57 → ¬ x0 = 58 → ¬ x0 = 59 → ¬ x0 = 60 → ¬ x0 = 61 → x0 = 62 → x1 ≤ x2 → cS d 194 [(.int (0))] (mkH hi hl sw kp) (am_ret (cW cd_195 d Q) 183 [some (.int x0), some (.int x1), some (.int x2)] []))
    (h69 : ¬ x0 = 37 → ¬ x0 = 38 → ¬ x0 = 39 → ¬ x0 = 40 → ¬ x0 = 41 → ¬ x0 = 42 → ¬ x0 = 43 → ¬ x0 = 44 → ¬ x0 = 45 → ¬ x0 = 46 → ¬ x0 = 47 → ¬ x0 = 48 → ¬ x0 = 49 → ¬ x0 = 50 → ¬ x0 = 51 → ¬ x0 = 52 → ¬ x0 = 53 → ¬ x0 = 54 → ¬ x0 = 55 → ¬ x0 = 56 → ¬ x0 = 57 → ¬ x0 = 58 → ¬ x0 = 59 → ¬ x0 = 60 → ¬ x0 = 61 → x0 = 62 → ¬ (x1 ≤ x2) → cS d 194 [(.int (1))] (mkH hi hl sw kp) (am_ret (cW cd_195 d Q) 183 [some (.int x0), some (.int x1), some (.int x2)] []))
    (h70 : ¬ x0 = 37 → ¬ x0 = 38 → ¬ x0 = 39 → ¬ x0 = 40 → ¬ x0 = 41 → ¬ x0 = 42 → ¬ x0 = 43 → ¬ x0 = 44 → ¬ x0 = 45 → ¬ x0 = 46 → ¬ x0 = 47 → ¬ x0 = 48 → ¬ x0 = 49 → ¬ x0 = 50 → ¬ x0 = 51 → ¬ x0 = 52 → ¬ x0 = 53 → ¬ x0 = 54 → ¬ x0 = 55 → ¬ x0 = 56 → ¬ x0 = 57 → ¬ x0 = 58 → ¬ x0 = 59 → ¬ x0 = 60 → ¬ x0 = 61 → ¬ x0 = 62 → x1 = 0 → x2 = 0 → cS d 194 [(.int (0))] (mkH hi hl sw kp) (am_ret (cW cd_195 d Q) 231 [some (.int x0), some (.int x1), some (.int x2)] []))
    (h71 : ¬ x0 = 37 → ¬ x0 = 38 → ¬ x0 = 39 → ¬ x0 = 40 → ¬ x0 = 41 → ¬ x0 = 42 → ¬ x0 = 43 → ¬ x0 = 44 → ¬ x0 = 45 → ¬ x0 = 46 → ¬ x0 = 47 → ¬ x0 = 48 → ¬ x0 = 49 → ¬ x0 = 50 → ¬ x0 = 51 → ¬ x0 = 52 → ¬ x0 = 53 → ¬ x0 = 54 → ¬ x0 = 55 → ¬ x0 = 56 → ¬ x0 = 57 → ¬ x0 = 58 → ¬ x0 = 59 → ¬ x0 = 60 → ¬ x0 = 61 → ¬ x0 = 62 → x1 = 0 → ¬ (x2 = 0) → cS d 194 [(.int (1))] (mkH hi hl sw kp) (am_ret (cW cd_195 d Q) 231 [some (.int x0), some (.int x1), some (.int x2)] []))
    (h72 : ¬ x0 = 37 → ¬ x0 = 38 → ¬ x0 = 39 → ¬ x0 = 40 → ¬ x0 = 41 → ¬ x0 = 42 → ¬ x0 = 43 → ¬ x0 = 44 → ¬ x0 = 45 → ¬ x0 = 46 → ¬ x0 = 47 → ¬ x0 = 48 → ¬ x0 = 49 → ¬ x0 = 50 → ¬ x0 = 51 → ¬ x0 = 52 → ¬ x0 = 53 → ¬ x0 = 54 → ¬ x0 = 55 → ¬ x0 = 56 → ¬ x0 = 57 → ¬ x0 = 58 → ¬ x0 = 59 → ¬ x0 = 60 → ¬ x0 = 61 → ¬ x0 = 62 → ¬ (x1 = 0) → cS d 194 [(.int (1))] (mkH hi hl sw kp) (am_ret (cW cd_195 d Q) 231 [some (.int x0), some (.int x1), some (.int x2)] []))
    : cS (d + 1) 195 [(.int x0), (.int x1), (.int x2)] (mkH hi hl sw kp) Q := cS.of rfl (k_195_0 h1 h2 h3 h4 h5 h6 h7 h8 h9 h10 h11 h12 h13 h14 h15 h16 h17 h18 h19 h20 h21 h22 h23 h24 h25 h26 h27 h28 h29 h30 h31 h32 h33 h34 h35 h36 h37 h38 h39 h40 h41 h42 h43 h44 h45 h46 h47 h48 h49 h50 h51 h52 h53 h54 h55 h56 h57 h58 h59 h60 h61 h62 h63 h64 h65 h66 h67 h68 h69 h70 h71 h72)
set_option maxRecDepth 100000 in
theorem k_195_169 {x0 : Int32} {x1 : Int32} {x2 : Int32} {s0 : Int32}
    (h1 : Q (some (.int s0)) (mkH hi hl sw kp))
    : cW cd_195 d Q 169 [some (.int x0), some (.int x1), some (.int x2)] [(.int s0)] (mkH hi hl sw kp) :=
  cW.run (am_in [169, 183, 197, 214, 231]) 1 (cQ.of (h1))
set_option maxRecDepth 100000 in
theorem k_195_183 {x0 : Int32} {x1 : Int32} {x2 : Int32} {s0 : Int32}
    (h1 : Q (some (.int s0)) (mkH hi hl sw kp))
    : cW cd_195 d Q 183 [some (.int x0), some (.int x1), some (.int x2)] [(.int s0)] (mkH hi hl sw kp) :=
  cW.run (am_in [169, 183, 197, 214, 231]) 1 (cQ.of (h1))
set_option maxRecDepth 100000 in
theorem k_195_197 {x0 : Int32} {x1 : Int32} {x2 : Int32} {s0 : Int32}
    (h1 : Q (some (.int s0)) (mkH hi hl sw kp))
    : cW cd_195 d Q 197 [some (.int x0), some (.int x1), some (.int x2)] [(.int s0)] (mkH hi hl sw kp) :=
  cW.run (am_in [169, 183, 197, 214, 231]) 1 (cQ.of (h1))
set_option maxRecDepth 100000 in
theorem k_195_214 {x0 : Int32} {x1 : Int32} {x2 : Int32} {s0 : Int32}
    (h1 : Q (some (.int s0)) (mkH hi hl sw kp))
    : cW cd_195 d Q 214 [some (.int x0), some (.int x1), some (.int x2)] [(.int s0)] (mkH hi hl sw kp) :=
  cW.run (am_in [169, 183, 197, 214, 231]) 1 (cQ.of (h1))
set_option maxRecDepth 100000 in
theorem k_195_231 {x0 : Int32} {x1 : Int32} {x2 : Int32} {s0 : Int32}
    (h1 : Q (some (.int s0)) (mkH hi hl sw kp))
    : cW cd_195 d Q 231 [some (.int x0), some (.int x1), some (.int x2)] [(.int s0)] (mkH hi hl sw kp) :=
  cW.run (am_in [169, 183, 197, 214, 231]) 1 (cQ.of (h1))
-- 196: DogDecreesModel.worked()I
set_option maxRecDepth 100000 in
theorem k_196_0
    (h1 : cW cd_196 d Q 4 [some (.ref 279), some (.int (0)), some (.int (0))] [] (mkH hi hl sw kp))
    : cW cd_196 d Q 0 [some (.ref 279), none, none] [] (mkH hi hl sw kp) :=
  cW.run (am_in [4, 108, 145]) 4 (And.intro (Nat.le_of_ble_eq_true rfl) (And.intro (Nat.le_of_ble_eq_true rfl) (h1)))
theorem e_196
    (h1 : cW cd_196 d Q 4 [some (.ref 279), some (.int (0)), some (.int (0))] [] (mkH hi hl sw kp))
    : cS (d + 1) 196 [(.ref 279)] (mkH hi hl sw kp) Q := cS.of rfl (k_196_0 h1)
set_option maxRecDepth 100000 in
theorem k_196_4 {x1 : Int32} {x2 : Int32}
    (h1 : (hi 279 18) ≤ x2 → Q (some (.int (hi 287 0))) (mkH hi hl sw kp))
    (h2 : ¬ ((hi 279 18) ≤ x2) → vp_in x2 320)
    (h3 : ¬ ((hi 279 18) ≤ x2) → (hi 284 x2.toNatClampNeg) = 0 → vp_in x2 320)
    (h4 : ¬ ((hi 279 18) ≤ x2) → (hi 284 x2.toNatClampNeg) = 0 → (hi 284 x2.toNatClampNeg) = 0 → vp_in x2 320)
    (h5 : ¬ ((hi 279 18) ≤ x2) → (hi 284 x2.toNatClampNeg) = 0 → (hi 284 x2.toNatClampNeg) = 0 → vp_in x1 64)
    (h6 : ¬ ((hi 279 18) ≤ x2) → (hi 284 x2.toNatClampNeg) = 0 → (hi 284 x2.toNatClampNeg) = 0 → cW cd_196 d Q 4 [some (.ref 279), some (.int (x1 + (1))), some (.int (x2 + (1)))] [] (mkH (u2 hi 287 x1.toNatClampNeg (hi 285 x2.toNatClampNeg)) hl sw kp))
    (h7 : ¬ ((hi 279 18) ≤ x2) → (hi 284 x2.toNatClampNeg) = 0 → ¬ ((hi 284 x2.toNatClampNeg) = 0) → vp_in x2 320)
    (h8 : ¬ ((hi 279 18) ≤ x2) → (hi 284 x2.toNatClampNeg) = 0 → ¬ ((hi 284 x2.toNatClampNeg) = 0) → vp_in (hi 285 x2.toNatClampNeg) 5)
    (h9 : ¬ ((hi 279 18) ≤ x2) → (hi 284 x2.toNatClampNeg) = 0 → ¬ ((hi 284 x2.toNatClampNeg) = 0) → vp_in x1 64)
    (h10 : ¬ ((hi 279 18) ≤ x2) → (hi 284 x2.toNatClampNeg) = 0 → ¬ ((hi 284 x2.toNatClampNeg) = 0) → cW cd_196 d Q 4 [some (.ref 279), some (.int (x1 + (1))), some (.int (x2 + (1)))] [] (mkH (u2 hi 287 x1.toNatClampNeg (hi 288 (hi 285 x2.toNatClampNeg).toNatClampNeg)) hl sw kp))
    (h11 : ¬ ((hi 279 18) ≤ x2) → ¬ ((hi 284 x2.toNatClampNeg) = 0) → vp_in x2 320)
    (h12 : ¬ ((hi 279 18) ≤ x2) → ¬ ((hi 284 x2.toNatClampNeg) = 0) → (hi 284 x2.toNatClampNeg) = (1) → vp_in x2 320)
    (h13 : ¬ ((hi 279 18) ≤ x2) → ¬ ((hi 284 x2.toNatClampNeg) = 0) → (hi 284 x2.toNatClampNeg) = (1) → (hi 284 x2.toNatClampNeg) = 0 → vp_in x2 320)
    (h14 : ¬ ((hi 279 18) ≤ x2) → ¬ ((hi 284 x2.toNatClampNeg) = 0) → (hi 284 x2.toNatClampNeg) = (1) → (hi 284 x2.toNatClampNeg) = 0 → vp_in x1 64)
    (h15 : ¬ ((hi 279 18) ≤ x2) → ¬ ((hi 284 x2.toNatClampNeg) = 0) → (hi 284 x2.toNatClampNeg) = (1) → (hi 284 x2.toNatClampNeg) = 0 → cW cd_196 d Q 4 [some (.ref 279), some (.int (x1 + (1))), some (.int (x2 + (1)))] [] (mkH (u2 hi 287 x1.toNatClampNeg (hi 285 x2.toNatClampNeg)) hl sw kp))
    (h16 : ¬ ((hi 279 18) ≤ x2) → ¬ ((hi 284 x2.toNatClampNeg) = 0) → (hi 284 x2.toNatClampNeg) = (1) → ¬ ((hi 284 x2.toNatClampNeg) = 0) → vp_in x2 320)
    (h17 : ¬ ((hi 279 18) ≤ x2) → ¬ ((hi 284 x2.toNatClampNeg) = 0) → (hi 284 x2.toNatClampNeg) = (1) → ¬ ((hi 284 x2.toNatClampNeg) = 0) → vp_in (hi 285 x2.toNatClampNeg) 5)
    (h18 : ¬ ((hi 279 18) ≤ x2) → ¬ ((hi 284 x2.toNatClampNeg) = 0) → (hi 284 x2.toNatClampNeg) = (1) → ¬ ((hi 284 x2.toNatClampNeg) = 0) → vp_in x1 64)
    (h19 : ¬ ((hi 279 18) ≤ x2) → ¬ ((hi 284 x2.toNatClampNeg) = 0) → (hi 284 x2.toNatClampNeg) = (1) → ¬ ((hi 284 x2.toNatClampNeg) = 0) → cW cd_196 d Q 4 [some (.ref 279), some (.int (x1 + (1))), some (.int (x2 + (1)))] [] (mkH (u2 hi 287 x1.toNatClampNeg (hi 288 (hi 285 x2.toNatClampNeg).toNatClampNeg)) hl sw kp))
    (h20 : ¬ ((hi 279 18) ≤ x2) → ¬ ((hi 284 x2.toNatClampNeg) = 0) → ¬ ((hi 284 x2.toNatClampNeg) = (1)) → vp_in x2 320)
    (h21 : ¬ ((hi 279 18) ≤ x2) → ¬ ((hi 284 x2.toNatClampNeg) = 0) → ¬ ((hi 284 x2.toNatClampNeg) = (1)) → (hi 284 x2.toNatClampNeg) = (2) → vp_in (x1 - (1)) 64)
    (h22 : ¬ ((hi 279 18) ≤ x2) → ¬ ((hi 284 x2.toNatClampNeg) = 0) → ¬ ((hi 284 x2.toNatClampNeg) = (1)) → (hi 284 x2.toNatClampNeg) = (2) → (hi 287 (x1 - (1)).toNatClampNeg) = 0 → cS d 194 [(.int (1))] (mkH hi hl sw kp) (am_ret (cW cd_196 d Q) 108 [some (.ref 279), some (.int x1), some (.int x2)] [(.int (x1 - (1))), (.ref 287)]))
    (h23 : ¬ ((hi 279 18) ≤ x2) → ¬ ((hi 284 x2.toNatClampNeg) = 0) → ¬ ((hi 284 x2.toNatClampNeg) = (1)) → (hi 284 x2.toNatClampNeg) = (2) → ¬ ((hi 287 (x1 - (1)).toNatClampNeg) = 0) → cS d 194 [(.int (0))] (mkH hi hl sw kp) (am_ret (cW cd_196 d Q) 108 [some (.ref 279), some (.int x1), some (.int x2)] [(.int (x1 - (1))), (.ref 287)]))
    (h24 : ¬ ((hi 279 18) ≤ x2) → ¬ ((hi 284 x2.toNatClampNeg) = 0) → ¬ ((hi 284 x2.toNatClampNeg) = (1)) → ¬ ((hi 284 x2.toNatClampNeg) = (2)) → vp_in x2 320)
    (h25 : ¬ ((hi 279 18) ≤ x2) → ¬ ((hi 284 x2.toNatClampNeg) = 0) → ¬ ((hi 284 x2.toNatClampNeg) = (1)) → ¬ ((hi 284 x2.toNatClampNeg) = (2)) → vp_in ((x1 + (-1)) - (1)) 64)
    (h26 : ¬ ((hi 279 18) ≤ x2) → ¬ ((hi 284 x2.toNatClampNeg) = 0) → ¬ ((hi 284 x2.toNatClampNeg) = (1)) → ¬ ((hi 284 x2.toNatClampNeg) = (2)) → vp_in (x1 + (-1)) 64)
    (h27 : ¬ ((hi 279 18) ≤ x2) → ¬ ((hi 284 x2.toNatClampNeg) = 0) → ¬ ((hi 284 x2.toNatClampNeg) = (1)) → ¬ ((hi 284 x2.toNatClampNeg) = (2)) → cS d 195 [(.int (hi 285 x2.toNatClampNeg)), (.int (hi 287 ((x1 + (-1)) - (1)).toNatClampNeg)), (.int (hi 287 (x1 + (-1)).toNatClampNeg))] (mkH hi hl sw kp) (am_ret (cW cd_196 d Q) 145 [some (.ref 279), some (.int (x1 + (-1))), some (.int x2)] [(.int ((x1 + (-1)) - (1))), (.ref 287)]))
    : cW cd_196 d Q 4 [some (.ref 279), some (.int x1), some (.int x2)] [] (mkH hi hl sw kp) :=
  cW.run (am_in [4, 108, 145]) 42 (And.intro (fun c1 => (And.intro (show vp_in 0 64 from vin_l (by decide +kernel)) (cQ.of (h1 c1)))) (fun c2 => (And.intro (h2 c2) (And.intro (fun c3 => (And.intro (h3 c2 c3) (And.intro (fun c4 => (And.intro (h4 c2 c3 c4) (And.intro (h5 c2 c3 c4) (And.intro (Nat.le_of_ble_eq_true rfl) (And.intro (Nat.le_of_ble_eq_true rfl) (h6 c2 c3 c4)))))) (fun c5 => (And.intro (h7 c2 c3 c5) (And.intro (h8 c2 c3 c5) (And.intro (h9 c2 c3 c5) (And.intro (Nat.le_of_ble_eq_true rfl) (And.intro (Nat.le_of_ble_eq_true rfl) (h10 c2 c3 c5)))))))))) (fun c6 => (And.intro (h11 c2 c6) (And.intro (fun c7 => (And.intro (h12 c2 c6 c7) (And.intro (fun c8 => (And.intro (h13 c2 c6 c7 c8) (And.intro (h14 c2 c6 c7 c8) (And.intro (Nat.le_of_ble_eq_true rfl) (And.intro (Nat.le_of_ble_eq_true rfl) (h15 c2 c6 c7 c8)))))) (fun c9 => (And.intro (h16 c2 c6 c7 c9) (And.intro (h17 c2 c6 c7 c9) (And.intro (h18 c2 c6 c7 c9) (And.intro (Nat.le_of_ble_eq_true rfl) (And.intro (Nat.le_of_ble_eq_true rfl) (h19 c2 c6 c7 c9)))))))))) (fun c10 => (And.intro (h20 c2 c6 c10) (And.intro (fun c11 => (And.intro (h21 c2 c6 c10 c11) (And.intro (fun c12 => (cC.of (h22 c2 c6 c10 c11 c12))) (fun c13 => (cC.of (h23 c2 c6 c10 c11 c13)))))) (fun c14 => (And.intro (Nat.le_of_ble_eq_true rfl) (And.intro (h24 c2 c6 c10 c14) (And.intro (h25 c2 c6 c10 c14) (And.intro (h26 c2 c6 c10 c14) (cC.of (h27 c2 c6 c10 c14)))))))))))))))))
set_option maxRecDepth 100000 in
theorem k_196_108 {x1 : Int32} {x2 : Int32} {s1 : Int32} {s2 : Int32}
    (h1 : vp_in s1 64)
    (h2 : cW cd_196 d Q 4 [some (.ref 279), some (.int x1), some (.int (x2 + (1)))] [] (mkH (u2 hi 287 s1.toNatClampNeg s2) hl sw kp))
    : cW cd_196 d Q 108 [some (.ref 279), some (.int x1), some (.int x2)] [(.int s2), (.int s1), (.ref 287)] (mkH hi hl sw kp) :=
  cW.run (am_in [4, 108, 145]) 4 (And.intro (h1) (And.intro (Nat.le_of_ble_eq_true rfl) (h2)))
set_option maxRecDepth 100000 in
theorem k_196_145 {x1 : Int32} {x2 : Int32} {s1 : Int32} {s2 : Int32}
    (h1 : vp_in s1 64)
    (h2 : cW cd_196 d Q 4 [some (.ref 279), some (.int x1), some (.int (x2 + (1)))] [] (mkH (u2 hi 287 s1.toNatClampNeg s2) hl sw kp))
    : cW cd_196 d Q 145 [some (.ref 279), some (.int x1), some (.int x2)] [(.int s2), (.int s1), (.ref 287)] (mkH hi hl sw kp) :=
  cW.run (am_in [4, 108, 145]) 3 (And.intro (h1) (And.intro (Nat.le_of_ble_eq_true rfl) (h2)))
-- 197: DogDecreesModel.readDeed()V
set_option maxRecDepth 100000 in
theorem k_197_0
    (h1 : cS d 179 [(.ref 279), (.int (0)), (.int (hi 279 35))] (mkH hi hl sw kp) (am_ret (cW cd_197 d Q) 9 [some (.ref 279), none] []))
    : cW cd_197 d Q 0 [some (.ref 279), none] [] (mkH hi hl sw kp) :=
  cW.run (am_in [9, 19]) 5 (cC.of (h1))
theorem e_197
    (h1 : cS d 179 [(.ref 279), (.int (0)), (.int (hi 279 35))] (mkH hi hl sw kp) (am_ret (cW cd_197 d Q) 9 [some (.ref 279), none] []))
    : cS (d + 1) 197 [(.ref 279)] (mkH hi hl sw kp) Q := cS.of rfl (k_197_0 h1)
set_option maxRecDepth 100000 in
theorem k_197_9
    (h1 : (hi 279 2) ≤ 0 → cW cd_197 d Q 19 [some (.ref 279), some (.int (0))] [] (mkH hi hl sw kp))
    (h2 : ¬ ((hi 279 2) ≤ 0) → Q none (mkH hi hl sw kp))
    : cW cd_197 d Q 9 [some (.ref 279), none] [] (mkH hi hl sw kp) :=
  cW.run (am_in [9, 19]) 5 (And.intro (fun c1 => (And.intro (Nat.le_of_ble_eq_true rfl) (h1 c1))) (fun c2 => (cQ.of (h2 c2))))
set_option maxRecDepth 100000 in
theorem k_197_19 {x1 : Int32}
    (h1 : (4) ≤ x1 → Q none (mkH (u2 hi 279 35 ((hi 279 35) + (1))) hl sw kp))
    (h2 : ¬ ((4) ≤ x1) → vp_in (((4) * (hi 279 35)) + x1) 16)
    (h3 : ¬ ((4) ≤ x1) → cW cd_197 d Q 19 [some (.ref 279), some (.int (x1 + (1)))] [] (mkH (u2 hi 293 (((4) * (hi 279 35)) + x1).toNatClampNeg (-1000000)) hl sw kp))
    : cW cd_197 d Q 19 [some (.ref 279), some (.int x1)] [] (mkH hi hl sw kp) :=
  cW.run (am_in [9, 19]) 15 (And.intro (fun c1 => (And.intro rfl (cQ.of (h1 c1)))) (fun c2 => (And.intro (h2 c2) (And.intro (Nat.le_of_ble_eq_true rfl) (h3 c2)))))
-- 198: DogDecreesModel.readPlace()V
set_option maxRecDepth 100000 in
theorem k_198_0
    (h1 : cS d 179 [(.ref 279), (.int (4)), (.int (hi 279 36))] (mkH hi hl sw kp) (am_ret (cW cd_198 d Q) 9 [some (.ref 279), none] []))
    : cW cd_198 d Q 0 [some (.ref 279), none] [] (mkH hi hl sw kp) :=
  cW.run (am_in [9, 29, 37, 51, 63]) 5 (cC.of (h1))
theorem e_198
    (h1 : cS d 179 [(.ref 279), (.int (4)), (.int (hi 279 36))] (mkH hi hl sw kp) (am_ret (cW cd_198 d Q) 9 [some (.ref 279), none] []))
    : cS (d + 1) 198 [(.ref 279)] (mkH hi hl sw kp) Q := cS.of rfl (k_198_0 h1)
set_option maxRecDepth 100000 in
theorem k_198_9
    (h1 : cS d 177 [(.ref 279), (.long (495756602476)), (.int (0)), (.int (9))] (mkH hi hl sw kp) (am_ret (cW cd_198 d Q) 29 [some (.ref 279), some (.int (hi 279 36))] [(.int (hi 279 36)), (.ref 289)]))
    : cW cd_198 d Q 9 [some (.ref 279), none] [] (mkH hi hl sw kp) :=
  cW.run (am_in [9, 29, 37, 51, 63]) 11 (And.intro (Nat.le_of_ble_eq_true rfl) (cC.of (h1)))
set_option maxRecDepth 100000 in
theorem k_198_29 {x1 : Int32} {s1 : Int32} {s2 : Int32}
    (h1 : vp_in s1 8)
    (h2 : cS d 175 [(.ref 279), (.long (1685022067))] (mkH (u2 hi 289 s1.toNatClampNeg s2) hl sw kp) (am_ret (cW cd_198 d Q) 37 [some (.ref 279), some (.int x1)] []))
    : cW cd_198 d Q 29 [some (.ref 279), some (.int x1)] [(.int s2), (.int s1), (.ref 289)] (mkH hi hl sw kp) :=
  cW.run (am_in [9, 29, 37, 51, 63]) 4 (And.intro (h1) (cC.of (h2)))
set_option maxRecDepth 100000 in
theorem k_198_37 {x1 : Int32}
    (h1 : cS d 180 [(.ref 279), (.int (0)), (.int (hi 279 35))] (mkH hi hl sw kp) (am_ret (cW cd_198 d Q) 51 [some (.ref 279), some (.int x1)] [(.int x1), (.ref 290)]))
    : cW cd_198 d Q 37 [some (.ref 279), some (.int x1)] [] (mkH hi hl sw kp) :=
  cW.run (am_in [9, 29, 37, 51, 63]) 8 (cC.of (h1))
set_option maxRecDepth 100000 in
theorem k_198_51 {x1 : Int32} {s1 : Int32} {s2 : Int32}
    (h1 : vp_in s1 8)
    (h2 : (hi 279 2) = 0 → cS d 170 [(.ref 279)] (mkH (u2 hi 290 s1.toNatClampNeg s2) hl sw kp) (am_ret (cW cd_198 d Q) 63 [some (.ref 279), some (.int x1)] []))
    (h3 : ¬ ((hi 279 2) = 0) → cW cd_198 d Q 63 [some (.ref 279), some (.int x1)] [] (mkH (u2 hi 290 s1.toNatClampNeg s2) hl sw kp))
    : cW cd_198 d Q 51 [some (.ref 279), some (.int x1)] [(.int s2), (.int s1), (.ref 290)] (mkH hi hl sw kp) :=
  cW.run (am_in [9, 29, 37, 51, 63]) 6 (And.intro (h1) (And.intro (fun c1 => (cC.of (h2 c1))) (fun c2 => (h3 c2))))
set_option maxRecDepth 100000 in
theorem k_198_63 {x1 : Int32}
    (h1 : vp_in x1 8)
    (h2 : (hi 279 2) = 0 → Q none (mkH (u2 (u2 hi 291 x1.toNatClampNeg (0)) 279 36 ((hi 279 36) + (1))) hl sw kp))
    (h3 : ¬ ((hi 279 2) = 0) → Q none (mkH (u2 hi 291 x1.toNatClampNeg (0)) hl sw kp))
    : cW cd_198 d Q 63 [some (.ref 279), some (.int x1)] [] (mkH hi hl sw kp) :=
  cW.run (am_in [9, 29, 37, 51, 63]) 15 (And.intro (h1) (And.intro (fun c1 => (And.intro rfl (cQ.of (h2 c1)))) (fun c2 => (cQ.of (h3 c2)))))
-- 199: DogDecreesModel.readPath()V
set_option maxRecDepth 100000 in
theorem k_199_0
    (h1 : cS d 170 [(.ref 279)] (mkH hi hl sw kp) (am_ret (cW cd_199 d Q) 4 [some (.ref 279), none, none] []))
    : cW cd_199 d Q 0 [some (.ref 279), none, none] [] (mkH hi hl sw kp) :=
  cW.run (am_in [4, 13, 25, 32, 41, 73, 119]) 2 (cC.of (h1))
theorem e_199
    (h1 : cS d 170 [(.ref 279)] (mkH hi hl sw kp) (am_ret (cW cd_199 d Q) 4 [some (.ref 279), none, none] []))
    : cS (d + 1) 199 [(.ref 279)] (mkH hi hl sw kp) Q := cS.of rfl (k_199_0 h1)
set_option maxRecDepth 100000 in
theorem k_199_4
    (h1 : cS d 180 [(.ref 279), (.int (4)), (.int (hi 279 36))] (mkH hi hl sw kp) (am_ret (cW cd_199 d Q) 13 [some (.ref 279), none, none] []))
    : cW cd_199 d Q 4 [some (.ref 279), none, none] [] (mkH hi hl sw kp) :=
  cW.run (am_in [4, 13, 25, 32, 41, 73, 119]) 5 (cC.of (h1))
set_option maxRecDepth 100000 in
theorem k_199_13 {s0 : Int32}
    (h1 : (hi 279 2) = 0 → cS d 170 [(.ref 279)] (mkH hi hl sw kp) (am_ret (cW cd_199 d Q) 25 [some (.ref 279), some (.int s0), none] []))
    (h2 : ¬ ((hi 279 2) = 0) → cW cd_199 d Q 25 [some (.ref 279), some (.int s0), none] [] (mkH hi hl sw kp))
    : cW cd_199 d Q 13 [some (.ref 279), none, none] [(.int s0)] (mkH hi hl sw kp) :=
  cW.run (am_in [4, 13, 25, 32, 41, 73, 119]) 6 (And.intro (Nat.le_of_ble_eq_true rfl) (And.intro (fun c1 => (cC.of (h1 c1))) (fun c2 => (h2 c2))))
set_option maxRecDepth 100000 in
theorem k_199_25 {x1 : Int32}
    (h1 : cS d 175 [(.ref 279), (.long (29807))] (mkH hi hl sw kp) (am_ret (cW cd_199 d Q) 32 [some (.ref 279), some (.int x1), none] []))
    : cW cd_199 d Q 25 [some (.ref 279), some (.int x1), none] [] (mkH hi hl sw kp) :=
  cW.run (am_in [4, 13, 25, 32, 41, 73, 119]) 3 (cC.of (h1))
set_option maxRecDepth 100000 in
theorem k_199_32 {x1 : Int32}
    (h1 : cS d 180 [(.ref 279), (.int (4)), (.int (hi 279 36))] (mkH hi hl sw kp) (am_ret (cW cd_199 d Q) 41 [some (.ref 279), some (.int x1), none] []))
    : cW cd_199 d Q 32 [some (.ref 279), some (.int x1), none] [] (mkH hi hl sw kp) :=
  cW.run (am_in [4, 13, 25, 32, 41, 73, 119]) 5 (cC.of (h1))
set_option maxRecDepth 100000 in
theorem k_199_41 {x1 : Int32} {s0 : Int32}
    (h1 : (hi 279 2) = 0 → x1 = s0 → cS d 171 [(.ref 279), (.int (3))] (mkH hi hl sw kp) (am_ret (cW cd_199 d Q) 73 [some (.ref 279), some (.int x1), some (.int s0)] []))
    (h2 : (hi 279 2) = 0 → ¬ (x1 = s0) → vp_in x1 8)
    (h3 : (hi 279 2) = 0 → ¬ (x1 = s0) → (((hi 291 x1.toNatClampNeg) >>> (s0 &&& 31)) &&& (1)) = (1) → cS d 171 [(.ref 279), (.int (3))] (mkH hi hl sw kp) (am_ret (cW cd_199 d Q) 73 [some (.ref 279), some (.int x1), some (.int s0)] []))
    (h4 : (hi 279 2) = 0 → ¬ (x1 = s0) → ¬ ((((hi 291 x1.toNatClampNeg) >>> (s0 &&& 31)) &&& (1)) = (1)) → cW cd_199 d Q 73 [some (.ref 279), some (.int x1), some (.int s0)] [] (mkH hi hl sw kp))
    (h5 : ¬ ((hi 279 2) = 0) → cW cd_199 d Q 73 [some (.ref 279), some (.int x1), some (.int s0)] [] (mkH hi hl sw kp))
    : cW cd_199 d Q 41 [some (.ref 279), some (.int x1), none] [(.int s0)] (mkH hi hl sw kp) :=
  cW.run (am_in [4, 13, 25, 32, 41, 73, 119]) 20 (And.intro (Nat.le_of_ble_eq_true rfl) (And.intro (fun c1 => (And.intro (fun c2 => (cC.of (h1 c1 c2))) (fun c3 => (And.intro (h2 c1 c3) (And.intro (fun c4 => (cC.of (h3 c1 c3 c4))) (fun c5 => (h4 c1 c3 c5))))))) (fun c6 => (h5 c6))))
set_option maxRecDepth 100000 in
theorem k_199_73 {x1 : Int32} {x2 : Int32}
    (h1 : (hi 279 2) ≤ 0 → vp_in x1 8)
    (h2 : (hi 279 2) ≤ 0 → vp_in x1 8)
    (h3 : (hi 279 2) ≤ 0 → vp_in x2 8)
    (h4 : (hi 279 2) ≤ 0 → vp_in x2 8)
    (h5 : (hi 279 2) ≤ 0 → cS d 170 [(.ref 279)] (mkH (u2 (u2 (u2 hi 291 x1.toNatClampNeg ((hi 291 x1.toNatClampNeg) ||| ((1) <<< (x2 &&& 31)))) 291 x2.toNatClampNeg (((u2 hi 291 x1.toNatClampNeg ((hi 291 x1.toNatClampNeg) ||| ((1) <<< (x2 &&& 31)))) 291 x2.toNatClampNeg) ||| ((1) <<< (x1 &&& 31)))) 279 37 ((hi 279 37) + (1))) hl sw kp) (am_ret (cW cd_199 d Q) 119 [some (.ref 279), some (.int x1), some (.int x2)] []))
    (h6 : ¬ ((hi 279 2) ≤ 0) → Q none (mkH hi hl sw kp))
    : cW cd_199 d Q 73 [some (.ref 279), some (.int x1), some (.int x2)] [] (mkH hi hl sw kp) :=
  cW.run (am_in [4, 13, 25, 32, 41, 73, 119]) 31 (And.intro (fun c1 => (And.intro rfl (And.intro rfl (And.intro (h1 c1) (And.intro (h2 c1) (And.intro rfl (And.intro rfl (And.intro (h3 c1) (And.intro (h4 c1) (And.intro rfl (cC.of (h5 c1)))))))))))) (fun c2 => (cQ.of (h6 c2))))
set_option maxRecDepth 100000 in
theorem k_199_119 {x1 : Int32} {x2 : Int32}
    (h1 : Q none (mkH hi hl sw kp))
    : cW cd_199 d Q 119 [some (.ref 279), some (.int x1), some (.int x2)] [] (mkH hi hl sw kp) :=
  cW.run (am_in [4, 13, 25, 32, 41, 73, 119]) 1 (cQ.of (h1))
-- 200: DogDecreesModel.readCase()V
set_option maxRecDepth 100000 in
theorem k_200_0
    (h1 : cS d 179 [(.ref 279), (.int (12)), (.int (hi 279 38))] (mkH hi hl sw kp) (am_ret (cW cd_200 d Q) 10 [some (.ref 279)] []))
    : cW cd_200 d Q 0 [some (.ref 279)] [] (mkH hi hl sw kp) :=
  cW.run (am_in [10, 28]) 5 (cC.of (h1))
theorem e_200
    (h1 : cS d 179 [(.ref 279), (.int (12)), (.int (hi 279 38))] (mkH hi hl sw kp) (am_ret (cW cd_200 d Q) 10 [some (.ref 279)] []))
    : cS (d + 1) 200 [(.ref 279)] (mkH hi hl sw kp) Q := cS.of rfl (k_200_0 h1)
set_option maxRecDepth 100000 in
theorem k_200_10
    (h1 : cS d 177 [(.ref 279), (.long (6447474)), (.int (1)), (.int (15))] (mkH hi hl sw kp) (am_ret (cW cd_200 d Q) 28 [some (.ref 279)] [(.int (hi 279 38)), (.ref 292)]))
    : cW cd_200 d Q 10 [some (.ref 279)] [] (mkH hi hl sw kp) :=
  cW.run (am_in [10, 28]) 9 (cC.of (h1))
set_option maxRecDepth 100000 in
theorem k_200_28 {s1 : Int32} {s2 : Int32}
    (h1 : vp_in s1 4)
    (h2 : (hi 279 2) = 0 → Q none (mkH (u2 (u2 hi 292 s1.toNatClampNeg s2) 279 38 ((hi 279 38) + (1))) hl sw kp))
    (h3 : ¬ ((hi 279 2) = 0) → Q none (mkH (u2 hi 292 s1.toNatClampNeg s2) hl sw kp))
    : cW cd_200 d Q 28 [some (.ref 279)] [(.int s2), (.int s1), (.ref 292)] (mkH hi hl sw kp) :=
  cW.run (am_in [10, 28]) 11 (And.intro (h1) (And.intro (fun c1 => (And.intro rfl (cQ.of (h2 c1)))) (fun c2 => (cQ.of (h3 c2)))))
-- 201: DogDecreesModel.readWhen()V
set_option maxRecDepth 100000 in
theorem k_201_0
    (h1 : cS d 170 [(.ref 279)] (mkH hi hl sw kp) (am_ret (cW cd_201 d Q) 4 [some (.ref 279), none, none, none, none, none] []))
    : cW cd_201 d Q 0 [some (.ref 279), none, none, none, none, none] [] (mkH hi hl sw kp) :=
  cW.run (am_in [4, 13, 25, 35, 64, 75, 113, 119]) 2 (cC.of (h1))
theorem e_201
    (h1 : cS d 170 [(.ref 279)] (mkH hi hl sw kp) (am_ret (cW cd_201 d Q) 4 [some (.ref 279), none, none, none, none, none] []))
    : cS (d + 1) 201 [(.ref 279)] (mkH hi hl sw kp) Q := cS.of rfl (k_201_0 h1)
set_option maxRecDepth 100000 in
theorem k_201_4
    (h1 : cS d 180 [(.ref 279), (.int (0)), (.int (hi 279 35))] (mkH hi hl sw kp) (am_ret (cW cd_201 d Q) 13 [some (.ref 279), none, none, none, none, none] []))
    : cW cd_201 d Q 4 [some (.ref 279), none, none, none, none, none] [] (mkH hi hl sw kp) :=
  cW.run (am_in [4, 13, 25, 35, 64, 75, 113, 119]) 5 (cC.of (h1))
set_option maxRecDepth 100000 in
theorem k_201_13 {s0 : Int32}
    (h1 : (hi 279 2) = 0 → cS d 170 [(.ref 279)] (mkH hi hl sw kp) (am_ret (cW cd_201 d Q) 25 [some (.ref 279), some (.int s0), none, none, none, none] []))
    (h2 : ¬ ((hi 279 2) = 0) → cW cd_201 d Q 25 [some (.ref 279), some (.int s0), none, none, none, none] [] (mkH hi hl sw kp))
    : cW cd_201 d Q 13 [some (.ref 279), none, none, none, none, none] [(.int s0)] (mkH hi hl sw kp) :=
  cW.run (am_in [4, 13, 25, 35, 64, 75, 113, 119]) 6 (And.intro (Nat.le_of_ble_eq_true rfl) (And.intro (fun c1 => (cC.of (h1 c1))) (fun c2 => (h2 c2))))
set_option maxRecDepth 100000 in
theorem k_201_25 {x1 : Int32}
    (h1 : cS d 180 [(.ref 279), (.int (12)), (.int (hi 279 38))] (mkH hi hl sw kp) (am_ret (cW cd_201 d Q) 35 [some (.ref 279), some (.int x1), none, none, none, none] []))
    : cW cd_201 d Q 25 [some (.ref 279), some (.int x1), none, none, none, none] [] (mkH hi hl sw kp) :=
  cW.run (am_in [4, 13, 25, 35, 64, 75, 113, 119]) 5 (cC.of (h1))
set_option maxRecDepth 100000 in
theorem k_201_35 {x1 : Int32} {s0 : Int32}
    (h1 : (hi 279 2) = 0 → vp_in (((4) * x1) + s0) 16)
    (h2 : (hi 279 2) = 0 → (hi 293 (((4) * x1) + s0).toNatClampNeg) = (-1000000) → cW cd_201 d Q 64 [some (.ref 279), some (.int x1), some (.int s0), none, none, none] [] (mkH hi hl sw kp))
    (h3 : (hi 279 2) = 0 → ¬ ((hi 293 (((4) * x1) + s0).toNatClampNeg) = (-1000000)) → cS d 171 [(.ref 279), (.int (3))] (mkH hi hl sw kp) (am_ret (cW cd_201 d Q) 64 [some (.ref 279), some (.int x1), some (.int s0), none, none, none] []))
    (h4 : ¬ ((hi 279 2) = 0) → cW cd_201 d Q 64 [some (.ref 279), some (.int x1), some (.int s0), none, none, none] [] (mkH hi hl sw kp))
    : cW cd_201 d Q 35 [some (.ref 279), some (.int x1), none, none, none, none] [(.int s0)] (mkH hi hl sw kp) :=
  cW.run (am_in [4, 13, 25, 35, 64, 75, 113, 119]) 17 (And.intro (Nat.le_of_ble_eq_true rfl) (And.intro (fun c1 => (And.intro (h1 c1) (And.intro (fun c2 => (h2 c1 c2)) (fun c3 => (cC.of (h3 c1 c3)))))) (fun c4 => (h4 c4))))
set_option maxRecDepth 100000 in
theorem k_201_64 {x1 : Int32} {x2 : Int32}
    (h1 : (hi 279 2) = 0 → cS d 170 [(.ref 279)] (mkH hi hl sw kp) (am_ret (cW cd_201 d Q) 75 [some (.ref 279), some (.int x1), some (.int x2), none, none, none] []))
    (h2 : ¬ ((hi 279 2) = 0) → cW cd_201 d Q 75 [some (.ref 279), some (.int x1), some (.int x2), none, none, none] [] (mkH hi hl sw kp))
    : cW cd_201 d Q 64 [some (.ref 279), some (.int x1), some (.int x2), none, none, none] [] (mkH hi hl sw kp) :=
  cW.run (am_in [4, 13, 25, 35, 64, 75, 113, 119]) 5 (And.intro (fun c1 => (cC.of (h1 c1))) (fun c2 => (h2 c2)))
set_option maxRecDepth 100000 in
theorem k_201_75 {x1 : Int32} {x2 : Int32}
    (h1 : (hi 279 2) ≤ 0 → (hi 279 6) = (45) → cS d 170 [(.ref 279)] (mkH hi hl sw kp) (am_ret (cW cd_201 d Q) 113 [some (.ref 279), some (.int x1), some (.int x2), some (.int (hi 279 7)), some (.int (1)), none] []))
    (h2 : (hi 279 2) ≤ 0 → ¬ ((hi 279 6) = (45)) → cW cd_201 d Q 113 [some (.ref 279), some (.int x1), some (.int x2), some (.int (hi 279 7)), some (.int (0)), none] [] (mkH hi hl sw kp))
    (h3 : ¬ ((hi 279 2) ≤ 0) → Q none (mkH hi hl sw kp))
    : cW cd_201 d Q 75 [some (.ref 279), some (.int x1), some (.int x2), none, none, none] [] (mkH hi hl sw kp) :=
  cW.run (am_in [4, 13, 25, 35, 64, 75, 113, 119]) 17 (And.intro (fun c1 => (And.intro (Nat.le_of_ble_eq_true rfl) (And.intro (fun c2 => (And.intro (Nat.le_of_ble_eq_true rfl) (And.intro (fun z => absurd (show (1 : Int32) = 0 from z) (by decide)) (fun _ => (cC.of (h1 c1 c2)))))) (fun c3 => (And.intro (Nat.le_of_ble_eq_true rfl) (And.intro (fun _ => (h2 c1 c3)) (fun z => absurd (show (0 : Int32) = 0 by decide) z))))))) (fun c4 => (cQ.of (h3 c4))))
set_option maxRecDepth 100000 in
theorem k_201_113 {x1 : Int32} {x2 : Int32} {x3 : Int32} {x4 : Int32}
    (h1 : cS d 176 [(.ref 279), (.int (0)), (.int (3))] (mkH hi hl sw kp) (am_ret (cW cd_201 d Q) 119 [some (.ref 279), some (.int x1), some (.int x2), some (.int x3), some (.int x4), none] []))
    : cW cd_201 d Q 113 [some (.ref 279), some (.int x1), some (.int x2), some (.int x3), some (.int x4), none] [] (mkH hi hl sw kp) :=
  cW.run (am_in [4, 13, 25, 35, 64, 75, 113, 119]) 4 (cC.of (h1))
set_option maxRecDepth 100000 in
theorem k_201_119 {x1 : Int32} {x2 : Int32} {x3 : Int32} {x4 : Int32} {s0 : Int32}
    (h1 : (hi 279 2) = (4) → x4 = 0 → (hi 279 2) ≤ 0 → x4 = 0 → vp_in (((4) * x1) + x2) 16)
    (h2 : (hi 279 2) = (4) → x4 = 0 → (hi 279 2) ≤ 0 → x4 = 0 → Q none (mkH (u2 (u2 hi 293 (((4) * x1) + x2).toNatClampNeg s0) 279 39 ((hi 279 39) + (1))) hl sw kp))
    (h3 : (hi 279 2) = (4) → x4 = 0 → (hi 279 2) ≤ 0 → ¬ (x4 = 0) → vp_in (((4) * x1) + x2) 16)
    (h4 : (hi 279 2) = (4) → x4 = 0 → (hi 279 2) ≤ 0 → ¬ (x4 = 0) → Q none (mkH (u2 (u2 hi 293 (((4) * x1) + x2).toNatClampNeg (-s0)) 279 39 ((hi 279 39) + (1))) hl sw kp))
    (h5 : (hi 279 2) = (4) → x4 = 0 → ¬ ((hi 279 2) ≤ 0) → Q none (mkH hi hl sw kp))
    (h6 : (hi 279 2) = (4) → ¬ (x4 = 0) → (hi 279 2) ≤ 0 → x4 = 0 → vp_in (((4) * x1) + x2) 16)
    (h7 : (hi 279 2) = (4) → ¬ (x4 = 0) → (hi 279 2) ≤ 0 → x4 = 0 → Q none (mkH (u2 (u2 (u2 hi 279 3 x3) 293 (((4) * x1) + x2).toNatClampNeg s0) 279 39 ((hi 279 39) + (1))) hl sw kp))
    (h8 : (hi 279 2) = (4) → ¬ (x4 = 0) → (hi 279 2) ≤ 0 → ¬ (x4 = 0) → vp_in (((4) * x1) + x2) 16)
    (h9 : (hi 279 2) = (4) → ¬ (x4 = 0) → (hi 279 2) ≤ 0 → ¬ (x4 = 0) → Q none (mkH (u2 (u2 (u2 hi 279 3 x3) 293 (((4) * x1) + x2).toNatClampNeg (-s0)) 279 39 ((hi 279 39) + (1))) hl sw kp))
    (h10 : (hi 279 2) = (4) → ¬ (x4 = 0) → ¬ ((hi 279 2) ≤ 0) → Q none (mkH (u2 hi 279 3 x3) hl sw kp))
    (h11 : ¬ ((hi 279 2) = (4)) → (hi 279 2) ≤ 0 → x4 = 0 → vp_in (((4) * x1) + x2) 16)
    (h12 : ¬ ((hi 279 2) = (4)) → (hi 279 2) ≤ 0 → x4 = 0 → Q none (mkH (u2 (u2 hi 293 (((4) * x1) + x2).toNatClampNeg s0) 279 39 ((hi 279 39) + (1))) hl sw kp))
    (h13 : ¬ ((hi 279 2) = (4)) → (hi 279 2) ≤ 0 → ¬ (x4 = 0) → vp_in (((4) * x1) + x2) 16)
    (h14 : ¬ ((hi 279 2) = (4)) → (hi 279 2) ≤ 0 → ¬ (x4 = 0) → Q none (mkH (u2 (u2 hi 293 (((4) * x1) + x2).toNatClampNeg (-s0)) 279 39 ((hi 279 39) + (1))) hl sw kp))
    (h15 : ¬ ((hi 279 2) = (4)) → ¬ ((hi 279 2) ≤ 0) → Q none (mkH hi hl sw kp))
    : cW cd_201 d Q 119 [some (.ref 279), some (.int x1), some (.int x2), some (.int x3), some (.int x4), none] [(.int s0)] (mkH hi hl sw kp) :=
  cW.run (am_in [4, 13, 25, 35, 64, 75, 113, 119]) 33 (And.intro (Nat.le_of_ble_eq_true rfl) (And.intro (fun c1 => (And.intro (fun c2 => (And.intro (fun c3 => (And.intro (fun c4 => (And.intro (h1 c1 c2 c3 c4) (And.intro rfl (cQ.of (h2 c1 c2 c3 c4))))) (fun c5 => (And.intro (h3 c1 c2 c3 c5) (And.intro rfl (cQ.of (h4 c1 c2 c3 c5))))))) (fun c6 => (cQ.of (h5 c1 c2 c6))))) (fun c7 => (And.intro (fun c8 => (And.intro (fun c9 => (And.intro (h6 c1 c7 c8 c9) (And.intro rfl (cQ.of (h7 c1 c7 c8 c9))))) (fun c10 => (And.intro (h8 c1 c7 c8 c10) (And.intro rfl (cQ.of (h9 c1 c7 c8 c10))))))) (fun c11 => (cQ.of (h10 c1 c7 c11))))))) (fun c12 => (And.intro (fun c13 => (And.intro (fun c14 => (And.intro (h11 c12 c13 c14) (And.intro rfl (cQ.of (h12 c12 c13 c14))))) (fun c15 => (And.intro (h13 c12 c13 c15) (And.intro rfl (cQ.of (h14 c12 c13 c15))))))) (fun c16 => (cQ.of (h15 c12 c16)))))))
-- 202: DogDecreesModel.readStart()V
set_option maxRecDepth 100000 in
theorem k_202_0
    (h1 : cS d 170 [(.ref 279)] (mkH hi hl sw kp) (am_ret (cW cd_202 d Q) 4 [some (.ref 279)] []))
    : cW cd_202 d Q 0 [some (.ref 279)] [] (mkH hi hl sw kp) :=
  cW.run (am_in [4, 19, 33]) 2 (cC.of (h1))
theorem e_202
    (h1 : cS d 170 [(.ref 279)] (mkH hi hl sw kp) (am_ret (cW cd_202 d Q) 4 [some (.ref 279)] []))
    : cS (d + 1) 202 [(.ref 279)] (mkH hi hl sw kp) Q := cS.of rfl (k_202_0 h1)
set_option maxRecDepth 100000 in
theorem k_202_4
    (h1 : cS d 180 [(.ref 279), (.int (4)), (.int (hi 279 36))] (mkH (u2 hi 279 55 (1)) hl sw kp) (am_ret (cW cd_202 d Q) 19 [some (.ref 279)] [(.ref 279)]))
    : cW cd_202 d Q 4 [some (.ref 279)] [] (mkH hi hl sw kp) :=
  cW.run (am_in [4, 19, 33]) 9 (And.intro (Or.inr rfl) (cC.of (h1)))
set_option maxRecDepth 100000 in
theorem k_202_19 {s1 : Int32}
    (h1 : (hi 279 2) = 0 → cS d 170 [(.ref 279)] (mkH (u2 hi 279 42 s1) hl sw kp) (am_ret (cW cd_202 d Q) 33 [some (.ref 279)] []))
    (h2 : ¬ ((hi 279 2) = 0) → cW cd_202 d Q 33 [some (.ref 279)] [] (mkH (u2 hi 279 42 s1) hl sw kp))
    : cW cd_202 d Q 19 [some (.ref 279)] [(.int s1), (.ref 279)] (mkH hi hl sw kp) :=
  cW.run (am_in [4, 19, 33]) 6 (And.intro (fun c1 => (cC.of (h1 c1))) (fun c2 => (h2 c2)))
set_option maxRecDepth 100000 in
theorem k_202_33
    (h1 : Q none (mkH hi hl sw kp))
    : cW cd_202 d Q 33 [some (.ref 279)] [] (mkH hi hl sw kp) :=
  cW.run (am_in [4, 19, 33]) 1 (cQ.of (h1))
-- 203: DogDecreesModel.readLine()V
set_option maxRecDepth 100000 in
theorem k_203_0
    (h1 : cS d 172 [(.ref 279), (.long (1684366692))] (mkH hi hl sw kp) (am_ret (cW cd_203 d Q) 7 [some (.ref 279)] []))
    : cW cd_203 d Q 0 [some (.ref 279)] [] (mkH hi hl sw kp) :=
  cW.run (am_in [7, 22, 32, 48, 58, 74, 84, 99, 109, 125, 135, 154, 164, 190, 203, 229, 242, 256, 266, 292, 305, 332, 343, 364, 375]) 3 (cC.of (h1))
theorem e_203
    (h1 : cS d 172 [(.ref 279), (.long (1684366692))] (mkH hi hl sw kp) (am_ret (cW cd_203 d Q) 7 [some (.ref 279)] []))
    : cS (d + 1) 203 [(.ref 279)] (mkH hi hl sw kp) Q := cS.of rfl (k_203_0 h1)
set_option maxRecDepth 100000 in
theorem k_203_7 {s0 : Int32}
    (h1 : s0 = 0 → cS d 172 [(.ref 279), (.long (482854658917))] (mkH hi hl sw kp) (am_ret (cW cd_203 d Q) 32 [some (.ref 279)] []))
    (h2 : ¬ (s0 = 0) → (4) ≤ (hi 279 35) → cS d 172 [(.ref 279), (.long (482854658917))] (mkH hi hl sw kp) (am_ret (cW cd_203 d Q) 32 [some (.ref 279)] []))
    (h3 : ¬ (s0 = 0) → ¬ ((4) ≤ (hi 279 35)) → cS d 197 [(.ref 279)] (mkH hi hl sw kp) (am_ret (cW cd_203 d Q) 22 [some (.ref 279)] []))
    : cW cd_203 d Q 7 [some (.ref 279)] [(.int s0)] (mkH hi hl sw kp) :=
  cW.run (am_in [7, 22, 32, 48, 58, 74, 84, 99, 109, 125, 135, 154, 164, 190, 203, 229, 242, 256, 266, 292, 305, 332, 343, 364, 375]) 8 (And.intro (fun c1 => (cC.of (h1 c1))) (fun c2 => (And.intro (fun c3 => (cC.of (h2 c2 c3))) (fun c4 => (cC.of (h3 c2 c4))))))
set_option maxRecDepth 100000 in
theorem k_203_22
    (h1 : cW cd_203 d Q 343 [some (.ref 279)] [] (mkH hi hl sw kp))
    : cW cd_203 d Q 22 [some (.ref 279)] [] (mkH hi hl sw kp) :=
  cW.run (am_in [7, 22, 32, 48, 58, 74, 84, 99, 109, 125, 135, 154, 164, 190, 203, 229, 242, 256, 266, 292, 305, 332, 343, 364, 375]) 1 (h1)
set_option maxRecDepth 100000 in
theorem k_203_32 {s0 : Int32}
    (h1 : s0 = 0 → cS d 172 [(.ref 279), (.long (1885434984))] (mkH hi hl sw kp) (am_ret (cW cd_203 d Q) 58 [some (.ref 279)] []))
    (h2 : ¬ (s0 = 0) → (8) ≤ (hi 279 36) → cS d 172 [(.ref 279), (.long (1885434984))] (mkH hi hl sw kp) (am_ret (cW cd_203 d Q) 58 [some (.ref 279)] []))
    (h3 : ¬ (s0 = 0) → ¬ ((8) ≤ (hi 279 36)) → cS d 198 [(.ref 279)] (mkH hi hl sw kp) (am_ret (cW cd_203 d Q) 48 [some (.ref 279)] []))
    : cW cd_203 d Q 32 [some (.ref 279)] [(.int s0)] (mkH hi hl sw kp) :=
  cW.run (am_in [7, 22, 32, 48, 58, 74, 84, 99, 109, 125, 135, 154, 164, 190, 203, 229, 242, 256, 266, 292, 305, 332, 343, 364, 375]) 8 (And.intro (fun c1 => (cC.of (h1 c1))) (fun c2 => (And.intro (fun c3 => (cC.of (h2 c2 c3))) (fun c4 => (cC.of (h3 c2 c4))))))
set_option maxRecDepth 100000 in
theorem k_203_48
    (h1 : cW cd_203 d Q 343 [some (.ref 279)] [] (mkH hi hl sw kp))
    : cW cd_203 d Q 48 [some (.ref 279)] [] (mkH hi hl sw kp) :=
  cW.run (am_in [7, 22, 32, 48, 58, 74, 84, 99, 109, 125, 135, 154, 164, 190, 203, 229, 242, 256, 266, 292, 305, 332, 343, 364, 375]) 1 (h1)
set_option maxRecDepth 100000 in
theorem k_203_58 {s0 : Int32}
    (h1 : s0 = 0 → cS d 172 [(.ref 279), (.long (1667330917))] (mkH hi hl sw kp) (am_ret (cW cd_203 d Q) 84 [some (.ref 279)] []))
    (h2 : ¬ (s0 = 0) → (16) ≤ (hi 279 37) → cS d 172 [(.ref 279), (.long (1667330917))] (mkH hi hl sw kp) (am_ret (cW cd_203 d Q) 84 [some (.ref 279)] []))
    (h3 : ¬ (s0 = 0) → ¬ ((16) ≤ (hi 279 37)) → cS d 199 [(.ref 279)] (mkH hi hl sw kp) (am_ret (cW cd_203 d Q) 74 [some (.ref 279)] []))
    : cW cd_203 d Q 58 [some (.ref 279)] [(.int s0)] (mkH hi hl sw kp) :=
  cW.run (am_in [7, 22, 32, 48, 58, 74, 84, 99, 109, 125, 135, 154, 164, 190, 203, 229, 242, 256, 266, 292, 305, 332, 343, 364, 375]) 8 (And.intro (fun c1 => (cC.of (h1 c1))) (fun c2 => (And.intro (fun c3 => (cC.of (h2 c2 c3))) (fun c4 => (cC.of (h3 c2 c4))))))
set_option maxRecDepth 100000 in
theorem k_203_74
    (h1 : cW cd_203 d Q 343 [some (.ref 279)] [] (mkH hi hl sw kp))
    : cW cd_203 d Q 74 [some (.ref 279)] [] (mkH hi hl sw kp) :=
  cW.run (am_in [7, 22, 32, 48, 58, 74, 84, 99, 109, 125, 135, 154, 164, 190, 203, 229, 242, 256, 266, 292, 305, 332, 343, 364, 375]) 1 (h1)
set_option maxRecDepth 100000 in
theorem k_203_84 {s0 : Int32}
    (h1 : s0 = 0 → cS d 172 [(.ref 279), (.long (2003330414))] (mkH hi hl sw kp) (am_ret (cW cd_203 d Q) 109 [some (.ref 279)] []))
    (h2 : ¬ (s0 = 0) → (4) ≤ (hi 279 38) → cS d 172 [(.ref 279), (.long (2003330414))] (mkH hi hl sw kp) (am_ret (cW cd_203 d Q) 109 [some (.ref 279)] []))
    (h3 : ¬ (s0 = 0) → ¬ ((4) ≤ (hi 279 38)) → cS d 200 [(.ref 279)] (mkH hi hl sw kp) (am_ret (cW cd_203 d Q) 99 [some (.ref 279)] []))
    : cW cd_203 d Q 84 [some (.ref 279)] [(.int s0)] (mkH hi hl sw kp) :=
  cW.run (am_in [7, 22, 32, 48, 58, 74, 84, 99, 109, 125, 135, 154, 164, 190, 203, 229, 242, 256, 266, 292, 305, 332, 343, 364, 375]) 8 (And.intro (fun c1 => (cC.of (h1 c1))) (fun c2 => (And.intro (fun c3 => (cC.of (h2 c2 c3))) (fun c4 => (cC.of (h3 c2 c4))))))
set_option maxRecDepth 100000 in
theorem k_203_99
    (h1 : cW cd_203 d Q 343 [some (.ref 279)] [] (mkH hi hl sw kp))
    : cW cd_203 d Q 99 [some (.ref 279)] [] (mkH hi hl sw kp) :=
  cW.run (am_in [7, 22, 32, 48, 58, 74, 84, 99, 109, 125, 135, 154, 164, 190, 203, 229, 242, 256, 266, 292, 305, 332, 343, 364, 375]) 1 (h1)
set_option maxRecDepth 100000 in
theorem k_203_109 {s0 : Int32}
    (h1 : s0 = 0 → cS d 172 [(.ref 279), (.long (1886743660))] (mkH hi hl sw kp) (am_ret (cW cd_203 d Q) 135 [some (.ref 279)] []))
    (h2 : ¬ (s0 = 0) → (16) ≤ (hi 279 39) → cS d 172 [(.ref 279), (.long (1886743660))] (mkH hi hl sw kp) (am_ret (cW cd_203 d Q) 135 [some (.ref 279)] []))
    (h3 : ¬ (s0 = 0) → ¬ ((16) ≤ (hi 279 39)) → cS d 201 [(.ref 279)] (mkH hi hl sw kp) (am_ret (cW cd_203 d Q) 125 [some (.ref 279)] []))
    : cW cd_203 d Q 109 [some (.ref 279)] [(.int s0)] (mkH hi hl sw kp) :=
  cW.run (am_in [7, 22, 32, 48, 58, 74, 84, 99, 109, 125, 135, 154, 164, 190, 203, 229, 242, 256, 266, 292, 305, 332, 343, 364, 375]) 8 (And.intro (fun c1 => (cC.of (h1 c1))) (fun c2 => (And.intro (fun c3 => (cC.of (h2 c2 c3))) (fun c4 => (cC.of (h3 c2 c4))))))
set_option maxRecDepth 100000 in
theorem k_203_125
    (h1 : cW cd_203 d Q 343 [some (.ref 279)] [] (mkH hi hl sw kp))
    : cW cd_203 d Q 125 [some (.ref 279)] [] (mkH hi hl sw kp) :=
  cW.run (am_in [7, 22, 32, 48, 58, 74, 84, 99, 109, 125, 135, 154, 164, 190, 203, 229, 242, 256, 266, 292, 305, 332, 343, 364, 375]) 1 (h1)
set_option maxRecDepth 100000 in
theorem k_203_135 {s0 : Int32}
    (h1 : s0 = 0 → cS d 172 [(.ref 279), (.long (6578553))] (mkH hi hl sw kp) (am_ret (cW cd_203 d Q) 164 [some (.ref 279)] []))
    (h2 : ¬ (s0 = 0) → (hi 279 52) = 0 → cS d 193 [(.ref 279)] (mkH (u2 hi 279 52 (1)) hl sw kp) (am_ret (cW cd_203 d Q) 154 [some (.ref 279)] []))
    (h3 : ¬ (s0 = 0) → ¬ ((hi 279 52) = 0) → cS d 172 [(.ref 279), (.long (6578553))] (mkH hi hl sw kp) (am_ret (cW cd_203 d Q) 164 [some (.ref 279)] []))
    : cW cd_203 d Q 135 [some (.ref 279)] [(.int s0)] (mkH hi hl sw kp) :=
  cW.run (am_in [7, 22, 32, 48, 58, 74, 84, 99, 109, 125, 135, 154, 164, 190, 203, 229, 242, 256, 266, 292, 305, 332, 343, 364, 375]) 9 (And.intro (fun c1 => (cC.of (h1 c1))) (fun c2 => (And.intro (fun c3 => (And.intro (Or.inr rfl) (cC.of (h2 c2 c3)))) (fun c4 => (cC.of (h3 c2 c4))))))
set_option maxRecDepth 100000 in
theorem k_203_154
    (h1 : cW cd_203 d Q 343 [some (.ref 279)] [] (mkH hi hl sw kp))
    : cW cd_203 d Q 154 [some (.ref 279)] [] (mkH hi hl sw kp) :=
  cW.run (am_in [7, 22, 32, 48, 58, 74, 84, 99, 109, 125, 135, 154, 164, 190, 203, 229, 242, 256, 266, 292, 305, 332, 343, 364, 375]) 1 (h1)
set_option maxRecDepth 100000 in
theorem k_203_164 {s0 : Int32}
    (h1 : s0 = 0 → cS d 172 [(.ref 279), (.long (448377483891))] (mkH hi hl sw kp) (am_ret (cW cd_203 d Q) 203 [some (.ref 279)] []))
    (h2 : ¬ (s0 = 0) → (hi 279 53) = 0 → cS d 177 [(.ref 279), (.long (6578553)), (.int (1)), (.int (24))] (mkH (u2 hi 279 53 (1)) hl sw kp) (am_ret (cW cd_203 d Q) 190 [some (.ref 279)] [(.ref 279)]))
    (h3 : ¬ (s0 = 0) → ¬ ((hi 279 53) = 0) → cS d 172 [(.ref 279), (.long (448377483891))] (mkH hi hl sw kp) (am_ret (cW cd_203 d Q) 203 [some (.ref 279)] []))
    : cW cd_203 d Q 164 [some (.ref 279)] [(.int s0)] (mkH hi hl sw kp) :=
  cW.run (am_in [7, 22, 32, 48, 58, 74, 84, 99, 109, 125, 135, 154, 164, 190, 203, 229, 242, 256, 266, 292, 305, 332, 343, 364, 375]) 13 (And.intro (fun c1 => (cC.of (h1 c1))) (fun c2 => (And.intro (fun c3 => (And.intro (Or.inr rfl) (cC.of (h2 c2 c3)))) (fun c4 => (cC.of (h3 c2 c4))))))
set_option maxRecDepth 100000 in
theorem k_203_190 {s1 : Int32}
    (h1 : cW cd_203 d Q 343 [some (.ref 279)] [] (mkH (u2 hi 279 40 s1) hl sw kp))
    : cW cd_203 d Q 190 [some (.ref 279)] [(.int s1), (.ref 279)] (mkH hi hl sw kp) :=
  cW.run (am_in [7, 22, 32, 48, 58, 74, 84, 99, 109, 125, 135, 154, 164, 190, 203, 229, 242, 256, 266, 292, 305, 332, 343, 364, 375]) 2 (h1)
set_option maxRecDepth 100000 in
theorem k_203_203 {s0 : Int32}
    (h1 : s0 = 0 → cS d 172 [(.ref 279), (.long (495873782388))] (mkH hi hl sw kp) (am_ret (cW cd_203 d Q) 242 [some (.ref 279)] []))
    (h2 : ¬ (s0 = 0) → (hi 279 54) = 0 → cS d 177 [(.ref 279), (.long (448377483891)), (.int (1)), (.int (24))] (mkH (u2 hi 279 54 (1)) hl sw kp) (am_ret (cW cd_203 d Q) 229 [some (.ref 279)] [(.ref 279)]))
    (h3 : ¬ (s0 = 0) → ¬ ((hi 279 54) = 0) → cS d 172 [(.ref 279), (.long (495873782388))] (mkH hi hl sw kp) (am_ret (cW cd_203 d Q) 242 [some (.ref 279)] []))
    : cW cd_203 d Q 203 [some (.ref 279)] [(.int s0)] (mkH hi hl sw kp) :=
  cW.run (am_in [7, 22, 32, 48, 58, 74, 84, 99, 109, 125, 135, 154, 164, 190, 203, 229, 242, 256, 266, 292, 305, 332, 343, 364, 375]) 13 (And.intro (fun c1 => (cC.of (h1 c1))) (fun c2 => (And.intro (fun c3 => (And.intro (Or.inr rfl) (cC.of (h2 c2 c3)))) (fun c4 => (cC.of (h3 c2 c4))))))
set_option maxRecDepth 100000 in
theorem k_203_229 {s1 : Int32}
    (h1 : cW cd_203 d Q 343 [some (.ref 279)] [] (mkH (u2 hi 279 41 s1) hl sw kp))
    : cW cd_203 d Q 229 [some (.ref 279)] [(.int s1), (.ref 279)] (mkH hi hl sw kp) :=
  cW.run (am_in [7, 22, 32, 48, 58, 74, 84, 99, 109, 125, 135, 154, 164, 190, 203, 229, 242, 256, 266, 292, 305, 332, 343, 364, 375]) 2 (h1)
set_option maxRecDepth 100000 in
theorem k_203_242 {s0 : Int32}
    (h1 : s0 = 0 → cS d 172 [(.ref 279), (.long (6383461))] (mkH hi hl sw kp) (am_ret (cW cd_203 d Q) 266 [some (.ref 279)] []))
    (h2 : ¬ (s0 = 0) → (hi 279 55) = 0 → cS d 202 [(.ref 279)] (mkH hi hl sw kp) (am_ret (cW cd_203 d Q) 256 [some (.ref 279)] []))
    (h3 : ¬ (s0 = 0) → ¬ ((hi 279 55) = 0) → cS d 172 [(.ref 279), (.long (6383461))] (mkH hi hl sw kp) (am_ret (cW cd_203 d Q) 266 [some (.ref 279)] []))
    : cW cd_203 d Q 242 [some (.ref 279)] [(.int s0)] (mkH hi hl sw kp) :=
  cW.run (am_in [7, 22, 32, 48, 58, 74, 84, 99, 109, 125, 135, 154, 164, 190, 203, 229, 242, 256, 266, 292, 305, 332, 343, 364, 375]) 7 (And.intro (fun c1 => (cC.of (h1 c1))) (fun c2 => (And.intro (fun c3 => (cC.of (h2 c2 c3))) (fun c4 => (cC.of (h3 c2 c4))))))
set_option maxRecDepth 100000 in
theorem k_203_256
    (h1 : cW cd_203 d Q 343 [some (.ref 279)] [] (mkH hi hl sw kp))
    : cW cd_203 d Q 256 [some (.ref 279)] [] (mkH hi hl sw kp) :=
  cW.run (am_in [7, 22, 32, 48, 58, 74, 84, 99, 109, 125, 135, 154, 164, 190, 203, 229, 242, 256, 266, 292, 305, 332, 343, 364, 375]) 1 (h1)
set_option maxRecDepth 100000 in
theorem k_203_266 {s0 : Int32}
    (h1 : s0 = 0 → cS d 172 [(.ref 279), (.long (1685217655))] (mkH hi hl sw kp) (am_ret (cW cd_203 d Q) 305 [some (.ref 279)] []))
    (h2 : ¬ (s0 = 0) → (hi 279 56) = 0 → cS d 177 [(.ref 279), (.long (6383461)), (.int (0)), (.int (99))] (mkH (u2 hi 279 56 (1)) hl sw kp) (am_ret (cW cd_203 d Q) 292 [some (.ref 279)] [(.ref 279)]))
    (h3 : ¬ (s0 = 0) → ¬ ((hi 279 56) = 0) → cS d 172 [(.ref 279), (.long (1685217655))] (mkH hi hl sw kp) (am_ret (cW cd_203 d Q) 305 [some (.ref 279)] []))
    : cW cd_203 d Q 266 [some (.ref 279)] [(.int s0)] (mkH hi hl sw kp) :=
  cW.run (am_in [7, 22, 32, 48, 58, 74, 84, 99, 109, 125, 135, 154, 164, 190, 203, 229, 242, 256, 266, 292, 305, 332, 343, 364, 375]) 13 (And.intro (fun c1 => (cC.of (h1 c1))) (fun c2 => (And.intro (fun c3 => (And.intro (Or.inr rfl) (cC.of (h2 c2 c3)))) (fun c4 => (cC.of (h3 c2 c4))))))
set_option maxRecDepth 100000 in
theorem k_203_292 {s1 : Int32}
    (h1 : cW cd_203 d Q 343 [some (.ref 279)] [] (mkH (u2 hi 279 43 s1) hl sw kp))
    : cW cd_203 d Q 292 [some (.ref 279)] [(.int s1), (.ref 279)] (mkH hi hl sw kp) :=
  cW.run (am_in [7, 22, 32, 48, 58, 74, 84, 99, 109, 125, 135, 154, 164, 190, 203, 229, 242, 256, 266, 292, 305, 332, 343, 364, 375]) 2 (h1)
set_option maxRecDepth 100000 in
theorem k_203_305 {s0 : Int32}
    (h1 : s0 = 0 → cS d 171 [(.ref 279), (.int (2))] (mkH hi hl sw kp) (am_ret (cW cd_203 d Q) 343 [some (.ref 279)] []))
    (h2 : ¬ (s0 = 0) → (hi 279 57) = 0 → cS d 177 [(.ref 279), (.long (1685217655)), (.int (0)), (.int (999))] (mkH (u2 hi 279 57 (1)) hl sw kp) (am_ret (cW cd_203 d Q) 332 [some (.ref 279)] [(.ref 279)]))
    (h3 : ¬ (s0 = 0) → ¬ ((hi 279 57) = 0) → cS d 171 [(.ref 279), (.int (2))] (mkH hi hl sw kp) (am_ret (cW cd_203 d Q) 343 [some (.ref 279)] []))
    : cW cd_203 d Q 305 [some (.ref 279)] [(.int s0)] (mkH hi hl sw kp) :=
  cW.run (am_in [7, 22, 32, 48, 58, 74, 84, 99, 109, 125, 135, 154, 164, 190, 203, 229, 242, 256, 266, 292, 305, 332, 343, 364, 375]) 13 (And.intro (fun c1 => (cC.of (h1 c1))) (fun c2 => (And.intro (fun c3 => (And.intro (Or.inr rfl) (cC.of (h2 c2 c3)))) (fun c4 => (cC.of (h3 c2 c4))))))
set_option maxRecDepth 100000 in
theorem k_203_332 {s1 : Int32}
    (h1 : cW cd_203 d Q 343 [some (.ref 279)] [] (mkH (u2 hi 279 44 s1) hl sw kp))
    : cW cd_203 d Q 332 [some (.ref 279)] [(.int s1), (.ref 279)] (mkH hi hl sw kp) :=
  cW.run (am_in [7, 22, 32, 48, 58, 74, 84, 99, 109, 125, 135, 154, 164, 190, 203, 229, 242, 256, 266, 292, 305, 332, 343, 364, 375]) 2 (h1)
set_option maxRecDepth 100000 in
theorem k_203_343
    (h1 : (hi 279 2) = 0 → (hi 279 6) = (59) → cW cd_203 d Q 364 [some (.ref 279)] [] (mkH hi hl sw kp))
    (h2 : (hi 279 2) = 0 → ¬ ((hi 279 6) = (59)) → cS d 171 [(.ref 279), (.int (2))] (mkH hi hl sw kp) (am_ret (cW cd_203 d Q) 364 [some (.ref 279)] []))
    (h3 : ¬ ((hi 279 2) = 0) → cW cd_203 d Q 364 [some (.ref 279)] [] (mkH hi hl sw kp))
    : cW cd_203 d Q 343 [some (.ref 279)] [] (mkH hi hl sw kp) :=
  cW.run (am_in [7, 22, 32, 48, 58, 74, 84, 99, 109, 125, 135, 154, 164, 190, 203, 229, 242, 256, 266, 292, 305, 332, 343, 364, 375]) 10 (And.intro (fun c1 => (And.intro (fun c2 => (h1 c1 c2)) (fun c3 => (cC.of (h2 c1 c3))))) (fun c4 => (h3 c4)))
set_option maxRecDepth 100000 in
theorem k_203_364
    (h1 : (hi 279 2) = 0 → cS d 170 [(.ref 279)] (mkH hi hl sw kp) (am_ret (cW cd_203 d Q) 375 [some (.ref 279)] []))
    (h2 : ¬ ((hi 279 2) = 0) → cW cd_203 d Q 375 [some (.ref 279)] [] (mkH hi hl sw kp))
    : cW cd_203 d Q 364 [some (.ref 279)] [] (mkH hi hl sw kp) :=
  cW.run (am_in [7, 22, 32, 48, 58, 74, 84, 99, 109, 125, 135, 154, 164, 190, 203, 229, 242, 256, 266, 292, 305, 332, 343, 364, 375]) 5 (And.intro (fun c1 => (cC.of (h1 c1))) (fun c2 => (h2 c2)))
set_option maxRecDepth 100000 in
theorem k_203_375
    (h1 : Q none (mkH hi hl sw kp))
    : cW cd_203 d Q 375 [some (.ref 279)] [] (mkH hi hl sw kp) :=
  cW.run (am_in [7, 22, 32, 48, 58, 74, 84, 99, 109, 125, 135, 154, 164, 190, 203, 229, 242, 256, 266, 292, 305, 332, 343, 364, 375]) 1 (cQ.of (h1))
-- 204: DogDecreesModel.readAll()V
set_option maxRecDepth 100000 in
theorem k_204_0
    (h1 : cW cd_204 d Q 38 [some (.ref 279)] [] (mkH (u2 (u2 (u2 (u2 (u2 (u2 (u2 hi 279 5 (hi 279 1)) 279 1 (0)) 279 4 (0)) 279 2 (0)) 279 3 (-1)) 279 35 (0)) 279 36 (0)) hl sw kp))
    : cW cd_204 d Q 0 [some (.ref 279)] [] (mkH hi hl sw kp) :=
  cW.run (am_in [38, 74, 109, 123, 141]) 22 (h1)
theorem e_204
    (h1 : cW cd_204 d Q 38 [some (.ref 279)] [] (mkH (u2 (u2 (u2 (u2 (u2 (u2 (u2 hi 279 5 (hi 279 1)) 279 1 (0)) 279 4 (0)) 279 2 (0)) 279 3 (-1)) 279 35 (0)) 279 36 (0)) hl sw kp))
    : cS (d + 1) 204 [(.ref 279)] (mkH hi hl sw kp) Q := cS.of rfl (k_204_0 h1)
set_option maxRecDepth 100000 in
theorem k_204_38
    (h1 : cW cd_204 d Q 74 [some (.ref 279)] [] (mkH (u2 (u2 (u2 (u2 (u2 (u2 (u2 hi 279 37 (0)) 279 38 (0)) 279 39 (0)) 279 40 (8)) 279 41 (1)) 279 42 (0)) 279 43 (0)) hl sw kp))
    : cW cd_204 d Q 38 [some (.ref 279)] [] (mkH hi hl sw kp) :=
  cW.run (am_in [38, 74, 109, 123, 141]) 21 (h1)
set_option maxRecDepth 100000 in
theorem k_204_74
    (h1 : cW cd_204 d Q 109 [some (.ref 279)] [] (mkH (u2 (u2 (u2 (u2 (u2 (u2 (u2 hi 279 44 (0)) 279 52 (0)) 279 53 (0)) 279 54 (0)) 279 55 (0)) 279 56 (0)) 279 57 (0)) hl sw kp))
    : cW cd_204 d Q 74 [some (.ref 279)] [] (mkH hi hl sw kp) :=
  cW.run (am_in [38, 74, 109, 123, 141]) 21 (And.intro (Or.inl rfl) (And.intro (Or.inl rfl) (And.intro (Or.inl rfl) (And.intro (Or.inl rfl) (And.intro (Or.inl rfl) (And.intro (Or.inl rfl) (h1)))))))
set_option maxRecDepth 100000 in
theorem k_204_109
    (h1 : cS d 170 [(.ref 279)] (mkH (u2 (u2 hi 279 20 (0)) 279 17 (0)) hl sw kp) (am_ret (cW cd_204 d Q) 123 [some (.ref 279)] []))
    : cW cd_204 d Q 109 [some (.ref 279)] [] (mkH hi hl sw kp) :=
  cW.run (am_in [38, 74, 109, 123, 141]) 8 (cC.of (h1))
set_option maxRecDepth 100000 in
theorem k_204_123
    (h1 : (hi 279 2) = 0 → (hi 279 6) = 0 → Q none (mkH hi hl sw kp))
    (h2 : (hi 279 2) = 0 → ¬ ((hi 279 6) = 0) → cS d 203 [(.ref 279)] (mkH hi hl sw kp) (am_ret (cW cd_204 d Q) 141 [some (.ref 279)] []))
    (h3 : ¬ ((hi 279 2) = 0) → Q none (mkH hi hl sw kp))
    : cW cd_204 d Q 123 [some (.ref 279)] [] (mkH hi hl sw kp) :=
  cW.run (am_in [38, 74, 109, 123, 141]) 8 (And.intro (fun c1 => (And.intro (fun c2 => (cQ.of (h1 c1 c2))) (fun c3 => (cC.of (h2 c1 c3))))) (fun c4 => (cQ.of (h3 c4))))
set_option maxRecDepth 100000 in
theorem k_204_141
    (h1 : cW cd_204 d Q 123 [some (.ref 279)] [] (mkH hi hl sw kp))
    : cW cd_204 d Q 141 [some (.ref 279)] [] (mkH hi hl sw kp) :=
  cW.run (am_in [38, 74, 109, 123, 141]) 1 (h1)
-- 205: DogDecreesModel.village()I
set_option maxRecDepth 100000 in
theorem k_205_0
    (h1 : cS d 204 [(.ref 279)] (mkH hi hl sw kp) (am_ret (cW cd_205 d Q) 4 [some (.ref 279), none] []))
    : cW cd_205 d Q 0 [some (.ref 279), none] [] (mkH hi hl sw kp) :=
  cW.run (am_in [4, 69, 106, 146, 196, 221, 283, 366, 368]) 2 (cC.of (h1))
theorem e_205
    (h1 : cS d 204 [(.ref 279)] (mkH hi hl sw kp) (am_ret (cW cd_205 d Q) 4 [some (.ref 279), none] []))
    : cS (d + 1) 205 [(.ref 279)] (mkH hi hl sw kp) Q := cS.of rfl (k_205_0 h1)
set_option maxRecDepth 100000 in
theorem k_205_4
    (h1 : (hi 279 2) ≤ 0 → cW cd_205 d Q 69 [some (.ref 279), none] [] (mkH (u2 (u2 (u2 (u2 (u2 (u2 (u2 hi 279 45 (hi 279 35)) 279 46 (hi 279 36)) 279 47 (hi 279 37)) 279 48 (hi 279 38)) 279 50 (hi 279 40)) 279 51 (hi 279 41)) 279 49 (hi 279 42)) hl sw kp))
    (h2 : ¬ ((hi 279 2) ≤ 0) → Q (some (.int (-1))) (mkH hi hl sw kp))
    : cW cd_205 d Q 4 [some (.ref 279), none] [] (mkH hi hl sw kp) :=
  cW.run (am_in [4, 69, 106, 146, 196, 221, 283, 366, 368]) 31 (And.intro (fun c1 => (h1 c1)) (fun c2 => (cQ.of (h2 c2))))
set_option maxRecDepth 100000 in
theorem k_205_69
    (h1 : (hi 279 52) = 0 ∨ (hi 279 52) = 1)
    (h2 : (hi 279 52) = 0 → cW cd_205 d Q 106 [some (.ref 279), some (.int (0))] [] (mkH (u2 (u2 (u2 hi 279 21 (hi 279 20)) 279 58 (hi 279 52)) 279 18 (0)) hl sw kp))
    (h3 : ¬ ((hi 279 52) = 0) → cW cd_205 d Q 106 [some (.ref 279), some (.int (0))] [] (mkH (u2 (u2 (u2 hi 279 21 (hi 279 20)) 279 58 (hi 279 52)) 279 18 (hi 279 17)) hl sw kp))
    : cW cd_205 d Q 69 [some (.ref 279), none] [] (mkH hi hl sw kp) :=
  cW.run (am_in [4, 69, 106, 146, 196, 221, 283, 366, 368]) 18 (And.intro (h1) (And.intro (fun c1 => (And.intro (Nat.le_of_ble_eq_true rfl) (h2 c1))) (fun c2 => (And.intro (Nat.le_of_ble_eq_true rfl) (h3 c2)))))
set_option maxRecDepth 100000 in
theorem k_205_106 {x1 : Int32}
    (h1 : (hi 279 18) ≤ x1 → cW cd_205 d Q 146 [some (.ref 279), some (.int (0))] [] (mkH hi hl sw kp))
    (h2 : ¬ ((hi 279 18) ≤ x1) → vp_in x1 320)
    (h3 : ¬ ((hi 279 18) ≤ x1) → vp_in x1 320)
    (h4 : ¬ ((hi 279 18) ≤ x1) → vp_in x1 320)
    (h5 : ¬ ((hi 279 18) ≤ x1) → vp_in x1 320)
    (h6 : ¬ ((hi 279 18) ≤ x1) → cW cd_205 d Q 106 [some (.ref 279), some (.int (x1 + (1)))] [] (mkH (u2 (u2 hi 284 x1.toNatClampNeg (hi 282 x1.toNatClampNeg)) 285 x1.toNatClampNeg (hi 283 x1.toNatClampNeg)) hl sw kp))
    : cW cd_205 d Q 106 [some (.ref 279), some (.int x1)] [] (mkH hi hl sw kp) :=
  cW.run (am_in [4, 69, 106, 146, 196, 221, 283, 366, 368]) 22 (And.intro (fun c1 => (And.intro (Nat.le_of_ble_eq_true rfl) (h1 c1))) (fun c2 => (And.intro (h2 c2) (And.intro (h3 c2) (And.intro (h4 c2) (And.intro (h5 c2) (And.intro (Nat.le_of_ble_eq_true rfl) (h6 c2))))))))
set_option maxRecDepth 100000 in
theorem k_205_146 {x1 : Int32}
    (h1 : (8) ≤ x1 → cW cd_205 d Q 196 [some (.ref 279), some (.int (0))] [] (mkH hi hl sw kp))
    (h2 : ¬ ((8) ≤ x1) → vp_in x1 8)
    (h3 : ¬ ((8) ≤ x1) → vp_in x1 8)
    (h4 : ¬ ((8) ≤ x1) → vp_in x1 8)
    (h5 : ¬ ((8) ≤ x1) → vp_in x1 8)
    (h6 : ¬ ((8) ≤ x1) → vp_in x1 8)
    (h7 : ¬ ((8) ≤ x1) → vp_in x1 8)
    (h8 : ¬ ((8) ≤ x1) → cW cd_205 d Q 146 [some (.ref 279), some (.int (x1 + (1)))] [] (mkH (u2 (u2 (u2 hi 294 x1.toNatClampNeg (hi 289 x1.toNatClampNeg)) 295 x1.toNatClampNeg (hi 290 x1.toNatClampNeg)) 296 x1.toNatClampNeg (hi 291 x1.toNatClampNeg)) hl sw kp))
    : cW cd_205 d Q 146 [some (.ref 279), some (.int x1)] [] (mkH hi hl sw kp) :=
  cW.run (am_in [4, 69, 106, 146, 196, 221, 283, 366, 368]) 29 (And.intro (fun c1 => (And.intro (Nat.le_of_ble_eq_true rfl) (h1 c1))) (fun c2 => (And.intro (h2 c2) (And.intro (h3 c2) (And.intro (h4 c2) (And.intro (h5 c2) (And.intro (h6 c2) (And.intro (h7 c2) (And.intro (Nat.le_of_ble_eq_true rfl) (h8 c2))))))))))
set_option maxRecDepth 100000 in
theorem k_205_196 {x1 : Int32}
    (h1 : (4) ≤ x1 → cW cd_205 d Q 221 [some (.ref 279), some (.int (0))] [] (mkH hi hl sw kp))
    (h2 : ¬ ((4) ≤ x1) → vp_in x1 4)
    (h3 : ¬ ((4) ≤ x1) → vp_in x1 4)
    (h4 : ¬ ((4) ≤ x1) → cW cd_205 d Q 196 [some (.ref 279), some (.int (x1 + (1)))] [] (mkH (u2 hi 297 x1.toNatClampNeg (hi 292 x1.toNatClampNeg)) hl sw kp))
    : cW cd_205 d Q 196 [some (.ref 279), some (.int x1)] [] (mkH hi hl sw kp) :=
  cW.run (am_in [4, 69, 106, 146, 196, 221, 283, 366, 368]) 13 (And.intro (fun c1 => (And.intro (Nat.le_of_ble_eq_true rfl) (h1 c1))) (fun c2 => (And.intro (h2 c2) (And.intro (h3 c2) (And.intro (Nat.le_of_ble_eq_true rfl) (h4 c2))))))
set_option maxRecDepth 100000 in
theorem k_205_221 {x1 : Int32}
    (h1 : (16) ≤ x1 → cW cd_205 d Q 283 [some (.ref 279), some (.int (0))] [] (mkH hi hl sw kp))
    (h2 : ¬ ((16) ≤ x1) → (hi 279 45) ≤ (x1 / (4)) → vp_in x1 16)
    (h3 : ¬ ((16) ≤ x1) → (hi 279 45) ≤ (x1 / (4)) → cW cd_205 d Q 221 [some (.ref 279), some (.int (x1 + (1)))] [] (mkH (u2 hi 298 x1.toNatClampNeg (0)) hl sw kp))
    (h4 : ¬ ((16) ≤ x1) → ¬ ((hi 279 45) ≤ (x1 / (4))) → (hi 279 48) ≤ (x1 - x1 / (4) * (4)) → vp_in x1 16)
    (h5 : ¬ ((16) ≤ x1) → ¬ ((hi 279 45) ≤ (x1 / (4))) → (hi 279 48) ≤ (x1 - x1 / (4) * (4)) → cW cd_205 d Q 221 [some (.ref 279), some (.int (x1 + (1)))] [] (mkH (u2 hi 298 x1.toNatClampNeg (0)) hl sw kp))
    (h6 : ¬ ((16) ≤ x1) → ¬ ((hi 279 45) ≤ (x1 / (4))) → ¬ ((hi 279 48) ≤ (x1 - x1 / (4) * (4))) → vp_in x1 16)
    (h7 : ¬ ((16) ≤ x1) → ¬ ((hi 279 45) ≤ (x1 / (4))) → ¬ ((hi 279 48) ≤ (x1 - x1 / (4) * (4))) → (hi 293 x1.toNatClampNeg) = (-1000000) → vp_in x1 16)
    (h8 : ¬ ((16) ≤ x1) → ¬ ((hi 279 45) ≤ (x1 / (4))) → ¬ ((hi 279 48) ≤ (x1 - x1 / (4) * (4))) → (hi 293 x1.toNatClampNeg) = (-1000000) → cW cd_205 d Q 221 [some (.ref 279), some (.int (x1 + (1)))] [] (mkH (u2 hi 298 x1.toNatClampNeg (0)) hl sw kp))
    (h9 : ¬ ((16) ≤ x1) → ¬ ((hi 279 45) ≤ (x1 / (4))) → ¬ ((hi 279 48) ≤ (x1 - x1 / (4) * (4))) → ¬ ((hi 293 x1.toNatClampNeg) = (-1000000)) → vp_in x1 16)
    (h10 : ¬ ((16) ≤ x1) → ¬ ((hi 279 45) ≤ (x1 / (4))) → ¬ ((hi 279 48) ≤ (x1 - x1 / (4) * (4))) → ¬ ((hi 293 x1.toNatClampNeg) = (-1000000)) → vp_in x1 16)
    (h11 : ¬ ((16) ≤ x1) → ¬ ((hi 279 45) ≤ (x1 / (4))) → ¬ ((hi 279 48) ≤ (x1 - x1 / (4) * (4))) → ¬ ((hi 293 x1.toNatClampNeg) = (-1000000)) → cW cd_205 d Q 221 [some (.ref 279), some (.int (x1 + (1)))] [] (mkH (u2 hi 298 x1.toNatClampNeg (hi 293 x1.toNatClampNeg)) hl sw kp))
    : cW cd_205 d Q 221 [some (.ref 279), some (.int x1)] [] (mkH hi hl sw kp) :=
  cW.run (am_in [4, 69, 106, 146, 196, 221, 283, 366, 368]) 32 (And.intro (fun c1 => (And.intro (Nat.le_of_ble_eq_true rfl) (h1 c1))) (fun c2 => (And.intro (show ¬ ((4) : Int32) = 0 by decide +kernel) (And.intro (fun c3 => (And.intro (h2 c2 c3) (And.intro (Nat.le_of_ble_eq_true rfl) (h3 c2 c3)))) (fun c4 => (And.intro (show ¬ ((4) : Int32) = 0 by decide +kernel) (And.intro (fun c5 => (And.intro (h4 c2 c4 c5) (And.intro (Nat.le_of_ble_eq_true rfl) (h5 c2 c4 c5)))) (fun c6 => (And.intro (h6 c2 c4 c6) (And.intro (fun c7 => (And.intro (h7 c2 c4 c6 c7) (And.intro (Nat.le_of_ble_eq_true rfl) (h8 c2 c4 c6 c7)))) (fun c8 => (And.intro (h9 c2 c4 c6 c8) (And.intro (h10 c2 c4 c6 c8) (And.intro (Nat.le_of_ble_eq_true rfl) (h11 c2 c4 c6 c8)))))))))))))))
set_option maxRecDepth 100000 in
theorem k_205_283 {x1 : Int32}
    (h1 : (81) ≤ x1 → (hi 279 46) ≤ 0 → cW cd_205 d Q 366 [some (.ref 279), some (.int x1)] [] (mkH (u2 (u2 (u2 (u2 (u2 (u2 (u2 hi 299 16 (-1)) 299 18 (hi 279 43)) 299 19 (hi 279 44)) 279 66 (0)) 279 67 (0)) 279 86 (0)) 279 75 (0)) hl sw kp))
    (h2 : (81) ≤ x1 → ¬ ((hi 279 46) ≤ 0) → cW cd_205 d Q 366 [some (.ref 279), some (.int x1)] [] (mkH (u2 (u2 (u2 (u2 (u2 (u2 (u2 hi 299 16 (hi 279 42)) 299 18 (hi 279 43)) 299 19 (hi 279 44)) 279 66 (0)) 279 67 (0)) 279 86 (0)) 279 75 (0)) hl sw kp))
    (h3 : ¬ ((81) ≤ x1) → vp_in x1 82)
    (h4 : ¬ ((81) ≤ x1) → cW cd_205 d Q 283 [some (.ref 279), some (.int (x1 + (1)))] [] (mkH (u2 hi 299 x1.toNatClampNeg (0)) hl sw kp))
    : cW cd_205 d Q 283 [some (.ref 279), some (.int x1)] [] (mkH hi hl sw kp) :=
  cW.run (am_in [4, 69, 106, 146, 196, 221, 283, 366, 368]) 37 (And.intro (fun c1 => (And.intro (fun c2 => (And.intro (show vp_in 16 82 from vin_l (by decide +kernel)) (And.intro (show vp_in 18 82 from vin_l (by decide +kernel)) (And.intro (show vp_in 19 82 from vin_l (by decide +kernel)) (h1 c1 c2))))) (fun c3 => (And.intro (show vp_in 16 82 from vin_l (by decide +kernel)) (And.intro (show vp_in 18 82 from vin_l (by decide +kernel)) (And.intro (show vp_in 19 82 from vin_l (by decide +kernel)) (h2 c1 c3))))))) (fun c4 => (And.intro (h3 c4) (And.intro (Nat.le_of_ble_eq_true rfl) (h4 c4)))))
set_option maxRecDepth 100000 in
theorem k_205_366 {x1 : Int32}
    (h1 : cW cd_205 d Q 368 [some (.ref 279), some (.int (0))] [] (mkH hi hl sw kp))
    : cW cd_205 d Q 366 [some (.ref 279), some (.int x1)] [] (mkH hi hl sw kp) :=
  cW.run (am_in [4, 69, 106, 146, 196, 221, 283, 366, 368]) 2 (And.intro (Nat.le_of_ble_eq_true rfl) (h1))
set_option maxRecDepth 100000 in
theorem k_205_368 {x1 : Int32}
    (h1 : (3) ≤ x1 → Q (some (.int (hi 279 46))) (mkH hi hl sw kp))
    (h2 : ¬ ((3) ≤ x1) → vp_in x1 3)
    (h3 : ¬ ((3) ≤ x1) → cW cd_205 d Q 368 [some (.ref 279), some (.int (x1 + (1)))] [] (mkH (u2 hi 322 x1.toNatClampNeg (vp_nar .boolean (0))) hl sw kp))
    : cW cd_205 d Q 368 [some (.ref 279), some (.int x1)] [] (mkH hi hl sw kp) :=
  cW.run (am_in [4, 69, 106, 146, 196, 221, 283, 366, 368]) 10 (And.intro (fun c1 => (cQ.of (h1 c1))) (fun c2 => (And.intro (h2 c2) (And.intro (Nat.le_of_ble_eq_true rfl) (h3 c2)))))
-- 206: DogDecreesModel.fault(I)I
set_option maxRecDepth 100000 in
theorem k_206_0 {x1 : Int32}
    (h1 : x1 = 0 → Q (some (.int (hi 279 2))) (mkH hi hl sw kp))
    (h2 : ¬ (x1 = 0) → x1 = (1) → Q (some (.int (hi 279 3))) (mkH hi hl sw kp))
    (h3 : ¬ (x1 = 0) → ¬ (x1 = (1)) → Q (some (.int (-1))) (mkH hi hl sw kp))
    : cW cd_206 d Q 0 [some (.ref 279), some (.int x1)] [] (mkH hi hl sw kp) :=
  cW.run (am_in []) 9 (And.intro (fun c1 => (cQ.of (h1 c1))) (fun c2 => (And.intro (fun c3 => (cQ.of (h2 c2 c3))) (fun c4 => (cQ.of (h3 c2 c4))))))
theorem e_206 {x1 : Int32}
    (h1 : x1 = 0 → Q (some (.int (hi 279 2))) (mkH hi hl sw kp))
    (h2 : ¬ (x1 = 0) → x1 = (1) → Q (some (.int (hi 279 3))) (mkH hi hl sw kp))
    (h3 : ¬ (x1 = 0) → ¬ (x1 = (1)) → Q (some (.int (-1))) (mkH hi hl sw kp))
    : cS (d + 1) 206 [(.ref 279), (.int x1)] (mkH hi hl sw kp) Q := cS.of rfl (k_206_0 h1 h2 h3)
-- 207: DogDecreesModel.isIn(III)Z
set_option maxRecDepth 100000 in
theorem k_207_0 {x0 : Int32} {x1 : Int32} {x2 : Int32}
    (h1 : x0 < x1 → Q (some (.int (0))) (mkH hi hl sw kp))
    (h2 : ¬ (x0 < x1) → x2 < x0 → Q (some (.int (0))) (mkH hi hl sw kp))
    (h3 : ¬ (x0 < x1) → ¬ (x2 < x0) → Q (some (.int (1))) (mkH hi hl sw kp))
    : cW cd_207 d Q 0 [some (.int x0), some (.int x1), some (.int x2)] [] (mkH hi hl sw kp) :=
  cW.run (am_in []) 9 (And.intro (fun c1 => (And.intro (Or.inl rfl) (cQ.of (h1 c1)))) (fun c2 => (And.intro (fun c3 => (And.intro (Or.inl rfl) (cQ.of (h2 c2 c3)))) (fun c4 => (And.intro (Or.inr rfl) (cQ.of (h3 c2 c4)))))))
theorem e_207 {x0 : Int32} {x1 : Int32} {x2 : Int32}
    (h1 : x0 < x1 → Q (some (.int (0))) (mkH hi hl sw kp))
    (h2 : ¬ (x0 < x1) → x2 < x0 → Q (some (.int (0))) (mkH hi hl sw kp))
    (h3 : ¬ (x0 < x1) → ¬ (x2 < x0) → Q (some (.int (1))) (mkH hi hl sw kp))
    : cS (d + 1) 207 [(.int x0), (.int x1), (.int x2)] (mkH hi hl sw kp) Q := cS.of rfl (k_207_0 h1 h2 h3)
-- 208: DogDecreesModel.isPlace(I)Z
set_option maxRecDepth 100000 in
theorem k_208_0 {x1 : Int32}
    (h1 : cS d 207 [(.int x1), (.int (0)), (.int ((hi 279 46) - (1)))] (mkH hi hl sw kp) (am_ret (cW cd_208 d Q) 11 [some (.ref 279), some (.int x1)] []))
    : cW cd_208 d Q 0 [some (.ref 279), some (.int x1)] [] (mkH hi hl sw kp) :=
  cW.run (am_in [11]) 7 (cC.of (h1))
theorem e_208 {x1 : Int32}
    (h1 : cS d 207 [(.int x1), (.int (0)), (.int ((hi 279 46) - (1)))] (mkH hi hl sw kp) (am_ret (cW cd_208 d Q) 11 [some (.ref 279), some (.int x1)] []))
    : cS (d + 1) 208 [(.ref 279), (.int x1)] (mkH hi hl sw kp) Q := cS.of rfl (k_208_0 h1)
set_option maxRecDepth 100000 in
theorem k_208_11 {x1 : Int32} {s0 : Int32}
    (h1 : s0 = 0 ∨ s0 = 1)
    (h2 : Q (some (.int s0)) (mkH hi hl sw kp))
    : cW cd_208 d Q 11 [some (.ref 279), some (.int x1)] [(.int s0)] (mkH hi hl sw kp) :=
  cW.run (am_in [11]) 1 (And.intro (h1) (cQ.of (h2)))
-- 209: DogDecreesModel.isCase(I)Z
set_option maxRecDepth 100000 in
theorem k_209_0 {x1 : Int32}
    (h1 : cS d 207 [(.int x1), (.int (0)), (.int ((hi 279 48) - (1)))] (mkH hi hl sw kp) (am_ret (cW cd_209 d Q) 11 [some (.ref 279), some (.int x1)] []))
    : cW cd_209 d Q 0 [some (.ref 279), some (.int x1)] [] (mkH hi hl sw kp) :=
  cW.run (am_in [11]) 7 (cC.of (h1))
theorem e_209 {x1 : Int32}
    (h1 : cS d 207 [(.int x1), (.int (0)), (.int ((hi 279 48) - (1)))] (mkH hi hl sw kp) (am_ret (cW cd_209 d Q) 11 [some (.ref 279), some (.int x1)] []))
    : cS (d + 1) 209 [(.ref 279), (.int x1)] (mkH hi hl sw kp) Q := cS.of rfl (k_209_0 h1)
set_option maxRecDepth 100000 in
theorem k_209_11 {x1 : Int32} {s0 : Int32}
    (h1 : s0 = 0 ∨ s0 = 1)
    (h2 : Q (some (.int s0)) (mkH hi hl sw kp))
    : cW cd_209 d Q 11 [some (.ref 279), some (.int x1)] [(.int s0)] (mkH hi hl sw kp) :=
  cW.run (am_in [11]) 1 (And.intro (h1) (cQ.of (h2)))
-- 210: DogDecreesModel.isDeed(I)Z
set_option maxRecDepth 100000 in
theorem k_210_0 {x1 : Int32}
    (h1 : cS d 207 [(.int x1), (.int (0)), (.int ((hi 279 45) - (1)))] (mkH hi hl sw kp) (am_ret (cW cd_210 d Q) 11 [some (.ref 279), some (.int x1)] []))
    : cW cd_210 d Q 0 [some (.ref 279), some (.int x1)] [] (mkH hi hl sw kp) :=
  cW.run (am_in [11]) 7 (cC.of (h1))
theorem e_210 {x1 : Int32}
    (h1 : cS d 207 [(.int x1), (.int (0)), (.int ((hi 279 45) - (1)))] (mkH hi hl sw kp) (am_ret (cW cd_210 d Q) 11 [some (.ref 279), some (.int x1)] []))
    : cS (d + 1) 210 [(.ref 279), (.int x1)] (mkH hi hl sw kp) Q := cS.of rfl (k_210_0 h1)
set_option maxRecDepth 100000 in
theorem k_210_11 {x1 : Int32} {s0 : Int32}
    (h1 : s0 = 0 ∨ s0 = 1)
    (h2 : Q (some (.int s0)) (mkH hi hl sw kp))
    : cW cd_210 d Q 11 [some (.ref 279), some (.int x1)] [(.int s0)] (mkH hi hl sw kp) :=
  cW.run (am_in [11]) 1 (And.intro (h1) (cQ.of (h2)))
-- 211: DogDecreesModel.load()V
set_option maxRecDepth 100000 in
theorem k_211_0
    (h1 : cW cd_211 d Q 2 [some (.ref 279), some (.int (0))] [] (mkH hi hl sw kp))
    : cW cd_211 d Q 0 [some (.ref 279), none] [] (mkH hi hl sw kp) :=
  cW.run (am_in [2]) 2 (And.intro (Nat.le_of_ble_eq_true rfl) (h1))
theorem e_211
    (h1 : cW cd_211 d Q 2 [some (.ref 279), some (.int (0))] [] (mkH hi hl sw kp))
    : cS (d + 1) 211 [(.ref 279)] (mkH hi hl sw kp) Q := cS.of rfl (k_211_0 h1)
set_option maxRecDepth 100000 in
theorem k_211_2 {x1 : Int32}
    (h1 : (8) ≤ x1 → Q none (mkH (u2 (u2 hi 279 61 (hi 299 17)) 279 62 (hi 299 18)) hl sw kp))
    (h2 : ¬ ((8) ≤ x1) → vp_in ((0) + x1) 82)
    (h3 : ¬ ((8) ≤ x1) → vp_in x1 8)
    (h4 : ¬ ((8) ≤ x1) → cW cd_211 d Q 2 [some (.ref 279), some (.int (x1 + (1)))] [] (mkH (u2 hi 300 x1.toNatClampNeg (hi 299 ((0) + x1).toNatClampNeg)) hl sw kp))
    : cW cd_211 d Q 2 [some (.ref 279), some (.int x1)] [] (mkH hi hl sw kp) :=
  cW.run (am_in [2]) 16 (And.intro (fun c1 => (And.intro (show vp_in 17 82 from vin_l (by decide +kernel)) (And.intro (show vp_in 18 82 from vin_l (by decide +kernel)) (cQ.of (h1 c1))))) (fun c2 => (And.intro (h2 c2) (And.intro (h3 c2) (And.intro (Nat.le_of_ble_eq_true rfl) (h4 c2))))))
-- 212: DogDecreesModel.tick()V
set_option maxRecDepth 100000 in
theorem k_212_0
    (h1 : ¬ (hi 279 50) = 0)
    (h2 : (((hi 279 61) + (1)) - ((hi 279 61) + (1)) / (hi 279 50) * (hi 279 50)) ≤ 0 → cW cd_212 d Q 25 [some (.ref 279), some (.int (0))] [] (mkH (u2 hi 279 61 ((hi 279 61) + (1))) hl sw kp))
    (h3 : ¬ ((((hi 279 61) + (1)) - ((hi 279 61) + (1)) / (hi 279 50) * (hi 279 50)) ≤ 0) → Q none (mkH (u2 hi 279 61 ((hi 279 61) + (1))) hl sw kp))
    : cW cd_212 d Q 0 [some (.ref 279), none] [] (mkH hi hl sw kp) :=
  cW.run (am_in [25]) 14 (And.intro rfl (And.intro (h1) (And.intro (fun c1 => (And.intro (Nat.le_of_ble_eq_true rfl) (h2 c1))) (fun c2 => (cQ.of (h3 c2))))))
theorem e_212
    (h1 : ¬ (hi 279 50) = 0)
    (h2 : (((hi 279 61) + (1)) - ((hi 279 61) + (1)) / (hi 279 50) * (hi 279 50)) ≤ 0 → cW cd_212 d Q 25 [some (.ref 279), some (.int (0))] [] (mkH (u2 hi 279 61 ((hi 279 61) + (1))) hl sw kp))
    (h3 : ¬ ((((hi 279 61) + (1)) - ((hi 279 61) + (1)) / (hi 279 50) * (hi 279 50)) ≤ 0) → Q none (mkH (u2 hi 279 61 ((hi 279 61) + (1))) hl sw kp))
    : cS (d + 1) 212 [(.ref 279)] (mkH hi hl sw kp) Q := cS.of rfl (k_212_0 h1 h2 h3)
set_option maxRecDepth 100000 in
theorem k_212_25 {x1 : Int32}
    (h1 : (8) ≤ x1 → (99) ≤ (hi 279 62) → Q none (mkH hi hl sw kp))
    (h2 : (8) ≤ x1 → ¬ ((99) ≤ (hi 279 62)) → Q none (mkH (u2 hi 279 62 ((hi 279 62) + (1))) hl sw kp))
    (h3 : ¬ ((8) ≤ x1) → vp_in x1 8)
    (h4 : ¬ ((8) ≤ x1) → cW cd_212 d Q 25 [some (.ref 279), some (.int (x1 + (1)))] [] (mkH (u2 hi 300 x1.toNatClampNeg (0)) hl sw kp))
    : cW cd_212 d Q 25 [some (.ref 279), some (.int x1)] [] (mkH hi hl sw kp) :=
  cW.run (am_in [25]) 14 (And.intro (fun c1 => (And.intro (fun c2 => (cQ.of (h1 c1 c2))) (fun c3 => (And.intro rfl (cQ.of (h2 c1 c3)))))) (fun c4 => (And.intro (h3 c4) (And.intro (Nat.le_of_ble_eq_true rfl) (h4 c4)))))
end BLK
