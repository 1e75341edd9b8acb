/-! ===== blocks of methods, by program ===== -/
def am_in : List Nat → Nat → Bool
  | [], _ => false
  | a :: l, i => bif Nat.beq i a then true else am_in l i
theorem vin_l {i : Int32} {n : Nat} (h : decide (i < 0 ∨ n ≤ i.toNatClampNeg) = false) : vp_in i n := of_decide_eq_false h
section BLK
variable {d : Nat} {Q : am_Q} {hi : Nat → Nat → Int32} {hl : Nat → Nat → Int64} {sw : Bool} {kp : Nat → Nat}
-- 163: DogDecreesModel.feed(IIIII)I
set_option maxRecDepth 100000 in
theorem k_163_0 {x1 : Int32} {x2 : Int32} {x3 : Int32} {x4 : Int32} {x5 : Int32}
    (h1 : ((hi 279 1) + (20)) ≤ (1600) → cS d 164 [(.ref 279), (.int x1)] (mkH hi hl sw kp) (am_ret (cW cd_163 d Q) 20 [some (.ref 279), some (.int x1), some (.int x2), some (.int x3), some (.int x4), some (.int x5)] []))
    (h2 : ¬ (((hi 279 1) + (20)) ≤ (1600)) → Q (some (.int (-1))) (mkH hi hl sw kp))
    : cW cd_163 d Q 0 [some (.ref 279), some (.int x1), some (.int x2), some (.int x3), some (.int x4), some (.int x5)] [] (mkH hi hl sw kp) :=
  cW.run (am_in [20, 25, 30, 36, 42]) 9 (And.intro (fun c1 => (cC.of (h1 c1))) (fun c2 => (cQ.of (h2 c2))))
theorem e_163 {x1 : Int32} {x2 : Int32} {x3 : Int32} {x4 : Int32} {x5 : Int32}
    (h1 : ((hi 279 1) + (20)) ≤ (1600) → cS d 164 [(.ref 279), (.int x1)] (mkH hi hl sw kp) (am_ret (cW cd_163 d Q) 20 [some (.ref 279), some (.int x1), some (.int x2), some (.int x3), some (.int x4), some (.int x5)] []))
    (h2 : ¬ (((hi 279 1) + (20)) ≤ (1600)) → Q (some (.int (-1))) (mkH hi hl sw kp))
    : cS (d + 1) 163 [(.ref 279), (.int x1), (.int x2), (.int x3), (.int x4), (.int x5)] (mkH hi hl sw kp) Q := cS.of rfl (k_163_0 h1 h2)
set_option maxRecDepth 100000 in
theorem k_163_20 {x1 : Int32} {x2 : Int32} {x3 : Int32} {x4 : Int32} {x5 : Int32}
    (h1 : cS d 164 [(.ref 279), (.int x2)] (mkH hi hl sw kp) (am_ret (cW cd_163 d Q) 25 [some (.ref 279), some (.int x1), some (.int x2), some (.int x3), some (.int x4), some (.int x5)] []))
    : cW cd_163 d Q 20 [some (.ref 279), some (.int x1), some (.int x2), some (.int x3), some (.int x4), some (.int x5)] [] (mkH hi hl sw kp) :=
  cW.run (am_in [20, 25, 30, 36, 42]) 3 (cC.of (h1))
set_option maxRecDepth 100000 in
theorem k_163_25 {x1 : Int32} {x2 : Int32} {x3 : Int32} {x4 : Int32} {x5 : Int32}
    (h1 : cS d 164 [(.ref 279), (.int x3)] (mkH hi hl sw kp) (am_ret (cW cd_163 d Q) 30 [some (.ref 279), some (.int x1), some (.int x2), some (.int x3), some (.int x4), some (.int x5)] []))
    : cW cd_163 d Q 25 [some (.ref 279), some (.int x1), some (.int x2), some (.int x3), some (.int x4), some (.int x5)] [] (mkH hi hl sw kp) :=
  cW.run (am_in [20, 25, 30, 36, 42]) 3 (cC.of (h1))
set_option maxRecDepth 100000 in
theorem k_163_30 {x1 : Int32} {x2 : Int32} {x3 : Int32} {x4 : Int32} {x5 : Int32}
    (h1 : cS d 164 [(.ref 279), (.int x4)] (mkH hi hl sw kp) (am_ret (cW cd_163 d Q) 36 [some (.ref 279), some (.int x1), some (.int x2), some (.int x3), some (.int x4), some (.int x5)] []))
    : cW cd_163 d Q 30 [some (.ref 279), some (.int x1), some (.int x2), some (.int x3), some (.int x4), some (.int x5)] [] (mkH hi hl sw kp) :=
  cW.run (am_in [20, 25, 30, 36, 42]) 3 (cC.of (h1))
set_option maxRecDepth 100000 in
theorem k_163_36 {x1 : Int32} {x2 : Int32} {x3 : Int32} {x4 : Int32} {x5 : Int32}
    (h1 : cS d 164 [(.ref 279), (.int x5)] (mkH hi hl sw kp) (am_ret (cW cd_163 d Q) 42 [some (.ref 279), some (.int x1), some (.int x2), some (.int x3), some (.int x4), some (.int x5)] []))
    : cW cd_163 d Q 36 [some (.ref 279), some (.int x1), some (.int x2), some (.int x3), some (.int x4), some (.int x5)] [] (mkH hi hl sw kp) :=
  cW.run (am_in [20, 25, 30, 36, 42]) 3 (cC.of (h1))
set_option maxRecDepth 100000 in
theorem k_163_42 {x1 : Int32} {x2 : Int32} {x3 : Int32} {x4 : Int32} {x5 : Int32}
    (h1 : Q (some (.int (hi 279 1))) (mkH hi hl sw kp))
    : cW cd_163 d Q 42 [some (.ref 279), some (.int x1), some (.int x2), some (.int x3), some (.int x4), some (.int x5)] [] (mkH hi hl sw kp) :=
  cW.run (am_in [20, 25, 30, 36, 42]) 3 (cQ.of (h1))
-- 164: DogDecreesModel.four(I)V
set_option maxRecDepth 100000 in
theorem k_164_0 {x1 : Int32}
    (h1 : cW cd_164 d Q 3 [some (.ref 279), some (.int x1), some (.int (24))] [] (mkH hi hl sw kp))
    : cW cd_164 d Q 0 [some (.ref 279), some (.int x1), none] [] (mkH hi hl sw kp) :=
  cW.run (am_in [3]) 2 (And.intro (Nat.le_of_ble_eq_true rfl) (h1))
theorem e_164 {x1 : Int32}
    (h1 : cW cd_164 d Q 3 [some (.ref 279), some (.int x1), some (.int (24))] [] (mkH hi hl sw kp))
    : cS (d + 1) 164 [(.ref 279), (.int x1)] (mkH hi hl sw kp) Q := cS.of rfl (k_164_0 h1)
set_option maxRecDepth 100000 in
theorem k_164_3 {x1 : Int32} {x2 : Int32}
    (h1 : x2 < 0 → Q none (mkH hi hl sw kp))
    (h2 : ¬ (x2 < 0) → vp_in (hi 279 1) 1600)
    (h3 : ¬ (x2 < 0) → cW cd_164 d Q 3 [some (.ref 279), some (.int x1), some (.int (x2 + (-8)))] [] (mkH (u2 (u2 hi 280 (hi 279 1).toNatClampNeg ((x1 >>> (x2 &&& 31)) &&& (255))) 279 1 ((hi 279 1) + (1))) hl sw kp))
    : cW cd_164 d Q 3 [some (.ref 279), some (.int x1), some (.int x2)] [] (mkH hi hl sw kp) :=
  cW.run (am_in [3]) 20 (And.intro (fun c1 => (cQ.of (h1 c1))) (fun c2 => (And.intro (h2 c2) (And.intro rfl (And.intro (Nat.le_of_ble_eq_true rfl) (h3 c2))))))
-- 165: DogDecreesModel.end(I)I
set_option maxRecDepth 100000 in
theorem k_165_0 {x1 : Int32}
    (h1 : x1 < 0 → Q (some (.int (-1))) (mkH hi hl sw kp))
    (h2 : ¬ (x1 < 0) → x1 ≤ (hi 279 1) → Q (some (.int x1)) (mkH (u2 hi 279 1 x1) hl sw kp))
    (h3 : ¬ (x1 < 0) → ¬ (x1 ≤ (hi 279 1)) → Q (some (.int (-1))) (mkH hi hl sw kp))
    : cW cd_165 d Q 0 [some (.ref 279), some (.int x1)] [] (mkH hi hl sw kp) :=
  cW.run (am_in []) 11 (And.intro (fun c1 => (cQ.of (h1 c1))) (fun c2 => (And.intro (fun c3 => (cQ.of (h2 c2 c3))) (fun c4 => (cQ.of (h3 c2 c4))))))
theorem e_165 {x1 : Int32}
    (h1 : x1 < 0 → Q (some (.int (-1))) (mkH hi hl sw kp))
    (h2 : ¬ (x1 < 0) → x1 ≤ (hi 279 1) → Q (some (.int x1)) (mkH (u2 hi 279 1 x1) hl sw kp))
    (h3 : ¬ (x1 < 0) → ¬ (x1 ≤ (hi 279 1)) → Q (some (.int (-1))) (mkH hi hl sw kp))
    : cS (d + 1) 165 [(.ref 279), (.int x1)] (mkH hi hl sw kp) Q := cS.of rfl (k_165_0 h1 h2 h3)
-- 166: DogDecreesModel.here(I)I
set_option maxRecDepth 100000 in
theorem k_166_0 {x1 : Int32}
    (h1 : (hi 279 5) ≤ ((hi 279 4) + x1) → Q (some (.int (-1))) (mkH hi hl sw kp))
    (h2 : ¬ ((hi 279 5) ≤ ((hi 279 4) + x1)) → vp_in ((hi 279 4) + x1) 1600)
    (h3 : ¬ ((hi 279 5) ≤ ((hi 279 4) + x1)) → Q (some (.int (hi 280 ((hi 279 4) + x1).toNatClampNeg))) (mkH hi hl sw kp))
    : cW cd_166 d Q 0 [some (.ref 279), some (.int x1)] [] (mkH hi hl sw kp) :=
  cW.run (am_in []) 16 (And.intro (fun c1 => (cQ.of (h1 c1))) (fun c2 => (And.intro (h2 c2) (cQ.of (h3 c2)))))
theorem e_166 {x1 : Int32}
    (h1 : (hi 279 5) ≤ ((hi 279 4) + x1) → Q (some (.int (-1))) (mkH hi hl sw kp))
    (h2 : ¬ ((hi 279 5) ≤ ((hi 279 4) + x1)) → vp_in ((hi 279 4) + x1) 1600)
    (h3 : ¬ ((hi 279 5) ≤ ((hi 279 4) + x1)) → Q (some (.int (hi 280 ((hi 279 4) + x1).toNatClampNeg))) (mkH hi hl sw kp))
    : cS (d + 1) 166 [(.ref 279), (.int x1)] (mkH hi hl sw kp) Q := cS.of rfl (k_166_0 h1 h2 h3)
-- 167: DogDecreesModel.isLetter(I)Z
set_option maxRecDepth 100000 in
theorem k_167_0 {x0 : Int32}
    (h1 : x0 < (97) → Q (some (.int (0))) (mkH hi hl sw kp))
    (h2 : ¬ (x0 < (97)) → (122) < x0 → Q (some (.int (0))) (mkH hi hl sw kp))
    (h3 : ¬ (x0 < (97)) → ¬ ((122) < x0) → Q (some (.int (1))) (mkH hi hl sw kp))
    : cW cd_167 d Q 0 [some (.int x0)] [] (mkH hi hl sw kp) :=
  cW.run (am_in []) 9 (And.intro (fun c1 => (And.intro (Or.inl rfl) (cQ.of (h1 c1)))) (fun c2 => (And.intro (fun c3 => (And.intro (Or.inl rfl) (cQ.of (h2 c2 c3)))) (fun c4 => (And.intro (Or.inr rfl) (cQ.of (h3 c2 c4)))))))
theorem e_167 {x0 : Int32}
    (h1 : x0 < (97) → Q (some (.int (0))) (mkH hi hl sw kp))
    (h2 : ¬ (x0 < (97)) → (122) < x0 → Q (some (.int (0))) (mkH hi hl sw kp))
    (h3 : ¬ (x0 < (97)) → ¬ ((122) < x0) → Q (some (.int (1))) (mkH hi hl sw kp))
    : cS (d + 1) 167 [(.int x0)] (mkH hi hl sw kp) Q := cS.of rfl (k_167_0 h1 h2 h3)
-- 168: DogDecreesModel.isDigit(I)Z
set_option maxRecDepth 100000 in
theorem k_168_0 {x0 : Int32}
    (h1 : x0 < (48) → Q (some (.int (0))) (mkH hi hl sw kp))
    (h2 : ¬ (x0 < (48)) → (57) < x0 → Q (some (.int (0))) (mkH hi hl sw kp))
    (h3 : ¬ (x0 < (48)) → ¬ ((57) < x0) → Q (some (.int (1))) (mkH hi hl sw kp))
    : cW cd_168 d Q 0 [some (.int x0)] [] (mkH hi hl sw kp) :=
  cW.run (am_in []) 9 (And.intro (fun c1 => (And.intro (Or.inl rfl) (cQ.of (h1 c1)))) (fun c2 => (And.intro (fun c3 => (And.intro (Or.inl rfl) (cQ.of (h2 c2 c3)))) (fun c4 => (And.intro (Or.inr rfl) (cQ.of (h3 c2 c4)))))))
theorem e_168 {x0 : Int32}
    (h1 : x0 < (48) → Q (some (.int (0))) (mkH hi hl sw kp))
    (h2 : ¬ (x0 < (48)) → (57) < x0 → Q (some (.int (0))) (mkH hi hl sw kp))
    (h3 : ¬ (x0 < (48)) → ¬ ((57) < x0) → Q (some (.int (1))) (mkH hi hl sw kp))
    : cS (d + 1) 168 [(.int x0)] (mkH hi hl sw kp) Q := cS.of rfl (k_168_0 h1 h2 h3)
-- 169: DogDecreesModel.isSign(I)Z
set_option maxRecDepth 100000 in
theorem k_169_0 {x0 : Int32}
    (h1 : x0 = (59) → Q (some (.int (1))) (mkH hi hl sw kp))
    (h2 : ¬ (x0 = (59)) → x0 = (40) → Q (some (.int (1))) (mkH hi hl sw kp))
    (h3 : ¬ (x0 = (59)) → ¬ (x0 = (40)) → x0 = (41) → Q (some (.int (1))) (mkH hi hl sw kp))
    (h4 : ¬ (x0 = (59)) → ¬ (x0 = (40)) → ¬ (x0 = (41)) → x0 = (60) → Q (some (.int (1))) (mkH hi hl sw kp))
    (h5 : ¬ (x0 = (59)) → ¬ (x0 = (40)) → ¬ (x0 = (41)) → ¬ (x0 = (60)) → x0 = (62) → Q (some (.int (1))) (mkH hi hl sw kp))
    (h6 : ¬ (x0 = (59)) → ¬ (x0 = (40)) → ¬ (x0 = (41)) → ¬ (x0 = (60)) → ¬ (x0 = (62)) → x0 = (61) → Q (some (.int (1))) (mkH hi hl sw kp))
    (h7 : ¬ (x0 = (59)) → ¬ (x0 = (40)) → ¬ (x0 = (41)) → ¬ (x0 = (60)) → ¬ (x0 = (62)) → ¬ (x0 = (61)) → x0 = (43) → Q (some (.int (1))) (mkH hi hl sw kp))
    (h8 : ¬ (x0 = (59)) → ¬ (x0 = (40)) → ¬ (x0 = (41)) → ¬ (x0 = (60)) → ¬ (x0 = (62)) → ¬ (x0 = (61)) → ¬ (x0 = (43)) → x0 = (45) → Q (some (.int (1))) (mkH hi hl sw kp))
    (h9 : ¬ (x0 = (59)) → ¬ (x0 = (40)) → ¬ (x0 = (41)) → ¬ (x0 = (60)) → ¬ (x0 = (62)) → ¬ (x0 = (61)) → ¬ (x0 = (43)) → ¬ (x0 = (45)) → x0 = (42) → Q (some (.int (1))) (mkH hi hl sw kp))
    (h10 : ¬ (x0 = (59)) → ¬ (x0 = (40)) → ¬ (x0 = (41)) → ¬ (x0 = (60)) → ¬ (x0 = (62)) → ¬ (x0 = (61)) → ¬ (x0 = (43)) → ¬ (x0 = (45)) → ¬ (x0 = (42)) → x0 = (47) → Q (some (.int (1))) (mkH hi hl sw kp))
    (h11 : ¬ (x0 = (59)) → ¬ (x0 = (40)) → ¬ (x0 = (41)) → ¬ (x0 = (60)) → ¬ (x0 = (62)) → ¬ (x0 = (61)) → ¬ (x0 = (43)) → ¬ (x0 = (45)) → ¬ (x0 = (42)) → ¬ (x0 = (47)) → x0 = (37) → Q (some (.int (1))) (mkH hi hl sw kp))
    (h12 : ¬ (x0 = (59)) → ¬ (x0 = (40)) → ¬ (x0 = (41)) → ¬ (x0 = (60)) → ¬ (x0 = (62)) → ¬ (x0 = (61)) → ¬ (x0 = (43)) → ¬ (x0 = (45)) → ¬ (x0 = (42)) → ¬ (x0 = (47)) → ¬ (x0 = (37)) → Q (some (.int (0))) (mkH hi hl sw kp))
    : cW cd_169 d Q 0 [some (.int x0)] [] (mkH hi hl sw kp) :=
  cW.run (am_in []) 36 (And.intro (fun c1 => (And.intro (Or.inr rfl) (cQ.of (h1 c1)))) (fun c2 => (And.intro (fun c3 => (And.intro (Or.inr rfl) (cQ.of (h2 c2 c3)))) (fun c4 => (And.intro (fun c5 => (And.intro (Or.inr rfl) (cQ.of (h3 c2 c4 c5)))) (fun c6 => (And.intro (fun c7 => (And.intro (Or.inr rfl) (cQ.of (h4 c2 c4 c6 c7)))) (fun c8 => (And.intro (fun c9 => (And.intro (Or.inr rfl) (cQ.of (h5 c2 c4 c6 c8 c9)))) (fun c10 => (And.intro (fun c11 => (And.intro (Or.inr rfl) (cQ.of (h6 c2 c4 c6 c8 c10 c11)))) (fun c12 => (And.intro (fun c13 => (And.intro (Or.inr rfl) (cQ.of (h7 c2 c4 c6 c8 c10 c12 c13)))) (fun c14 => (And.intro (fun c15 => (And.intro (Or.inr rfl) (cQ.of (h8 c2 c4 c6 c8 c10 c12 c14 c15)))) (fun c16 => (And.intro (fun c17 => (And.intro (Or.inr rfl) (cQ.of (h9 c2 c4 c6 c8 c10 c12 c14 c16 c17)))) (fun c18 => (And.intro (fun c19 => (And.intro (Or.inr rfl) (cQ.of (h10 c2 c4 c6 c8 c10 c12 c14 c16 c18 c19)))) (fun c20 => (And.intro (fun c21 => (And.intro (Or.inr rfl) (cQ.of (h11 c2 c4 c6 c8 c10 c12 c14 c16 c18 c20 c21)))) (fun c22 => (And.intro (Or.inl rfl) (cQ.of (h12 c2 c4 c6 c8 c10 c12 c14 c16 c18 c20 c22)))))))))))))))))))))))))
theorem e_169 {x0 : Int32}
    (h1 : x0 = (59) → Q (some (.int (1))) (mkH hi hl sw kp))
    (h2 : ¬ (x0 = (59)) → x0 = (40) → Q (some (.int (1))) (mkH hi hl sw kp))
    (h3 : ¬ (x0 = (59)) → ¬ (x0 = (40)) → x0 = (41) → Q (some (.int (1))) (mkH hi hl sw kp))
    (h4 : ¬ (x0 = (59)) → ¬ (x0 = (40)) → ¬ (x0 = (41)) → x0 = (60) → Q (some (.int (1))) (mkH hi hl sw kp))
    (h5 : ¬ (x0 = (59)) → ¬ (x0 = (40)) → ¬ (x0 = (41)) → ¬ (x0 = (60)) → x0 = (62) → Q (some (.int (1))) (mkH hi hl sw kp))
    (h6 : ¬ (x0 = (59)) → ¬ (x0 = (40)) → ¬ (x0 = (41)) → ¬ (x0 = (60)) → ¬ (x0 = (62)) → x0 = (61) → Q (some (.int (1))) (mkH hi hl sw kp))
    (h7 : ¬ (x0 = (59)) → ¬ (x0 = (40)) → ¬ (x0 = (41)) → ¬ (x0 = (60)) → ¬ (x0 = (62)) → ¬ (x0 = (61)) → x0 = (43) → Q (some (.int (1))) (mkH hi hl sw kp))
    (h8 : ¬ (x0 = (59)) → ¬ (x0 = (40)) → ¬ (x0 = (41)) → ¬ (x0 = (60)) → ¬ (x0 = (62)) → ¬ (x0 = (61)) → ¬ (x0 = (43)) → x0 = (45) → Q (some (.int (1))) (mkH hi hl sw kp))
    (h9 : ¬ (x0 = (59)) → ¬ (x0 = (40)) → ¬ (x0 = (41)) → ¬ (x0 = (60)) → ¬ (x0 = (62)) → ¬ (x0 = (61)) → ¬ (x0 = (43)) → ¬ (x0 = (45)) → x0 = (42) → Q (some (.int (1))) (mkH hi hl sw kp))
    (h10 : ¬ (x0 = (59)) → ¬ (x0 = (40)) → ¬ (x0 = (41)) → ¬ (x0 = (60)) → ¬ (x0 = (62)) → ¬ (x0 = (61)) → ¬ (x0 = (43)) → ¬ (x0 = (45)) → ¬ (x0 = (42)) → x0 = (47) → Q (some (.int (1))) (mkH hi hl sw kp))
    (h11 : ¬ (x0 = (59)) → ¬ (x0 = (40)) → ¬ (x0 = (41)) → ¬ (x0 = (60)) → ¬ (x0 = (62)) → ¬ (x0 = (61)) → ¬ (x0 = (43)) → ¬ (x0 = (45)) → ¬ (x0 = (42)) → ¬ (x0 = (47)) → x0 = (37) → Q (some (.int (1))) (mkH hi hl sw kp))
    (h12 : ¬ (x0 = (59)) → ¬ (x0 = (40)) → ¬ (x0 = (41)) → ¬ (x0 = (60)) → ¬ (x0 = (62)) → ¬ (x0 = (61)) → ¬ (x0 = (43)) → ¬ (x0 = (45)) → ¬ (x0 = (42)) → ¬ (x0 = (47)) → ¬ (x0 = (37)) → Q (some (.int (0))) (mkH hi hl sw kp))
    : cS (d + 1) 169 [(.int x0)] (mkH hi hl sw kp) Q := cS.of rfl (k_169_0 h1 h2 h3 h4 h5 h6 h7 h8 h9 h10 h11 h12)
-- 170: DogDecreesModel.token()V
set_option maxRecDepth 100000 in
theorem k_170_0
    (h1 : cS d 166 [(.ref 279), (.int (0))] (mkH hi hl sw kp) (am_ret (cW cd_170 d Q) 5 [some (.ref 279), none, none] []))
    : cW cd_170 d Q 0 [some (.ref 279), none, none] [] (mkH hi hl sw kp) :=
  cW.run (am_in [0, 5, 15, 46, 75, 78, 83, 86, 108, 141, 144, 149, 152, 173, 197, 200, 221]) 3 (cC.of (h1))
theorem e_170
    (h1 : cS d 166 [(.ref 279), (.int (0))] (mkH hi hl sw kp) (am_ret (cW cd_170 d Q) 5 [some (.ref 279), none, none] []))
    : cS (d + 1) 170 [(.ref 279)] (mkH hi hl sw kp) Q := cS.of rfl (k_170_0 h1)
set_option maxRecDepth 100000 in
theorem k_170_5 {s0 : Int32}
    (h1 : s0 = (32) → cW cd_170 d Q 0 [some (.ref 279), none, none] [] (mkH (u2 hi 279 4 ((hi 279 4) + (1))) hl sw kp))
    (h2 : ¬ (s0 = (32)) → cS d 166 [(.ref 279), (.int (0))] (mkH hi hl sw kp) (am_ret (cW cd_170 d Q) 15 [some (.ref 279), none, none] []))
    : cW cd_170 d Q 5 [some (.ref 279), none, none] [(.int s0)] (mkH hi hl sw kp) :=
  cW.run (am_in [0, 5, 15, 46, 75, 78, 83, 86, 108, 141, 144, 149, 152, 173, 197, 200, 221]) 9 (And.intro (fun c1 => (And.intro rfl (h1 c1))) (fun c2 => (cC.of (h2 c2))))
set_option maxRecDepth 100000 in
theorem k_170_15 {s0 : Int32}
    (h1 : s0 = (10) → cW cd_170 d Q 0 [some (.ref 279), none, none] [] (mkH (u2 hi 279 4 ((hi 279 4) + (1))) hl sw kp))
    (h2 : ¬ (s0 = (10)) → cS d 166 [(.ref 279), (.int (0))] (mkH (u2 hi 279 7 (hi 279 4)) hl sw kp) (am_ret (cW cd_170 d Q) 46 [some (.ref 279), none, none] []))
    : cW cd_170 d Q 15 [some (.ref 279), none, none] [(.int s0)] (mkH hi hl sw kp) :=
  cW.run (am_in [0, 5, 15, 46, 75, 78, 83, 86, 108, 141, 144, 149, 152, 173, 197, 200, 221]) 9 (And.intro (fun c1 => (And.intro rfl (h1 c1))) (fun c2 => (cC.of (h2 c2))))
set_option maxRecDepth 100000 in
theorem k_170_46 {s0 : Int32}
    (h1 : 0 ≤ s0 → cS d 167 [(.int s0)] (mkH (u2 hi 279 8 (0)) (u2 hl 279 9 0) sw kp) (am_ret (cW cd_170 d Q) 75 [some (.ref 279), some (.int s0), some (.int (0))] []))
    (h2 : ¬ (0 ≤ s0) → Q none (mkH (u2 (u2 (u2 hi 279 8 (0)) 279 6 (0)) 279 4 ((hi 279 4) + (0))) (u2 hl 279 9 0) sw kp))
    : cW cd_170 d Q 46 [some (.ref 279), none, none] [(.int s0)] (mkH hi hl sw kp) :=
  cW.run (am_in [0, 5, 15, 46, 75, 78, 83, 86, 108, 141, 144, 149, 152, 173, 197, 200, 221]) 26 (And.intro (Nat.le_of_ble_eq_true rfl) (And.intro (Nat.le_of_ble_eq_true rfl) (And.intro (fun c1 => (cC.of (h1 c1))) (fun c2 => (And.intro (fun z => absurd (show (0 : Int32) = (3 : Int32) from z) (by decide)) (fun _ => (And.intro rfl (cQ.of (h2 c2)))))))))
set_option maxRecDepth 100000 in
theorem k_170_75 {x1 : Int32} {x2 : Int32} {s0 : Int32}
    (h1 : s0 = 0 → cS d 168 [(.int x1)] (mkH hi hl sw kp) (am_ret (cW cd_170 d Q) 141 [some (.ref 279), some (.int x1), some (.int x2)] []))
    (h2 : ¬ (s0 = 0) → cW cd_170 d Q 78 [some (.ref 279), some (.int x1), some (.int x2)] [] (mkH hi hl sw kp))
    : cW cd_170 d Q 75 [some (.ref 279), some (.int x1), some (.int x2)] [(.int s0)] (mkH hi hl sw kp) :=
  cW.run (am_in [0, 5, 15, 46, 75, 78, 83, 86, 108, 141, 144, 149, 152, 173, 197, 200, 221]) 3 (And.intro (fun c1 => (cC.of (h1 c1))) (fun c2 => (h2 c2)))
set_option maxRecDepth 100000 in
theorem k_170_78 {x1 : Int32} {x2 : Int32}
    (h1 : cS d 166 [(.ref 279), (.int x2)] (mkH hi hl sw kp) (am_ret (cW cd_170 d Q) 83 [some (.ref 279), some (.int x1), some (.int x2)] []))
    : cW cd_170 d Q 78 [some (.ref 279), some (.int x1), some (.int x2)] [] (mkH hi hl sw kp) :=
  cW.run (am_in [0, 5, 15, 46, 75, 78, 83, 86, 108, 141, 144, 149, 152, 173, 197, 200, 221]) 3 (cC.of (h1))
set_option maxRecDepth 100000 in
theorem k_170_83 {x1 : Int32} {x2 : Int32} {s0 : Int32}
    (h1 : cS d 167 [(.int s0)] (mkH hi hl sw kp) (am_ret (cW cd_170 d Q) 86 [some (.ref 279), some (.int x1), some (.int x2)] []))
    : cW cd_170 d Q 83 [some (.ref 279), some (.int x1), some (.int x2)] [(.int s0)] (mkH hi hl sw kp) :=
  cW.run (am_in [0, 5, 15, 46, 75, 78, 83, 86, 108, 141, 144, 149, 152, 173, 197, 200, 221]) 1 (cC.of (h1))
set_option maxRecDepth 100000 in
theorem k_170_86 {x1 : Int32} {x2 : Int32} {s0 : Int32}
    (h1 : s0 = 0 → x2 ≤ (8) → Q none (mkH (u2 (u2 hi 279 6 (1)) 279 4 ((hi 279 4) + x2)) hl sw kp))
    (h2 : s0 = 0 → ¬ (x2 ≤ (8)) → Q none (mkH (u2 hi 279 6 (3)) hl sw kp))
    (h3 : ¬ (s0 = 0) → (8) ≤ x2 → cW cd_170 d Q 78 [some (.ref 279), some (.int x1), some (.int (x2 + (1)))] [] (mkH hi hl sw kp))
    (h4 : ¬ (s0 = 0) → ¬ ((8) ≤ x2) → cS d 166 [(.ref 279), (.int x2)] (mkH hi hl sw kp) (am_ret (cW cd_170 d Q) 108 [some (.ref 279), some (.int x1), some (.int x2)] [(.long ((hl 279 9) <<< ((8).toInt64 &&& 63))), (.ref 279)]))
    : cW cd_170 d Q 86 [some (.ref 279), some (.int x1), some (.int x2)] [(.int s0)] (mkH hi hl sw kp) :=
  cW.run (am_in [0, 5, 15, 46, 75, 78, 83, 86, 108, 141, 144, 149, 152, 173, 197, 200, 221]) 19 (And.intro (fun c1 => (And.intro (fun c2 => (And.intro (fun z => absurd (show (1 : Int32) = (3 : Int32) from z) (by decide)) (fun _ => (And.intro rfl (cQ.of (h1 c1 c2)))))) (fun c3 => (And.intro (fun _ => (cQ.of (h2 c1 c3))) (fun z => absurd (show (3 : Int32) = (3 : Int32) by decide) z))))) (fun c4 => (And.intro (fun c5 => (And.intro (Nat.le_of_ble_eq_true rfl) (h3 c4 c5))) (fun c6 => (cC.of (h4 c4 c6))))))
set_option maxRecDepth 100000 in
theorem k_170_108 {x1 : Int32} {x2 : Int32} {s1 : Int64} {s2 : Int32}
    (h1 : cW cd_170 d Q 78 [some (.ref 279), some (.int x1), some (.int (x2 + (1)))] [] (mkH hi (u2 hl 279 9 (s1 ||| s2.toInt64)) sw kp))
    : cW cd_170 d Q 108 [some (.ref 279), some (.int x1), some (.int x2)] [(.int s2), (.long s1), (.ref 279)] (mkH hi hl sw kp) :=
  cW.run (am_in [0, 5, 15, 46, 75, 78, 83, 86, 108, 141, 144, 149, 152, 173, 197, 200, 221]) 5 (And.intro (Nat.le_of_ble_eq_true rfl) (h1))
set_option maxRecDepth 100000 in
theorem k_170_141 {x1 : Int32} {x2 : Int32} {s0 : Int32}
    (h1 : s0 = 0 → cS d 169 [(.int x1)] (mkH hi hl sw kp) (am_ret (cW cd_170 d Q) 221 [some (.ref 279), some (.int x1), some (.int (1))] [(.ref 279)]))
    (h2 : ¬ (s0 = 0) → cW cd_170 d Q 144 [some (.ref 279), some (.int x1), some (.int x2)] [] (mkH hi hl sw kp))
    : cW cd_170 d Q 141 [some (.ref 279), some (.int x1), some (.int x2)] [(.int s0)] (mkH hi hl sw kp) :=
  cW.run (am_in [0, 5, 15, 46, 75, 78, 83, 86, 108, 141, 144, 149, 152, 173, 197, 200, 221]) 6 (And.intro (fun c1 => (And.intro (Nat.le_of_ble_eq_true rfl) (cC.of (h1 c1)))) (fun c2 => (h2 c2)))
set_option maxRecDepth 100000 in
theorem k_170_144 {x1 : Int32} {x2 : Int32}
    (h1 : cS d 166 [(.ref 279), (.int x2)] (mkH hi hl sw kp) (am_ret (cW cd_170 d Q) 149 [some (.ref 279), some (.int x1), some (.int x2)] []))
    : cW cd_170 d Q 144 [some (.ref 279), some (.int x1), some (.int x2)] [] (mkH hi hl sw kp) :=
  cW.run (am_in [0, 5, 15, 46, 75, 78, 83, 86, 108, 141, 144, 149, 152, 173, 197, 200, 221]) 3 (cC.of (h1))
set_option maxRecDepth 100000 in
theorem k_170_149 {x1 : Int32} {x2 : Int32} {s0 : Int32}
    (h1 : cS d 168 [(.int s0)] (mkH hi hl sw kp) (am_ret (cW cd_170 d Q) 152 [some (.ref 279), some (.int x1), some (.int x2)] []))
    : cW cd_170 d Q 149 [some (.ref 279), some (.int x1), some (.int x2)] [(.int s0)] (mkH hi hl sw kp) :=
  cW.run (am_in [0, 5, 15, 46, 75, 78, 83, 86, 108, 141, 144, 149, 152, 173, 197, 200, 221]) 1 (cC.of (h1))
set_option maxRecDepth 100000 in
theorem k_170_152 {x1 : Int32} {x2 : Int32} {s0 : Int32}
    (h1 : s0 = 0 → (4) < x2 → Q none (mkH (u2 hi 279 6 (3)) hl sw kp))
    (h2 : s0 = 0 → ¬ ((4) < x2) → cS d 166 [(.ref 279), (.int x2)] (mkH hi hl sw kp) (am_ret (cW cd_170 d Q) 197 [some (.ref 279), some (.int x1), some (.int x2)] [(.ref 279)]))
    (h3 : ¬ (s0 = 0) → (4) ≤ x2 → cW cd_170 d Q 144 [some (.ref 279), some (.int x1), some (.int (x2 + (1)))] [] (mkH hi hl sw kp))
    (h4 : ¬ (s0 = 0) → ¬ ((4) ≤ x2) → cS d 166 [(.ref 279), (.int x2)] (mkH hi hl sw kp) (am_ret (cW cd_170 d Q) 173 [some (.ref 279), some (.int x1), some (.int x2)] [(.int ((10) * (hi 279 8))), (.ref 279)]))
    : cW cd_170 d Q 152 [some (.ref 279), some (.int x1), some (.int x2)] [(.int s0)] (mkH hi hl sw kp) :=
  cW.run (am_in [0, 5, 15, 46, 75, 78, 83, 86, 108, 141, 144, 149, 152, 173, 197, 200, 221]) 14 (And.intro (fun c1 => (And.intro (fun c2 => (And.intro (fun _ => (cQ.of (h1 c1 c2))) (fun z => absurd (show (3 : Int32) = (3 : Int32) by decide) z))) (fun c3 => (cC.of (h2 c1 c3))))) (fun c4 => (And.intro (fun c5 => (And.intro (Nat.le_of_ble_eq_true rfl) (h3 c4 c5))) (fun c6 => (cC.of (h4 c4 c6))))))
set_option maxRecDepth 100000 in
theorem k_170_173 {x1 : Int32} {x2 : Int32} {s1 : Int32} {s2 : Int32}
    (h1 : cW cd_170 d Q 144 [some (.ref 279), some (.int x1), some (.int (x2 + (1)))] [] (mkH (u2 hi 279 8 ((s1 + s2) - (48))) hl sw kp))
    : cW cd_170 d Q 173 [some (.ref 279), some (.int x1), some (.int x2)] [(.int s2), (.int s1), (.ref 279)] (mkH hi hl sw kp) :=
  cW.run (am_in [0, 5, 15, 46, 75, 78, 83, 86, 108, 141, 144, 149, 152, 173, 197, 200, 221]) 6 (And.intro (Nat.le_of_ble_eq_true rfl) (h1))
set_option maxRecDepth 100000 in
theorem k_170_197 {x1 : Int32} {x2 : Int32} {s1 : Int32}
    (h1 : cS d 167 [(.int s1)] (mkH hi hl sw kp) (am_ret (cW cd_170 d Q) 200 [some (.ref 279), some (.int x1), some (.int x2)] [(.ref 279)]))
    : cW cd_170 d Q 197 [some (.ref 279), some (.int x1), some (.int x2)] [(.int s1), (.ref 279)] (mkH hi hl sw kp) :=
  cW.run (am_in [0, 5, 15, 46, 75, 78, 83, 86, 108, 141, 144, 149, 152, 173, 197, 200, 221]) 1 (cC.of (h1))
set_option maxRecDepth 100000 in
theorem k_170_200 {x1 : Int32} {x2 : Int32} {s1 : Int32}
    (h1 : s1 = 0 → Q none (mkH (u2 (u2 hi 279 6 (2)) 279 4 ((hi 279 4) + x2)) hl sw kp))
    (h2 : ¬ (s1 = 0) → Q none (mkH (u2 hi 279 6 (3)) hl sw kp))
    : cW cd_170 d Q 200 [some (.ref 279), some (.int x1), some (.int x2)] [(.int s1), (.ref 279)] (mkH hi hl sw kp) :=
  cW.run (am_in [0, 5, 15, 46, 75, 78, 83, 86, 108, 141, 144, 149, 152, 173, 197, 200, 221]) 15 (And.intro (fun c1 => (And.intro (fun z => absurd (show (2 : Int32) = (3 : Int32) from z) (by decide)) (fun _ => (And.intro rfl (cQ.of (h1 c1)))))) (fun c2 => (And.intro (fun _ => (cQ.of (h2 c2))) (fun z => absurd (show (3 : Int32) = (3 : Int32) by decide) z))))
set_option maxRecDepth 100000 in
theorem k_170_221 {x1 : Int32} {x2 : Int32} {s1 : Int32}
    (h1 : s1 = 0 → Q none (mkH (u2 hi 279 6 (3)) hl sw kp))
    (h2 : ¬ (s1 = 0) → x1 = (3) → Q none (mkH (u2 hi 279 6 x1) hl sw kp))
    (h3 : ¬ (s1 = 0) → ¬ (x1 = (3)) → Q none (mkH (u2 (u2 hi 279 6 x1) 279 4 ((hi 279 4) + x2)) hl sw kp))
    : cW cd_170 d Q 221 [some (.ref 279), some (.int x1), some (.int x2)] [(.int s1), (.ref 279)] (mkH hi hl sw kp) :=
  cW.run (am_in [0, 5, 15, 46, 75, 78, 83, 86, 108, 141, 144, 149, 152, 173, 197, 200, 221]) 15 (And.intro (fun c1 => (And.intro (fun _ => (cQ.of (h1 c1))) (fun z => absurd (show (3 : Int32) = (3 : Int32) by decide) z))) (fun c2 => (And.intro (fun c3 => (cQ.of (h2 c2 c3))) (fun c4 => (And.intro rfl (cQ.of (h3 c2 c4)))))))
-- 171: DogDecreesModel.wrong(I)V
set_option maxRecDepth 100000 in
theorem k_171_0 {x1 : Int32}
    (h1 : (hi 279 2) ≤ 0 → (hi 279 6) = (3) → Q none (mkH (u2 (u2 hi 279 2 (1)) 279 3 (hi 279 7)) hl sw kp))
    (h2 : (hi 279 2) ≤ 0 → ¬ ((hi 279 6) = (3)) → Q none (mkH (u2 (u2 hi 279 2 x1) 279 3 (hi 279 7)) hl sw kp))
    (h3 : ¬ ((hi 279 2) ≤ 0) → Q none (mkH hi hl sw kp))
    : cW cd_171 d Q 0 [some (.ref 279), some (.int x1)] [] (mkH hi hl sw kp) :=
  cW.run (am_in []) 16 (And.intro (fun c1 => (And.intro (fun c2 => (cQ.of (h1 c1 c2))) (fun c3 => (cQ.of (h2 c1 c3))))) (fun c4 => (cQ.of (h3 c4))))
theorem e_171 {x1 : Int32}
    (h1 : (hi 279 2) ≤ 0 → (hi 279 6) = (3) → Q none (mkH (u2 (u2 hi 279 2 (1)) 279 3 (hi 279 7)) hl sw kp))
    (h2 : (hi 279 2) ≤ 0 → ¬ ((hi 279 6) = (3)) → Q none (mkH (u2 (u2 hi 279 2 x1) 279 3 (hi 279 7)) hl sw kp))
    (h3 : ¬ ((hi 279 2) ≤ 0) → Q none (mkH hi hl sw kp))
    : cS (d + 1) 171 [(.ref 279), (.int x1)] (mkH hi hl sw kp) Q := cS.of rfl (k_171_0 h1 h2 h3)
-- 172: DogDecreesModel.isWord(J)Z
set_option maxRecDepth 100000 in
theorem k_172_0 {x1 : Int64}
    (h1 : (hi 279 6) = (1) → (lg_cmp (hl 279 9) x1) = 0 → Q (some (.int (1))) (mkH hi hl sw kp))
    (h2 : (hi 279 6) = (1) → ¬ ((lg_cmp (hl 279 9) x1) = 0) → Q (some (.int (0))) (mkH hi hl sw kp))
    (h3 : ¬ ((hi 279 6) = (1)) → Q (some (.int (0))) (mkH hi hl sw kp))
    : cW cd_172 d Q 0 [some (.ref 279), some (.long x1), none] [] (mkH hi hl sw kp) :=
  cW.run (am_in []) 12 (And.intro (fun c1 => (And.intro (fun c2 => (And.intro (Or.inr rfl) (cQ.of (h1 c1 c2)))) (fun c3 => (And.intro (Or.inl rfl) (cQ.of (h2 c1 c3)))))) (fun c4 => (And.intro (Or.inl rfl) (cQ.of (h3 c4)))))
theorem e_172 {x1 : Int64}
    (h1 : (hi 279 6) = (1) → (lg_cmp (hl 279 9) x1) = 0 → Q (some (.int (1))) (mkH hi hl sw kp))
    (h2 : (hi 279 6) = (1) → ¬ ((lg_cmp (hl 279 9) x1) = 0) → Q (some (.int (0))) (mkH hi hl sw kp))
    (h3 : ¬ ((hi 279 6) = (1)) → Q (some (.int (0))) (mkH hi hl sw kp))
    : cS (d + 1) 172 [(.ref 279), (.long x1)] (mkH hi hl sw kp) Q := cS.of rfl (k_172_0 h1 h2 h3)
-- 173: DogDecreesModel.isOwn()Z
set_option maxRecDepth 100000 in
theorem k_173_0
    (h1 : (lg_cmp (hl 279 9) (1684366692)) = 0 → Q (some (.int (1))) (mkH hi hl sw kp))
    (h2 : ¬ ((lg_cmp (hl 279 9) (1684366692)) = 0) → (lg_cmp (hl 279 9) (482854658917)) = 0 → Q (some (.int (1))) (mkH hi hl sw kp))
    (h3 : ¬ ((lg_cmp (hl 279 9) (1684366692)) = 0) → ¬ ((lg_cmp (hl 279 9) (482854658917)) = 0) → (lg_cmp (hl 279 9) (495756602476)) = 0 → Q (some (.int (1))) (mkH hi hl sw kp))
    (h4 : ¬ ((lg_cmp (hl 279 9) (1684366692)) = 0) → ¬ ((lg_cmp (hl 279 9) (482854658917)) = 0) → ¬ ((lg_cmp (hl 279 9) (495756602476)) = 0) → (lg_cmp (hl 279 9) (1685022067)) = 0 → Q (some (.int (1))) (mkH hi hl sw kp))
    (h5 : ¬ ((lg_cmp (hl 279 9) (1684366692)) = 0) → ¬ ((lg_cmp (hl 279 9) (482854658917)) = 0) → ¬ ((lg_cmp (hl 279 9) (495756602476)) = 0) → ¬ ((lg_cmp (hl 279 9) (1685022067)) = 0) → (lg_cmp (hl 279 9) (1885434984)) = 0 → Q (some (.int (1))) (mkH hi hl sw kp))
    (h6 : ¬ ((lg_cmp (hl 279 9) (1684366692)) = 0) → ¬ ((lg_cmp (hl 279 9) (482854658917)) = 0) → ¬ ((lg_cmp (hl 279 9) (495756602476)) = 0) → ¬ ((lg_cmp (hl 279 9) (1685022067)) = 0) → ¬ ((lg_cmp (hl 279 9) (1885434984)) = 0) → (lg_cmp (hl 279 9) (29807)) = 0 → Q (some (.int (1))) (mkH hi hl sw kp))
    (h7 : ¬ ((lg_cmp (hl 279 9) (1684366692)) = 0) → ¬ ((lg_cmp (hl 279 9) (482854658917)) = 0) → ¬ ((lg_cmp (hl 279 9) (495756602476)) = 0) → ¬ ((lg_cmp (hl 279 9) (1685022067)) = 0) → ¬ ((lg_cmp (hl 279 9) (1885434984)) = 0) → ¬ ((lg_cmp (hl 279 9) (29807)) = 0) → (lg_cmp (hl 279 9) (1667330917)) = 0 → Q (some (.int (1))) (mkH hi hl sw kp))
    (h8 : ¬ ((lg_cmp (hl 279 9) (1684366692)) = 0) → ¬ ((lg_cmp (hl 279 9) (482854658917)) = 0) → ¬ ((lg_cmp (hl 279 9) (495756602476)) = 0) → ¬ ((lg_cmp (hl 279 9) (1685022067)) = 0) → ¬ ((lg_cmp (hl 279 9) (1885434984)) = 0) → ¬ ((lg_cmp (hl 279 9) (29807)) = 0) → ¬ ((lg_cmp (hl 279 9) (1667330917)) = 0) → (lg_cmp (hl 279 9) (6447474)) = 0 → Q (some (.int (1))) (mkH hi hl sw kp))
    (h9 : ¬ ((lg_cmp (hl 279 9) (1684366692)) = 0) → ¬ ((lg_cmp (hl 279 9) (482854658917)) = 0) → ¬ ((lg_cmp (hl 279 9) (495756602476)) = 0) → ¬ ((lg_cmp (hl 279 9) (1685022067)) = 0) → ¬ ((lg_cmp (hl 279 9) (1885434984)) = 0) → ¬ ((lg_cmp (hl 279 9) (29807)) = 0) → ¬ ((lg_cmp (hl 279 9) (1667330917)) = 0) → ¬ ((lg_cmp (hl 279 9) (6447474)) = 0) → (lg_cmp (hl 279 9) (2003330414)) = 0 → Q (some (.int (1))) (mkH hi hl sw kp))
    (h10 : ¬ ((lg_cmp (hl 279 9) (1684366692)) = 0) → ¬ ((lg_cmp (hl 279 9) (482854658917)) = 0) → ¬ ((lg_cmp (hl 279 9) (495756602476)) = 0) → ¬ ((lg_cmp (hl 279 9) (1685022067)) = 0) → ¬ ((lg_cmp (hl 279 9) (1885434984)) = 0) → ¬ ((lg_cmp (hl 279 9) (29807)) = 0) → ¬ ((lg_cmp (hl 279 9) (1667330917)) = 0) → ¬ ((lg_cmp (hl 279 9) (6447474)) = 0) → ¬ ((lg_cmp (hl 279 9) (2003330414)) = 0) → (lg_cmp (hl 279 9) (1886743660)) = 0 → Q (some (.int (1))) (mkH hi hl sw kp))
    (h11 : ¬ ((lg_cmp (hl 279 9) (1684366692)) = 0) → ¬ ((lg_cmp (hl 279 9) (482854658917)) = 0) → ¬ ((lg_cmp (hl 279 9) (495756602476)) = 0) → ¬ ((lg_cmp (hl 279 9) (1685022067)) = 0) → ¬ ((lg_cmp (hl 279 9) (1885434984)) = 0) → ¬ ((lg_cmp (hl 279 9) (29807)) = 0) → ¬ ((lg_cmp (hl 279 9) (1667330917)) = 0) → ¬ ((lg_cmp (hl 279 9) (6447474)) = 0) → ¬ ((lg_cmp (hl 279 9) (2003330414)) = 0) → ¬ ((lg_cmp (hl 279 9) (1886743660)) = 0) → (lg_cmp (hl 279 9) (6578553)) = 0 → Q (some (.int (1))) (mkH hi hl sw kp))
    (h12 : ¬ ((lg_cmp (hl 279 9) (1684366692)) = 0) → ¬ ((lg_cmp (hl 279 9) (482854658917)) = 0) → ¬ ((lg_cmp (hl 279 9) (495756602476)) = 0) → ¬ ((lg_cmp (hl 279 9) (1685022067)) = 0) → ¬ ((lg_cmp (hl 279 9) (1885434984)) = 0) → ¬ ((lg_cmp (hl 279 9) (29807)) = 0) → ¬ ((lg_cmp (hl 279 9) (1667330917)) = 0) → ¬ ((lg_cmp (hl 279 9) (6447474)) = 0) → ¬ ((lg_cmp (hl 279 9) (2003330414)) = 0) → ¬ ((lg_cmp (hl 279 9) (1886743660)) = 0) → ¬ ((lg_cmp (hl 279 9) (6578553)) = 0) → (lg_cmp (hl 279 9) (448377483891)) = 0 → Q (some (.int (1))) (mkH hi hl sw kp))
    (h13 : ¬ ((lg_cmp (hl 279 9) (1684366692)) = 0) → ¬ ((lg_cmp (hl 279 9) (482854658917)) = 0) → ¬ ((lg_cmp (hl 279 9) (495756602476)) = 0) → ¬ ((lg_cmp (hl 279 9) (1685022067)) = 0) → ¬ ((lg_cmp (hl 279 9) (1885434984)) = 0) → ¬ ((lg_cmp (hl 279 9) (29807)) = 0) → ¬ ((lg_cmp (hl 279 9) (1667330917)) = 0) → ¬ ((lg_cmp (hl 279 9) (6447474)) = 0) → ¬ ((lg_cmp (hl 279 9) (2003330414)) = 0) → ¬ ((lg_cmp (hl 279 9) (1886743660)) = 0) → ¬ ((lg_cmp (hl 279 9) (6578553)) = 0) → ¬ ((lg_cmp (hl 279 9) (448377483891)) = 0) → (lg_cmp (hl 279 9) (495873782388)) = 0 → Q (some (.int (1))) (mkH hi hl sw kp))
    (h14 : ¬ ((lg_cmp (hl 279 9) (1684366692)) = 0) → ¬ ((lg_cmp (hl 279 9) (482854658917)) = 0) → ¬ ((lg_cmp (hl 279 9) (495756602476)) = 0) → ¬ ((lg_cmp (hl 279 9) (1685022067)) = 0) → ¬ ((lg_cmp (hl 279 9) (1885434984)) = 0) → ¬ ((lg_cmp (hl 279 9) (29807)) = 0) → ¬ ((lg_cmp (hl 279 9) (1667330917)) = 0) → ¬ ((lg_cmp (hl 279 9) (6447474)) = 0) → ¬ ((lg_cmp (hl 279 9) (2003330414)) = 0) → ¬ ((lg_cmp (hl 279 9) (1886743660)) = 0) → ¬ ((lg_cmp (hl 279 9) (6578553)) = 0) → ¬ ((lg_cmp (hl 279 9) (448377483891)) = 0) → ¬ ((lg_cmp (hl 279 9) (495873782388)) = 0) → (lg_cmp (hl 279 9) (6383461)) = 0 → Q (some (.int (1))) (mkH hi hl sw kp))
    (h15 : ¬ ((lg_cmp (hl 279 9) (1684366692)) = 0) → ¬ ((lg_cmp (hl 279 9) (482854658917)) = 0) → ¬ ((lg_cmp (hl 279 9) (495756602476)) = 0) → ¬ ((lg_cmp (hl 279 9) (1685022067)) = 0) → ¬ ((lg_cmp (hl 279 9) (1885434984)) = 0) → ¬ ((lg_cmp (hl 279 9) (29807)) = 0) → ¬ ((lg_cmp (hl 279 9) (1667330917)) = 0) → ¬ ((lg_cmp (hl 279 9) (6447474)) = 0) → ¬ ((lg_cmp (hl 279 9) (2003330414)) = 0) → ¬ ((lg_cmp (hl 279 9) (1886743660)) = 0) → ¬ ((lg_cmp (hl 279 9) (6578553)) = 0) → ¬ ((lg_cmp (hl 279 9) (448377483891)) = 0) → ¬ ((lg_cmp (hl 279 9) (495873782388)) = 0) → ¬ ((lg_cmp (hl 279 9) (6383461)) = 0) → (lg_cmp (hl 279 9) (1685217655)) = 0 → Q (some (.int (1))) (mkH hi hl sw kp))
    (h16 : ¬ ((lg_cmp (hl 279 9) (1684366692)) = 0) → ¬ ((lg_cmp (hl 279 9) (482854658917)) = 0) → ¬ ((lg_cmp (hl 279 9) (495756602476)) = 0) → ¬ ((lg_cmp (hl 279 9) (1685022067)) = 0) → ¬ ((lg_cmp (hl 279 9) (1885434984)) = 0) → ¬ ((lg_cmp (hl 279 9) (29807)) = 0) → ¬ ((lg_cmp (hl 279 9) (1667330917)) = 0) → ¬ ((lg_cmp (hl 279 9) (6447474)) = 0) → ¬ ((lg_cmp (hl 279 9) (2003330414)) = 0) → ¬ ((lg_cmp (hl 279 9) (1886743660)) = 0) → ¬ ((lg_cmp (hl 279 9) (6578553)) = 0) → ¬ ((lg_cmp (hl 279 9) (448377483891)) = 0) → ¬ ((lg_cmp (hl 279 9) (495873782388)) = 0) → ¬ ((lg_cmp (hl 279 9) (6383461)) = 0) → ¬ ((lg_cmp (hl 279 9) (1685217655)) = 0) → (lg_cmp (hl 279 9) (422776300915)) = 0 → Q (some (.int (1))) (mkH hi hl sw kp))
    (h17 : ¬ ((lg_cmp (hl 279 9) (1684366692)) = 0) → ¬ ((lg_cmp (hl 279 9) (482854658917)) = 0) → ¬ ((lg_cmp (hl 279 9) (495756602476)) = 0) → ¬ ((lg_cmp (hl 279 9) (1685022067)) = 0) → ¬ ((lg_cmp (hl 279 9) (1885434984)) = 0) → ¬ ((lg_cmp (hl 279 9) (29807)) = 0) → ¬ ((lg_cmp (hl 279 9) (1667330917)) = 0) → ¬ ((lg_cmp (hl 279 9) (6447474)) = 0) → ¬ ((lg_cmp (hl 279 9) (2003330414)) = 0) → ¬ ((lg_cmp (hl 279 9) (1886743660)) = 0) → ¬ ((lg_cmp (hl 279 9) (6578553)) = 0) → ¬ ((lg_cmp (hl 279 9) (448377483891)) = 0) → ¬ ((lg_cmp (hl 279 9) (495873782388)) = 0) → ¬ ((lg_cmp (hl 279 9) (6383461)) = 0) → ¬ ((lg_cmp (hl 279 9) (1685217655)) = 0) → ¬ ((lg_cmp (hl 279 9) (422776300915)) = 0) → (lg_cmp (hl 279 9) (1752135026)) = 0 → Q (some (.int (1))) (mkH hi hl sw kp))
    (h18 : ¬ ((lg_cmp (hl 279 9) (1684366692)) = 0) → ¬ ((lg_cmp (hl 279 9) (482854658917)) = 0) → ¬ ((lg_cmp (hl 279 9) (495756602476)) = 0) → ¬ ((lg_cmp (hl 279 9) (1685022067)) = 0) → ¬ ((lg_cmp (hl 279 9) (1885434984)) = 0) → ¬ ((lg_cmp (hl 279 9) (29807)) = 0) → ¬ ((lg_cmp (hl 279 9) (1667330917)) = 0) → ¬ ((lg_cmp (hl 279 9) (6447474)) = 0) → ¬ ((lg_cmp (hl 279 9) (2003330414)) = 0) → ¬ ((lg_cmp (hl 279 9) (1886743660)) = 0) → ¬ ((lg_cmp (hl 279 9) (6578553)) = 0) → ¬ ((lg_cmp (hl 279 9) (448377483891)) = 0) → ¬ ((lg_cmp (hl 279 9) (495873782388)) = 0) → ¬ ((lg_cmp (hl 279 9) (6383461)) = 0) → ¬ ((lg_cmp (hl 279 9) (1685217655)) = 0) → ¬ ((lg_cmp (hl 279 9) (422776300915)) = 0) → ¬ ((lg_cmp (hl 279 9) (1752135026)) = 0) → (lg_cmp (hl 279 9) (1751478885)) = 0 → Q (some (.int (1))) (mkH hi hl sw kp))
    (h19 : ¬ ((lg_cmp (hl 279 9) (1684366692)) = 0) → ¬ ((lg_cmp (hl 279 9) (482854658917)) = 0) → ¬ ((lg_cmp (hl 279 9) (495756602476)) = 0) → ¬ ((lg_cmp (hl 279 9) (1685022067)) = 0) → ¬ ((lg_cmp (hl 279 9) (1885434984)) = 0) → ¬ ((lg_cmp (hl 279 9) (29807)) = 0) → ¬ ((lg_cmp (hl 279 9) (1667330917)) = 0) → ¬ ((lg_cmp (hl 279 9) (6447474)) = 0) → ¬ ((lg_cmp (hl 279 9) (2003330414)) = 0) → ¬ ((lg_cmp (hl 279 9) (1886743660)) = 0) → ¬ ((lg_cmp (hl 279 9) (6578553)) = 0) → ¬ ((lg_cmp (hl 279 9) (448377483891)) = 0) → ¬ ((lg_cmp (hl 279 9) (495873782388)) = 0) → ¬ ((lg_cmp (hl 279 9) (6383461)) = 0) → ¬ ((lg_cmp (hl 279 9) (1685217655)) = 0) → ¬ ((lg_cmp (hl 279 9) (422776300915)) = 0) → ¬ ((lg_cmp (hl 279 9) (1752135026)) = 0) → ¬ ((lg_cmp (hl 279 9) (1751478885)) = 0) → (lg_cmp (hl 279 9) (6385252)) = 0 → Q (some (.int (1))) (mkH hi hl sw kp))
    (h20 : ¬ ((lg_cmp (hl 279 9) (1684366692)) = 0) → ¬ ((lg_cmp (hl 279 9) (482854658917)) = 0) → ¬ ((lg_cmp (hl 279 9) (495756602476)) = 0) → ¬ ((lg_cmp (hl 279 9) (1685022067)) = 0) → ¬ ((lg_cmp (hl 279 9) (1885434984)) = 0) → ¬ ((lg_cmp (hl 279 9) (29807)) = 0) → ¬ ((lg_cmp (hl 279 9) (1667330917)) = 0) → ¬ ((lg_cmp (hl 279 9) (6447474)) = 0) → ¬ ((lg_cmp (hl 279 9) (2003330414)) = 0) → ¬ ((lg_cmp (hl 279 9) (1886743660)) = 0) → ¬ ((lg_cmp (hl 279 9) (6578553)) = 0) → ¬ ((lg_cmp (hl 279 9) (448377483891)) = 0) → ¬ ((lg_cmp (hl 279 9) (495873782388)) = 0) → ¬ ((lg_cmp (hl 279 9) (6383461)) = 0) → ¬ ((lg_cmp (hl 279 9) (1685217655)) = 0) → ¬ ((lg_cmp (hl 279 9) (422776300915)) = 0) → ¬ ((lg_cmp (hl 279 9) (1752135026)) = 0) → ¬ ((lg_cmp (hl 279 9) (1751478885)) = 0) → ¬ ((lg_cmp (hl 279 9) (6385252)) = 0) → (lg_cmp (hl 279 9) (28530)) = 0 → Q (some (.int (1))) (mkH hi hl sw kp))
    (h21 : ¬ ((lg_cmp (hl 279 9) (1684366692)) = 0) → ¬ ((lg_cmp (hl 279 9) (482854658917)) = 0) → ¬ ((lg_cmp (hl 279 9) (495756602476)) = 0) → ¬ ((lg_cmp (hl 279 9) (1685022067)) = 0) → ¬ ((lg_cmp (hl 279 9) (1885434984)) = 0) → ¬ ((lg_cmp (hl 279 9) (29807)) = 0) → ¬ ((lg_cmp (hl 279 9) (1667330917)) = 0) → ¬ ((lg_cmp (hl 279 9) (6447474)) = 0) → ¬ ((lg_cmp (hl 279 9) (2003330414)) = 0) → ¬ ((lg_cmp (hl 279 9) (1886743660)) = 0) → ¬ ((lg_cmp (hl 279 9) (6578553)) = 0) → ¬ ((lg_cmp (hl 279 9) (448377483891)) = 0) → ¬ ((lg_cmp (hl 279 9) (495873782388)) = 0) → ¬ ((lg_cmp (hl 279 9) (6383461)) = 0) → ¬ ((lg_cmp (hl 279 9) (1685217655)) = 0) → ¬ ((lg_cmp (hl 279 9) (422776300915)) = 0) → ¬ ((lg_cmp (hl 279 9) (1752135026)) = 0) → ¬ ((lg_cmp (hl 279 9) (1751478885)) = 0) → ¬ ((lg_cmp (hl 279 9) (6385252)) = 0) → ¬ ((lg_cmp (hl 279 9) (28530)) = 0) → (lg_cmp (hl 279 9) (7237492)) = 0 → Q (some (.int (1))) (mkH hi hl sw kp))
    (h22 : ¬ ((lg_cmp (hl 279 9) (1684366692)) = 0) → ¬ ((lg_cmp (hl 279 9) (482854658917)) = 0) → ¬ ((lg_cmp (hl 279 9) (495756602476)) = 0) → ¬ ((lg_cmp (hl 279 9) (1685022067)) = 0) → ¬ ((lg_cmp (hl 279 9) (1885434984)) = 0) → ¬ ((lg_cmp (hl 279 9) (29807)) = 0) → ¬ ((lg_cmp (hl 279 9) (1667330917)) = 0) → ¬ ((lg_cmp (hl 279 9) (6447474)) = 0) → ¬ ((lg_cmp (hl 279 9) (2003330414)) = 0) → ¬ ((lg_cmp (hl 279 9) (1886743660)) = 0) → ¬ ((lg_cmp (hl 279 9) (6578553)) = 0) → ¬ ((lg_cmp (hl 279 9) (448377483891)) = 0) → ¬ ((lg_cmp (hl 279 9) (495873782388)) = 0) → ¬ ((lg_cmp (hl 279 9) (6383461)) = 0) → ¬ ((lg_cmp (hl 279 9) (1685217655)) = 0) → ¬ ((lg_cmp (hl 279 9) (422776300915)) = 0) → ¬ ((lg_cmp (hl 279 9) (1752135026)) = 0) → ¬ ((lg_cmp (hl 279 9) (1751478885)) = 0) → ¬ ((lg_cmp (hl 279 9) (6385252)) = 0) → ¬ ((lg_cmp (hl 279 9) (28530)) = 0) → ¬ ((lg_cmp (hl 279 9) (7237492)) = 0) → Q (some (.int (0))) (mkH hi hl sw kp))
    : cW cd_173 d Q 0 [some (.ref 279)] [] (mkH hi hl sw kp) :=
  cW.run (am_in []) 108 (And.intro (fun c1 => (And.intro (Or.inr rfl) (cQ.of (h1 c1)))) (fun c2 => (And.intro (fun c3 => (And.intro (Or.inr rfl) (cQ.of (h2 c2 c3)))) (fun c4 => (And.intro (fun c5 => (And.intro (Or.inr rfl) (cQ.of (h3 c2 c4 c5)))) (fun c6 => (And.intro (fun c7 => (And.intro (Or.inr rfl) (cQ.of (h4 c2 c4 c6 c7)))) (fun c8 => (And.intro (fun c9 => (And.intro (Or.inr rfl) (cQ.of (h5 c2 c4 c6 c8 c9)))) (fun c10 => (And.intro (fun c11 => (And.intro (Or.inr rfl) (cQ.of (h6 c2 c4 c6 c8 c10 c11)))) (fun c12 => (And.intro (fun c13 => (And.intro (Or.inr rfl) (cQ.of (h7 c2 c4 c6 c8 c10 c12 c13)))) (fun c14 => (And.intro (fun c15 => (And.intro (Or.inr rfl) (cQ.of (h8 c2 c4 c6 c8 c10 c12 c14 c15)))) (fun c16 => (And.intro (fun c17 => (And.intro (Or.inr rfl) (cQ.of (h9 c2 c4 c6 c8 c10 c12 c14 c16 c17)))) (fun c18 => (And.intro (fun c19 => (And.intro (Or.inr rfl) (cQ.of (h10 c2 c4 c6 c8 c10 c12 c14 c16 c18 c19)))) (fun c20 => (And.intro (fun c21 => (And.intro (Or.inr rfl) (cQ.of (h11 c2 c4 c6 c8 c10 c12 c14 c16 c18 c20 c21)))) (fun c22 => (And.intro (fun c23 => (And.intro (Or.inr rfl) (cQ.of (h12 c2 c4 c6 c8 c10 c12 c14 c16 c18 c20 c22 c23)))) (fun c24 => (And.intro (fun c25 => (And.intro (Or.inr rfl) (cQ.of (h13 c2 c4 c6 c8 c10 c12 c14 c16 c18 c20 c22 c24 c25)))) (fun c26 => (And.intro (fun c27 => (And.intro (Or.inr rfl) (cQ.of (h14 c2 c4 c6 c8 c10 c12 c14 c16 c18 c20 c22 c24 c26 c27)))) (fun c28 => (And.intro (fun c29 => (And.intro (Or.inr rfl) (cQ.of (h15 c2 c4 c6 c8 c10 c12 c14 c16 c18 c20 c22 c24 c26 c28 c29)))) (fun c30 => (And.intro (fun c31 => (And.intro (Or.inr rfl) (cQ.of (h16 c2 c4 c6 c8 c10 c12 c14 c16 c18 c20 c22 c24 c26 c28 c30 c31)))) (fun c32 => (And.intro (fun c33 => (And.intro (Or.inr rfl) (cQ.of (h17 c2 c4 c6 c8 c10 c12 c14 c16 c18 c20 c22 c24 c26 c28 c30 c32 c33)))) (fun c34 => (And.intro (fun c35 => (And.intro (Or.inr rfl) (cQ.of (h18 c2 c4 c6 c8 c10 c12 c14 c16 c18 c20 c22 c24 c26 c28 c30 c32 c34 c35)))) (fun c36 => (And.intro (fun c37 => (And.intro (Or.inr rfl) (cQ.of (h19 c2 c4 c6 c8 c10 c12 c14 c16 c18 c20 c22 c24 c26 c28 c30 c32 c34 c36 c37)))) (fun c38 => (And.intro (fun c39 => (And.intro (Or.inr rfl) (cQ.of (h20 c2 c4 c6 c8 c10 c12 c14 c16 c18 c20 c22 c24 c26 c28 c30 c32 c34 c36 c38 c39)))) (fun c40 => (And.intro (fun c41 => (And.intro (Or.inr rfl) (cQ.of (h21 c2 c4 c6 c8 c10 c12 c14 c16 c18 c20 c22 c24 c26 c28 c30 c32 c34 c36 c38 c40 c41)))) (fun c42 => (And.intro (Or.inl rfl) (cQ.of (h22 c2 c4 c6 c8 c10 c12 c14 c16 c18 c20 c22 c24 c26 c28 c30 c32 c34 c36 c38 c40 c42)))))))))))))))))))))))))))))))))))))))))))))
theorem e_173
    (h1 : (lg_cmp (hl 279 9) (1684366692)) = 0 → Q (some (.int (1))) (mkH hi hl sw kp))
    (h2 : ¬ ((lg_cmp (hl 279 9) (1684366692)) = 0) → (lg_cmp (hl 279 9) (482854658917)) = 0 → Q (some (.int (1))) (mkH hi hl sw kp))
    (h3 : ¬ ((lg_cmp (hl 279 9) (1684366692)) = 0) → ¬ ((lg_cmp (hl 279 9) (482854658917)) = 0) → (lg_cmp (hl 279 9) (495756602476)) = 0 → Q (some (.int (1))) (mkH hi hl sw kp))
    (h4 : ¬ ((lg_cmp (hl 279 9) (1684366692)) = 0) → ¬ ((lg_cmp (hl 279 9) (482854658917)) = 0) → ¬ ((lg_cmp (hl 279 9) (495756602476)) = 0) → (lg_cmp (hl 279 9) (1685022067)) = 0 → Q (some (.int (1))) (mkH hi hl sw kp))
    (h5 : ¬ ((lg_cmp (hl 279 9) (1684366692)) = 0) → ¬ ((lg_cmp (hl 279 9) (482854658917)) = 0) → ¬ ((lg_cmp (hl 279 9) (495756602476)) = 0) → ¬ ((lg_cmp (hl 279 9) (1685022067)) = 0) → (lg_cmp (hl 279 9) (1885434984)) = 0 → Q (some (.int (1))) (mkH hi hl sw kp))
    (h6 : ¬ ((lg_cmp (hl 279 9) (1684366692)) = 0) → ¬ ((lg_cmp (hl 279 9) (482854658917)) = 0) → ¬ ((lg_cmp (hl 279 9) (495756602476)) = 0) → ¬ ((lg_cmp (hl 279 9) (1685022067)) = 0) → ¬ ((lg_cmp (hl 279 9) (1885434984)) = 0) → (lg_cmp (hl 279 9) (29807)) = 0 → Q (some (.int (1))) (mkH hi hl sw kp))
    (h7 : ¬ ((lg_cmp (hl 279 9) (1684366692)) = 0) → ¬ ((lg_cmp (hl 279 9) (482854658917)) = 0) → ¬ ((lg_cmp (hl 279 9) (495756602476)) = 0) → ¬ ((lg_cmp (hl 279 9) (1685022067)) = 0) → ¬ ((lg_cmp (hl 279 9) (1885434984)) = 0) → ¬ ((lg_cmp (hl 279 9) (29807)) = 0) → (lg_cmp (hl 279 9) (1667330917)) = 0 → Q (some (.int (1))) (mkH hi hl sw kp))
    (h8 : ¬ ((lg_cmp (hl 279 9) (1684366692)) = 0) → ¬ ((lg_cmp (hl 279 9) (482854658917)) = 0) → ¬ ((lg_cmp (hl 279 9) (495756602476)) = 0) → ¬ ((lg_cmp (hl 279 9) (1685022067)) = 0) → ¬ ((lg_cmp (hl 279 9) (1885434984)) = 0) → ¬ ((lg_cmp (hl 279 9) (29807)) = 0) → ¬ ((lg_cmp (hl 279 9) (1667330917)) = 0) → (lg_cmp (hl 279 9) (6447474)) = 0 → Q (some (.int (1))) (mkH hi hl sw kp))
    (h9 : ¬ ((lg_cmp (hl 279 9) (1684366692)) = 0) → ¬ ((lg_cmp (hl 279 9) (482854658917)) = 0) → ¬ ((lg_cmp (hl 279 9) (495756602476)) = 0) → ¬ ((lg_cmp (hl 279 9) (1685022067)) = 0) → ¬ ((lg_cmp (hl 279 9) (1885434984)) = 0) → ¬ ((lg_cmp (hl 279 9) (29807)) = 0) → ¬ ((lg_cmp (hl 279 9) (1667330917)) = 0) → ¬ ((lg_cmp (hl 279 9) (6447474)) = 0) → (lg_cmp (hl 279 9) (2003330414)) = 0 → Q (some (.int (1))) (mkH hi hl sw kp))
    (h10 : ¬ ((lg_cmp (hl 279 9) (1684366692)) = 0) → ¬ ((lg_cmp (hl 279 9) (482854658917)) = 0) → ¬ ((lg_cmp (hl 279 9) (495756602476)) = 0) → ¬ ((lg_cmp (hl 279 9) (1685022067)) = 0) → ¬ ((lg_cmp (hl 279 9) (1885434984)) = 0) → ¬ ((lg_cmp (hl 279 9) (29807)) = 0) → ¬ ((lg_cmp (hl 279 9) (1667330917)) = 0) → ¬ ((lg_cmp (hl 279 9) (6447474)) = 0) → ¬ ((lg_cmp (hl 279 9) (2003330414)) = 0) → (lg_cmp (hl 279 9) (1886743660)) = 0 → Q (some (.int (1))) (mkH hi hl sw kp))
    (h11 : ¬ ((lg_cmp (hl 279 9) (1684366692)) = 0) → ¬ ((lg_cmp (hl 279 9) (482854658917)) = 0) → ¬ ((lg_cmp (hl 279 9) (495756602476)) = 0) → ¬ ((lg_cmp (hl 279 9) (1685022067)) = 0) → ¬ ((lg_cmp (hl 279 9) (1885434984)) = 0) → ¬ ((lg_cmp (hl 279 9) (29807)) = 0) → ¬ ((lg_cmp (hl 279 9) (1667330917)) = 0) → ¬ ((lg_cmp (hl 279 9) (6447474)) = 0) → ¬ ((lg_cmp (hl 279 9) (2003330414)) = 0) → ¬ ((lg_cmp (hl 279 9) (1886743660)) = 0) → (lg_cmp (hl 279 9) (6578553)) = 0 → Q (some (.int (1))) (mkH hi hl sw kp))
    (h12 : ¬ ((lg_cmp (hl 279 9) (1684366692)) = 0) → ¬ ((lg_cmp (hl 279 9) (482854658917)) = 0) → ¬ ((lg_cmp (hl 279 9) (495756602476)) = 0) → ¬ ((lg_cmp (hl 279 9) (1685022067)) = 0) → ¬ ((lg_cmp (hl 279 9) (1885434984)) = 0) → ¬ ((lg_cmp (hl 279 9) (29807)) = 0) → ¬ ((lg_cmp (hl 279 9) (1667330917)) = 0) → ¬ ((lg_cmp (hl 279 9) (6447474)) = 0) → ¬ ((lg_cmp (hl 279 9) (2003330414)) = 0) → ¬ ((lg_cmp (hl 279 9) (1886743660)) = 0) → ¬ ((lg_cmp (hl 279 9) (6578553)) = 0) → (lg_cmp (hl 279 9) (448377483891)) = 0 → Q (some (.int (1))) (mkH hi hl sw kp))
    (h13 : ¬ ((lg_cmp (hl 279 9) (1684366692)) = 0) → ¬ ((lg_cmp (hl 279 9) (482854658917)) = 0) → ¬ ((lg_cmp (hl 279 9) (495756602476)) = 0) → ¬ ((lg_cmp (hl 279 9) (1685022067)) = 0) → ¬ ((lg_cmp (hl 279 9) (1885434984)) = 0) → ¬ ((lg_cmp (hl 279 9) (29807)) = 0) → ¬ ((lg_cmp (hl 279 9) (1667330917)) = 0) → ¬ ((lg_cmp (hl 279 9) (6447474)) = 0) → ¬ ((lg_cmp (hl 279 9) (2003330414)) = 0) → ¬ ((lg_cmp (hl 279 9) (1886743660)) = 0) → ¬ ((lg_cmp (hl 279 9) (6578553)) = 0) → ¬ ((lg_cmp (hl 279 9) (448377483891)) = 0) → (lg_cmp (hl 279 9) (495873782388)) = 0 → Q (some (.int (1))) (mkH hi hl sw kp))
    (h14 : ¬ ((lg_cmp (hl 279 9) (1684366692)) = 0) → ¬ ((lg_cmp (hl 279 9) (482854658917)) = 0) → ¬ ((lg_cmp (hl 279 9) (495756602476)) = 0) → ¬ ((lg_cmp (hl 279 9) (1685022067)) = 0) → ¬ ((lg_cmp (hl 279 9) (1885434984)) = 0) → ¬ ((lg_cmp (hl 279 9) (29807)) = 0) → ¬ ((lg_cmp (hl 279 9) (1667330917)) = 0) → ¬ ((lg_cmp (hl 279 9) (6447474)) = 0) → ¬ ((lg_cmp (hl 279 9) (2003330414)) = 0) → ¬ ((lg_cmp (hl 279 9) (1886743660)) = 0) → ¬ ((lg_cmp (hl 279 9) (6578553)) = 0) → ¬ ((lg_cmp (hl 279 9) (448377483891)) = 0) → ¬ ((lg_cmp (hl 279 9) (495873782388)) = 0) → (lg_cmp (hl 279 9) (6383461)) = 0 → Q (some (.int (1))) (mkH hi hl sw kp))
    (h15 : ¬ ((lg_cmp (hl 279 9) (1684366692)) = 0) → ¬ ((lg_cmp (hl 279 9) (482854658917)) = 0) → ¬ ((lg_cmp (hl 279 9) (495756602476)) = 0) → ¬ ((lg_cmp (hl 279 9) (1685022067)) = 0) → ¬ ((lg_cmp (hl 279 9) (1885434984)) = 0) → ¬ ((lg_cmp (hl 279 9) (29807)) = 0) → ¬ ((lg_cmp (hl 279 9) (1667330917)) = 0) → ¬ ((lg_cmp (hl 279 9) (6447474)) = 0) → ¬ ((lg_cmp (hl 279 9) (2003330414)) = 0) → ¬ ((lg_cmp (hl 279 9) (1886743660)) = 0) → ¬ ((lg_cmp (hl 279 9) (6578553)) = 0) → ¬ ((lg_cmp (hl 279 9) (448377483891)) = 0) → ¬ ((lg_cmp (hl 279 9) (495873782388)) = 0) → ¬ ((lg_cmp (hl 279 9) (6383461)) = 0) → (lg_cmp (hl 279 9) (1685217655)) = 0 → Q (some (.int (1))) (mkH hi hl sw kp))
    (h16 : ¬ ((lg_cmp (hl 279 9) (1684366692)) = 0) → ¬ ((lg_cmp (hl 279 9) (482854658917)) = 0) → ¬ ((lg_cmp (hl 279 9) (495756602476)) = 0) → ¬ ((lg_cmp (hl 279 9) (1685022067)) = 0) → ¬ ((lg_cmp (hl 279 9) (1885434984)) = 0) → ¬ ((lg_cmp (hl 279 9) (29807)) = 0) → ¬ ((lg_cmp (hl 279 9) (1667330917)) = 0) → ¬ ((lg_cmp (hl 279 9) (6447474)) = 0) → ¬ ((lg_cmp (hl 279 9) (2003330414)) = 0) → ¬ ((lg_cmp (hl 279 9) (1886743660)) = 0) → ¬ ((lg_cmp (hl 279 9) (6578553)) = 0) → ¬ ((lg_cmp (hl 279 9) (448377483891)) = 0) → ¬ ((lg_cmp (hl 279 9) (495873782388)) = 0) → ¬ ((lg_cmp (hl 279 9) (6383461)) = 0) → ¬ ((lg_cmp (hl 279 9) (1685217655)) = 0) → (lg_cmp (hl 279 9) (422776300915)) = 0 → Q (some (.int (1))) (mkH hi hl sw kp))
    (h17 : ¬ ((lg_cmp (hl 279 9) (1684366692)) = 0) → ¬ ((lg_cmp (hl 279 9) (482854658917)) = 0) → ¬ ((lg_cmp (hl 279 9) (495756602476)) = 0) → ¬ ((lg_cmp (hl 279 9) (1685022067)) = 0) → ¬ ((lg_cmp (hl 279 9) (1885434984)) = 0) → ¬ ((lg_cmp (hl 279 9) (29807)) = 0) → ¬ ((lg_cmp (hl 279 9) (1667330917)) = 0) → ¬ ((lg_cmp (hl 279 9) (6447474)) = 0) → ¬ ((lg_cmp (hl 279 9) (2003330414)) = 0) → ¬ ((lg_cmp (hl 279 9) (1886743660)) = 0) → ¬ ((lg_cmp (hl 279 9) (6578553)) = 0) → ¬ ((lg_cmp (hl 279 9) (448377483891)) = 0) → ¬ ((lg_cmp (hl 279 9) (495873782388)) = 0) → ¬ ((lg_cmp (hl 279 9) (6383461)) = 0) → ¬ ((lg_cmp (hl 279 9) (1685217655)) = 0) → ¬ ((lg_cmp (hl 279 9) (422776300915)) = 0) → (lg_cmp (hl 279 9) (1752135026)) = 0 → Q (some (.int (1))) (mkH hi hl sw kp))
    (h18 : ¬ ((lg_cmp (hl 279 9) (1684366692)) = 0) → ¬ ((lg_cmp (hl 279 9) (482854658917)) = 0) → ¬ ((lg_cmp (hl 279 9) (495756602476)) = 0) → ¬ ((lg_cmp (hl 279 9) (1685022067)) = 0) → ¬ ((lg_cmp (hl 279 9) (1885434984)) = 0) → ¬ ((lg_cmp (hl 279 9) (29807)) = 0) → ¬ ((lg_cmp (hl 279 9) (1667330917)) = 0) → ¬ ((lg_cmp (hl 279 9) (6447474)) = 0) → ¬ ((lg_cmp (hl 279 9) (2003330414)) = 0) → ¬ ((lg_cmp (hl 279 9) (1886743660)) = 0) → ¬ ((lg_cmp (hl 279 9) (6578553)) = 0) → ¬ ((lg_cmp (hl 279 9) (448377483891)) = 0) → ¬ ((lg_cmp (hl 279 9) (495873782388)) = 0) → ¬ ((lg_cmp (hl 279 9) (6383461)) = 0) → ¬ ((lg_cmp (hl 279 9) (1685217655)) = 0) → ¬ ((lg_cmp (hl 279 9) (422776300915)) = 0) → ¬ ((lg_cmp (hl 279 9) (1752135026)) = 0) → (lg_cmp (hl 279 9) (1751478885)) = 0 → Q (some (.int (1))) (mkH hi hl sw kp))
    (h19 : ¬ ((lg_cmp (hl 279 9) (1684366692)) = 0) → ¬ ((lg_cmp (hl 279 9) (482854658917)) = 0) → ¬ ((lg_cmp (hl 279 9) (495756602476)) = 0) → ¬ ((lg_cmp (hl 279 9) (1685022067)) = 0) → ¬ ((lg_cmp (hl 279 9) (1885434984)) = 0) → ¬ ((lg_cmp (hl 279 9) (29807)) = 0) → ¬ ((lg_cmp (hl 279 9) (1667330917)) = 0) → ¬ ((lg_cmp (hl 279 9) (6447474)) = 0) → ¬ ((lg_cmp (hl 279 9) (2003330414)) = 0) → ¬ ((lg_cmp (hl 279 9) (1886743660)) = 0) → ¬ ((lg_cmp (hl 279 9) (6578553)) = 0) → ¬ ((lg_cmp (hl 279 9) (448377483891)) = 0) → ¬ ((lg_cmp (hl 279 9) (495873782388)) = 0) → ¬ ((lg_cmp (hl 279 9) (6383461)) = 0) → ¬ ((lg_cmp (hl 279 9) (1685217655)) = 0) → ¬ ((lg_cmp (hl 279 9) (422776300915)) = 0) → ¬ ((lg_cmp (hl 279 9) (1752135026)) = 0) → ¬ ((lg_cmp (hl 279 9) (1751478885)) = 0) → (lg_cmp (hl 279 9) (6385252)) = 0 → Q (some (.int (1))) (mkH hi hl sw kp))
    (h20 : ¬ ((lg_cmp (hl 279 9) (1684366692)) = 0) → ¬ ((lg_cmp (hl 279 9) (482854658917)) = 0) → ¬ ((lg_cmp (hl 279 9) (495756602476)) = 0) → ¬ ((lg_cmp (hl 279 9) (1685022067)) = 0) → ¬ ((lg_cmp (hl 279 9) (1885434984)) = 0) → ¬ ((lg_cmp (hl 279 9) (29807)) = 0) → ¬ ((lg_cmp (hl 279 9) (1667330917)) = 0) → ¬ ((lg_cmp (hl 279 9) (6447474)) = 0) → ¬ ((lg_cmp (hl 279 9) (2003330414)) = 0) → ¬ ((lg_cmp (hl 279 9) (1886743660)) = 0) → ¬ ((lg_cmp (hl 279 9) (6578553)) = 0) → ¬ ((lg_cmp (hl 279 9) (448377483891)) = 0) → ¬ ((lg_cmp (hl 279 9) (495873782388)) = 0) → ¬ ((lg_cmp (hl 279 9) (6383461)) = 0) → ¬ ((lg_cmp (hl 279 9) (1685217655)) = 0) → ¬ ((lg_cmp (hl 279 9) (422776300915)) = 0) → ¬ ((lg_cmp (hl 279 9) (1752135026)) = 0) → ¬ ((lg_cmp (hl 279 9) (1751478885)) = 0) → ¬ ((lg_cmp (hl 279 9) (6385252)) = 0) → (lg_cmp (hl 279 9) (28530)) = 0 → Q (some (.int (1))) (mkH hi hl sw kp))
    (h21 : ¬ ((lg_cmp (hl 279 9) (1684366692)) = 0) → ¬ ((lg_cmp (hl 279 9) (482854658917)) = 0) → ¬ ((lg_cmp (hl 279 9) (495756602476)) = 0) → ¬ ((lg_cmp (hl 279 9) (1685022067)) = 0) → ¬ ((lg_cmp (hl 279 9) (1885434984)) = 0) → ¬ ((lg_cmp (hl 279 9) (29807)) = 0) → ¬ ((lg_cmp (hl 279 9) (1667330917)) = 0) → ¬ ((lg_cmp (hl 279 9) (6447474)) = 0) → ¬ ((lg_cmp (hl 279 9) (2003330414)) = 0) → ¬ ((lg_cmp (hl 279 9) (1886743660)) = 0) → ¬ ((lg_cmp (hl 279 9) (6578553)) = 0) → ¬ ((lg_cmp (hl 279 9) (448377483891)) = 0) → ¬ ((lg_cmp (hl 279 9) (495873782388)) = 0) → ¬ ((lg_cmp (hl 279 9) (6383461)) = 0) → ¬ ((lg_cmp (hl 279 9) (1685217655)) = 0) → ¬ ((lg_cmp (hl 279 9) (422776300915)) = 0) → ¬ ((lg_cmp (hl 279 9) (1752135026)) = 0) → ¬ ((lg_cmp (hl 279 9) (1751478885)) = 0) → ¬ ((lg_cmp (hl 279 9) (6385252)) = 0) → ¬ ((lg_cmp (hl 279 9) (28530)) = 0) → (lg_cmp (hl 279 9) (7237492)) = 0 → Q (some (.int (1))) (mkH hi hl sw kp))
    (h22 : ¬ ((lg_cmp (hl 279 9) (1684366692)) = 0) → ¬ ((lg_cmp (hl 279 9) (482854658917)) = 0) → ¬ ((lg_cmp (hl 279 9) (495756602476)) = 0) → ¬ ((lg_cmp (hl 279 9) (1685022067)) = 0) → ¬ ((lg_cmp (hl 279 9) (1885434984)) = 0) → ¬ ((lg_cmp (hl 279 9) (29807)) = 0) → ¬ ((lg_cmp (hl 279 9) (1667330917)) = 0) → ¬ ((lg_cmp (hl 279 9) (6447474)) = 0) → ¬ ((lg_cmp (hl 279 9) (2003330414)) = 0) → ¬ ((lg_cmp (hl 279 9) (1886743660)) = 0) → ¬ ((lg_cmp (hl 279 9) (6578553)) = 0) → ¬ ((lg_cmp (hl 279 9) (448377483891)) = 0) → ¬ ((lg_cmp (hl 279 9) (495873782388)) = 0) → ¬ ((lg_cmp (hl 279 9) (6383461)) = 0) → ¬ ((lg_cmp (hl 279 9) (1685217655)) = 0) → ¬ ((lg_cmp (hl 279 9) (422776300915)) = 0) → ¬ ((lg_cmp (hl 279 9) (1752135026)) = 0) → ¬ ((lg_cmp (hl 279 9) (1751478885)) = 0) → ¬ ((lg_cmp (hl 279 9) (6385252)) = 0) → ¬ ((lg_cmp (hl 279 9) (28530)) = 0) → ¬ ((lg_cmp (hl 279 9) (7237492)) = 0) → Q (some (.int (0))) (mkH hi hl sw kp))
    : cS (d + 1) 173 [(.ref 279)] (mkH hi hl sw kp) Q := cS.of rfl (k_173_0 h1 h2 h3 h4 h5 h6 h7 h8 h9 h10 h11 h12 h13 h14 h15 h16 h17 h18 h19 h20 h21 h22)
-- 174: DogDecreesModel.isName()Z
set_option maxRecDepth 100000 in
theorem k_174_0
    (h1 : (hi 279 6) = (1) → cS d 173 [(.ref 279)] (mkH hi hl sw kp) (am_ret (cW cd_174 d Q) 12 [some (.ref 279)] []))
    (h2 : ¬ ((hi 279 6) = (1)) → Q (some (.int (0))) (mkH hi hl sw kp))
    : cW cd_174 d Q 0 [some (.ref 279)] [] (mkH hi hl sw kp) :=
  cW.run (am_in [12]) 6 (And.intro (fun c1 => (cC.of (h1 c1))) (fun c2 => (And.intro (Or.inl rfl) (cQ.of (h2 c2)))))
theorem e_174
    (h1 : (hi 279 6) = (1) → cS d 173 [(.ref 279)] (mkH hi hl sw kp) (am_ret (cW cd_174 d Q) 12 [some (.ref 279)] []))
    (h2 : ¬ ((hi 279 6) = (1)) → Q (some (.int (0))) (mkH hi hl sw kp))
    : cS (d + 1) 174 [(.ref 279)] (mkH hi hl sw kp) Q := cS.of rfl (k_174_0 h1 h2)
set_option maxRecDepth 100000 in
theorem k_174_12 {s0 : Int32}
    (h1 : s0 = 0 → Q (some (.int (1))) (mkH hi hl sw kp))
    (h2 : ¬ (s0 = 0) → Q (some (.int (0))) (mkH hi hl sw kp))
    : cW cd_174 d Q 12 [some (.ref 279)] [(.int s0)] (mkH hi hl sw kp) :=
  cW.run (am_in [12]) 4 (And.intro (fun c1 => (And.intro (Or.inr rfl) (cQ.of (h1 c1)))) (fun c2 => (And.intro (Or.inl rfl) (cQ.of (h2 c2)))))
-- 175: DogDecreesModel.want(J)V
set_option maxRecDepth 100000 in
theorem k_175_0 {x1 : Int64}
    (h1 : (hi 279 2) ≤ 0 → cS d 172 [(.ref 279), (.long x1)] (mkH hi hl sw kp) (am_ret (cW cd_175 d Q) 13 [some (.ref 279), some (.long x1), none] []))
    (h2 : ¬ ((hi 279 2) ≤ 0) → Q none (mkH hi hl sw kp))
    : cW cd_175 d Q 0 [some (.ref 279), some (.long x1), none] [] (mkH hi hl sw kp) :=
  cW.run (am_in [13, 21, 28]) 6 (And.intro (fun c1 => (cC.of (h1 c1))) (fun c2 => (cQ.of (h2 c2))))
theorem e_175 {x1 : Int64}
    (h1 : (hi 279 2) ≤ 0 → cS d 172 [(.ref 279), (.long x1)] (mkH hi hl sw kp) (am_ret (cW cd_175 d Q) 13 [some (.ref 279), some (.long x1), none] []))
    (h2 : ¬ ((hi 279 2) ≤ 0) → Q none (mkH hi hl sw kp))
    : cS (d + 1) 175 [(.ref 279), (.long x1)] (mkH hi hl sw kp) Q := cS.of rfl (k_175_0 h1 h2)
set_option maxRecDepth 100000 in
theorem k_175_13 {x1 : Int64} {s0 : Int32}
    (h1 : s0 = 0 → cS d 171 [(.ref 279), (.int (2))] (mkH hi hl sw kp) (am_ret (cW cd_175 d Q) 21 [some (.ref 279), some (.long x1), none] []))
    (h2 : ¬ (s0 = 0) → cS d 170 [(.ref 279)] (mkH hi hl sw kp) (am_ret (cW cd_175 d Q) 28 [some (.ref 279), some (.long x1), none] []))
    : cW cd_175 d Q 13 [some (.ref 279), some (.long x1), none] [(.int s0)] (mkH hi hl sw kp) :=
  cW.run (am_in [13, 21, 28]) 4 (And.intro (fun c1 => (cC.of (h1 c1))) (fun c2 => (cC.of (h2 c2))))
set_option maxRecDepth 100000 in
theorem k_175_21 {x1 : Int64}
    (h1 : cW cd_175 d Q 28 [some (.ref 279), some (.long x1), none] [] (mkH hi hl sw kp))
    : cW cd_175 d Q 21 [some (.ref 279), some (.long x1), none] [] (mkH hi hl sw kp) :=
  cW.run (am_in [13, 21, 28]) 1 (h1)
set_option maxRecDepth 100000 in
theorem k_175_28 {x1 : Int64}
    (h1 : Q none (mkH hi hl sw kp))
    : cW cd_175 d Q 28 [some (.ref 279), some (.long x1), none] [] (mkH hi hl sw kp) :=
  cW.run (am_in [13, 21, 28]) 1 (cQ.of (h1))
-- 176: DogDecreesModel.toldNumber(II)I
set_option maxRecDepth 100000 in
theorem k_176_0 {x1 : Int32} {x2 : Int32}
    (h1 : (hi 279 2) ≤ 0 → (hi 279 6) = (2) → (hi 279 8) < x1 → cS d 171 [(.ref 279), (.int (4))] (mkH hi hl sw kp) (am_ret (cW cd_176 d Q) 46 [some (.ref 279), some (.int x1), some (.int x2), none] []))
    (h2 : (hi 279 2) ≤ 0 → (hi 279 6) = (2) → ¬ ((hi 279 8) < x1) → (hi 279 8) ≤ x2 → cW cd_176 d Q 46 [some (.ref 279), some (.int x1), some (.int x2), none] [] (mkH hi hl sw kp))
    (h3 : (hi 279 2) ≤ 0 → (hi 279 6) = (2) → ¬ ((hi 279 8) < x1) → ¬ ((hi 279 8) ≤ x2) → cS d 171 [(.ref 279), (.int (4))] (mkH hi hl sw kp) (am_ret (cW cd_176 d Q) 46 [some (.ref 279), some (.int x1), some (.int x2), none] []))
    (h4 : (hi 279 2) ≤ 0 → ¬ ((hi 279 6) = (2)) → cS d 171 [(.ref 279), (.int (2))] (mkH hi hl sw kp) (am_ret (cW cd_176 d Q) 22 [some (.ref 279), some (.int x1), some (.int x2), none] []))
    (h5 : ¬ ((hi 279 2) ≤ 0) → Q (some (.int (0))) (mkH hi hl sw kp))
    : cW cd_176 d Q 0 [some (.ref 279), some (.int x1), some (.int x2), none] [] (mkH hi hl sw kp) :=
  cW.run (am_in [22, 46, 62]) 18 (And.intro (fun c1 => (And.intro (fun c2 => (And.intro (fun c3 => (cC.of (h1 c1 c2 c3))) (fun c4 => (And.intro (fun c5 => (h2 c1 c2 c4 c5)) (fun c6 => (cC.of (h3 c1 c2 c4 c6))))))) (fun c7 => (cC.of (h4 c1 c7))))) (fun c8 => (cQ.of (h5 c8))))
theorem e_176 {x1 : Int32} {x2 : Int32}
    (h1 : (hi 279 2) ≤ 0 → (hi 279 6) = (2) → (hi 279 8) < x1 → cS d 171 [(.ref 279), (.int (4))] (mkH hi hl sw kp) (am_ret (cW cd_176 d Q) 46 [some (.ref 279), some (.int x1), some (.int x2), none] []))
    (h2 : (hi 279 2) ≤ 0 → (hi 279 6) = (2) → ¬ ((hi 279 8) < x1) → (hi 279 8) ≤ x2 → cW cd_176 d Q 46 [some (.ref 279), some (.int x1), some (.int x2), none] [] (mkH hi hl sw kp))
    (h3 : (hi 279 2) ≤ 0 → (hi 279 6) = (2) → ¬ ((hi 279 8) < x1) → ¬ ((hi 279 8) ≤ x2) → cS d 171 [(.ref 279), (.int (4))] (mkH hi hl sw kp) (am_ret (cW cd_176 d Q) 46 [some (.ref 279), some (.int x1), some (.int x2), none] []))
    (h4 : (hi 279 2) ≤ 0 → ¬ ((hi 279 6) = (2)) → cS d 171 [(.ref 279), (.int (2))] (mkH hi hl sw kp) (am_ret (cW cd_176 d Q) 22 [some (.ref 279), some (.int x1), some (.int x2), none] []))
    (h5 : ¬ ((hi 279 2) ≤ 0) → Q (some (.int (0))) (mkH hi hl sw kp))
    : cS (d + 1) 176 [(.ref 279), (.int x1), (.int x2)] (mkH hi hl sw kp) Q := cS.of rfl (k_176_0 h1 h2 h3 h4 h5)
set_option maxRecDepth 100000 in
theorem k_176_22 {x1 : Int32} {x2 : Int32}
    (h1 : cW cd_176 d Q 46 [some (.ref 279), some (.int x1), some (.int x2), none] [] (mkH hi hl sw kp))
    : cW cd_176 d Q 22 [some (.ref 279), some (.int x1), some (.int x2), none] [] (mkH hi hl sw kp) :=
  cW.run (am_in [22, 46, 62]) 1 (h1)
set_option maxRecDepth 100000 in
theorem k_176_46 {x1 : Int32} {x2 : Int32}
    (h1 : (hi 279 2) = 0 → cS d 170 [(.ref 279)] (mkH hi hl sw kp) (am_ret (cW cd_176 d Q) 62 [some (.ref 279), some (.int x1), some (.int x2), some (.int (hi 279 8))] []))
    (h2 : ¬ ((hi 279 2) = 0) → cW cd_176 d Q 62 [some (.ref 279), some (.int x1), some (.int x2), some (.int (hi 279 8))] [] (mkH hi hl sw kp))
    : cW cd_176 d Q 46 [some (.ref 279), some (.int x1), some (.int x2), none] [] (mkH hi hl sw kp) :=
  cW.run (am_in [22, 46, 62]) 8 (And.intro (Nat.le_of_ble_eq_true rfl) (And.intro (fun c1 => (cC.of (h1 c1))) (fun c2 => (h2 c2))))
set_option maxRecDepth 100000 in
theorem k_176_62 {x1 : Int32} {x2 : Int32} {x3 : Int32}
    (h1 : Q (some (.int x3)) (mkH hi hl sw kp))
    : cW cd_176 d Q 62 [some (.ref 279), some (.int x1), some (.int x2), some (.int x3)] [] (mkH hi hl sw kp) :=
  cW.run (am_in [22, 46, 62]) 2 (cQ.of (h1))
-- 177: DogDecreesModel.told(JII)I
set_option maxRecDepth 100000 in
theorem k_177_0 {x1 : Int64} {x3 : Int32} {x4 : Int32}
    (h1 : cS d 175 [(.ref 279), (.long x1)] (mkH hi hl sw kp) (am_ret (cW cd_177 d Q) 5 [some (.ref 279), some (.long x1), none, some (.int x3), some (.int x4)] []))
    : cW cd_177 d Q 0 [some (.ref 279), some (.long x1), none, some (.int x3), some (.int x4)] [] (mkH hi hl sw kp) :=
  cW.run (am_in [5, 12]) 3 (cC.of (h1))
theorem e_177 {x1 : Int64} {x3 : Int32} {x4 : Int32}
    (h1 : cS d 175 [(.ref 279), (.long x1)] (mkH hi hl sw kp) (am_ret (cW cd_177 d Q) 5 [some (.ref 279), some (.long x1), none, some (.int x3), some (.int x4)] []))
    : cS (d + 1) 177 [(.ref 279), (.long x1), (.int x3), (.int x4)] (mkH hi hl sw kp) Q := cS.of rfl (k_177_0 h1)
set_option maxRecDepth 100000 in
theorem k_177_5 {x1 : Int64} {x3 : Int32} {x4 : Int32}
    (h1 : cS d 176 [(.ref 279), (.int x3), (.int x4)] (mkH hi hl sw kp) (am_ret (cW cd_177 d Q) 12 [some (.ref 279), some (.long x1), none, some (.int x3), some (.int x4)] []))
    : cW cd_177 d Q 5 [some (.ref 279), some (.long x1), none, some (.int x3), some (.int x4)] [] (mkH hi hl sw kp) :=
  cW.run (am_in [5, 12]) 4 (cC.of (h1))
set_option maxRecDepth 100000 in
theorem k_177_12 {x1 : Int64} {x3 : Int32} {x4 : Int32} {s0 : Int32}
    (h1 : Q (some (.int s0)) (mkH hi hl sw kp))
    : cW cd_177 d Q 12 [some (.ref 279), some (.long x1), none, some (.int x3), some (.int x4)] [(.int s0)] (mkH hi hl sw kp) :=
  cW.run (am_in [5, 12]) 1 (cQ.of (h1))
-- 178: DogDecreesModel.find(II)I
set_option maxRecDepth 100000 in
theorem k_178_0 {x1 : Int32} {x2 : Int32}
    (h1 : cW cd_178 d Q 5 [some (.ref 279), some (.int x1), some (.int x2), some (.int (-1)), some (.int (0))] [] (mkH hi hl sw kp))
    : cW cd_178 d Q 0 [some (.ref 279), some (.int x1), some (.int x2), none, none] [] (mkH hi hl sw kp) :=
  cW.run (am_in [5]) 4 (And.intro (Nat.le_of_ble_eq_true rfl) (And.intro (Nat.le_of_ble_eq_true rfl) (h1)))
theorem e_178 {x1 : Int32} {x2 : Int32}
    (h1 : cW cd_178 d Q 5 [some (.ref 279), some (.int x1), some (.int x2), some (.int (-1)), some (.int (0))] [] (mkH hi hl sw kp))
    : cS (d + 1) 178 [(.ref 279), (.int x1), (.int x2)] (mkH hi hl sw kp) Q := cS.of rfl (k_178_0 h1)
set_option maxRecDepth 100000 in
theorem k_178_5 {x1 : Int32} {x2 : Int32} {x3 : Int32} {x4 : Int32}
    (h1 : x2 ≤ x4 → Q (some (.int x3)) (mkH hi hl sw kp))
    (h2 : ¬ (x2 ≤ x4) → vp_in (x1 + x4) 16)
    (h3 : ¬ (x2 ≤ x4) → (lg_cmp (hl 281 (x1 + x4).toNatClampNeg) (hl 279 9)) = 0 → cW cd_178 d Q 5 [some (.ref 279), some (.int x1), some (.int x2), some (.int x4), some (.int (x4 + (1)))] [] (mkH hi hl sw kp))
    (h4 : ¬ (x2 ≤ x4) → ¬ ((lg_cmp (hl 281 (x1 + x4).toNatClampNeg) (hl 279 9)) = 0) → cW cd_178 d Q 5 [some (.ref 279), some (.int x1), some (.int x2), some (.int x3), some (.int (x4 + (1)))] [] (mkH hi hl sw kp))
    : cW cd_178 d Q 5 [some (.ref 279), some (.int x1), some (.int x2), some (.int x3), some (.int x4)] [] (mkH hi hl sw kp) :=
  cW.run (am_in [5]) 18 (And.intro (fun c1 => (cQ.of (h1 c1))) (fun c2 => (And.intro (h2 c2) (And.intro (fun c3 => (And.intro (Nat.le_of_ble_eq_true rfl) (And.intro (Nat.le_of_ble_eq_true rfl) (h3 c2 c3)))) (fun c4 => (And.intro (Nat.le_of_ble_eq_true rfl) (And.intro (Nat.le_of_ble_eq_true rfl) (h4 c2 c4))))))))
-- 179: DogDecreesModel.newName(II)V
set_option maxRecDepth 100000 in
theorem k_179_0 {x1 : Int32} {x2 : Int32}
    (h1 : cS d 170 [(.ref 279)] (mkH hi hl sw kp) (am_ret (cW cd_179 d Q) 4 [some (.ref 279), some (.int x1), some (.int x2)] []))
    : cW cd_179 d Q 0 [some (.ref 279), some (.int x1), some (.int x2)] [] (mkH hi hl sw kp) :=
  cW.run (am_in [4, 8, 16, 25, 33, 57]) 2 (cC.of (h1))
theorem e_179 {x1 : Int32} {x2 : Int32}
    (h1 : cS d 170 [(.ref 279)] (mkH hi hl sw kp) (am_ret (cW cd_179 d Q) 4 [some (.ref 279), some (.int x1), some (.int x2)] []))
    : cS (d + 1) 179 [(.ref 279), (.int x1), (.int x2)] (mkH hi hl sw kp) Q := cS.of rfl (k_179_0 h1)
set_option maxRecDepth 100000 in
theorem k_179_4 {x1 : Int32} {x2 : Int32}
    (h1 : cS d 174 [(.ref 279)] (mkH hi hl sw kp) (am_ret (cW cd_179 d Q) 8 [some (.ref 279), some (.int x1), some (.int x2)] []))
    : cW cd_179 d Q 4 [some (.ref 279), some (.int x1), some (.int x2)] [] (mkH hi hl sw kp) :=
  cW.run (am_in [4, 8, 16, 25, 33, 57]) 2 (cC.of (h1))
set_option maxRecDepth 100000 in
theorem k_179_8 {x1 : Int32} {x2 : Int32} {s0 : Int32}
    (h1 : s0 = 0 → cS d 171 [(.ref 279), (.int (2))] (mkH hi hl sw kp) (am_ret (cW cd_179 d Q) 16 [some (.ref 279), some (.int x1), some (.int x2)] []))
    (h2 : ¬ (s0 = 0) → cS d 178 [(.ref 279), (.int x1), (.int x2)] (mkH hi hl sw kp) (am_ret (cW cd_179 d Q) 25 [some (.ref 279), some (.int x1), some (.int x2)] []))
    : cW cd_179 d Q 8 [some (.ref 279), some (.int x1), some (.int x2)] [(.int s0)] (mkH hi hl sw kp) :=
  cW.run (am_in [4, 8, 16, 25, 33, 57]) 5 (And.intro (fun c1 => (cC.of (h1 c1))) (fun c2 => (cC.of (h2 c2))))
set_option maxRecDepth 100000 in
theorem k_179_16 {x1 : Int32} {x2 : Int32}
    (h1 : cW cd_179 d Q 33 [some (.ref 279), some (.int x1), some (.int x2)] [] (mkH hi hl sw kp))
    : cW cd_179 d Q 16 [some (.ref 279), some (.int x1), some (.int x2)] [] (mkH hi hl sw kp) :=
  cW.run (am_in [4, 8, 16, 25, 33, 57]) 1 (h1)
set_option maxRecDepth 100000 in
theorem k_179_25 {x1 : Int32} {x2 : Int32} {s0 : Int32}
    (h1 : s0 < 0 → cW cd_179 d Q 33 [some (.ref 279), some (.int x1), some (.int x2)] [] (mkH hi hl sw kp))
    (h2 : ¬ (s0 < 0) → cS d 171 [(.ref 279), (.int (3))] (mkH hi hl sw kp) (am_ret (cW cd_179 d Q) 33 [some (.ref 279), some (.int x1), some (.int x2)] []))
    : cW cd_179 d Q 25 [some (.ref 279), some (.int x1), some (.int x2)] [(.int s0)] (mkH hi hl sw kp) :=
  cW.run (am_in [4, 8, 16, 25, 33, 57]) 4 (And.intro (fun c1 => (h1 c1)) (fun c2 => (cC.of (h2 c2))))
set_option maxRecDepth 100000 in
theorem k_179_33 {x1 : Int32} {x2 : Int32}
    (h1 : (hi 279 2) ≤ 0 → vp_in (x1 + x2) 16)
    (h2 : (hi 279 2) ≤ 0 → cS d 170 [(.ref 279)] (mkH hi (u2 hl 281 (x1 + x2).toNatClampNeg (hl 279 9)) sw kp) (am_ret (cW cd_179 d Q) 57 [some (.ref 279), some (.int x1), some (.int x2)] []))
    (h3 : ¬ ((hi 279 2) ≤ 0) → Q none (mkH hi hl sw kp))
    : cW cd_179 d Q 33 [some (.ref 279), some (.int x1), some (.int x2)] [] (mkH hi hl sw kp) :=
  cW.run (am_in [4, 8, 16, 25, 33, 57]) 13 (And.intro (fun c1 => (And.intro (h1 c1) (cC.of (h2 c1)))) (fun c2 => (cQ.of (h3 c2))))
set_option maxRecDepth 100000 in
theorem k_179_57 {x1 : Int32} {x2 : Int32}
    (h1 : Q none (mkH hi hl sw kp))
    : cW cd_179 d Q 57 [some (.ref 279), some (.int x1), some (.int x2)] [] (mkH hi hl sw kp) :=
  cW.run (am_in [4, 8, 16, 25, 33, 57]) 1 (cQ.of (h1))
-- 180: DogDecreesModel.oldName(II)I
set_option maxRecDepth 100000 in
theorem k_180_0 {x1 : Int32} {x2 : Int32}
    (h1 : (hi 279 2) ≤ 0 → cS d 174 [(.ref 279)] (mkH hi hl sw kp) (am_ret (cW cd_180 d Q) 13 [some (.ref 279), some (.int x1), some (.int x2)] []))
    (h2 : ¬ ((hi 279 2) ≤ 0) → Q (some (.int (0))) (mkH hi hl sw kp))
    : cW cd_180 d Q 0 [some (.ref 279), some (.int x1), some (.int x2)] [] (mkH hi hl sw kp) :=
  cW.run (am_in [13, 21, 30, 38, 55]) 5 (And.intro (fun c1 => (cC.of (h1 c1))) (fun c2 => (cQ.of (h2 c2))))
theorem e_180 {x1 : Int32} {x2 : Int32}
    (h1 : (hi 279 2) ≤ 0 → cS d 174 [(.ref 279)] (mkH hi hl sw kp) (am_ret (cW cd_180 d Q) 13 [some (.ref 279), some (.int x1), some (.int x2)] []))
    (h2 : ¬ ((hi 279 2) ≤ 0) → Q (some (.int (0))) (mkH hi hl sw kp))
    : cS (d + 1) 180 [(.ref 279), (.int x1), (.int x2)] (mkH hi hl sw kp) Q := cS.of rfl (k_180_0 h1 h2)
set_option maxRecDepth 100000 in
theorem k_180_13 {x1 : Int32} {x2 : Int32} {s0 : Int32}
    (h1 : s0 = 0 → cS d 171 [(.ref 279), (.int (2))] (mkH hi hl sw kp) (am_ret (cW cd_180 d Q) 21 [some (.ref 279), some (.int x1), some (.int x2)] []))
    (h2 : ¬ (s0 = 0) → cS d 178 [(.ref 279), (.int x1), (.int x2)] (mkH hi hl sw kp) (am_ret (cW cd_180 d Q) 30 [some (.ref 279), some (.int x1), some (.int x2)] []))
    : cW cd_180 d Q 13 [some (.ref 279), some (.int x1), some (.int x2)] [(.int s0)] (mkH hi hl sw kp) :=
  cW.run (am_in [13, 21, 30, 38, 55]) 5 (And.intro (fun c1 => (cC.of (h1 c1))) (fun c2 => (cC.of (h2 c2))))
set_option maxRecDepth 100000 in
theorem k_180_21 {x1 : Int32} {x2 : Int32}
    (h1 : cW cd_180 d Q 38 [some (.ref 279), some (.int x1), some (.int x2)] [] (mkH hi hl sw kp))
    : cW cd_180 d Q 21 [some (.ref 279), some (.int x1), some (.int x2)] [] (mkH hi hl sw kp) :=
  cW.run (am_in [13, 21, 30, 38, 55]) 1 (h1)
set_option maxRecDepth 100000 in
theorem k_180_30 {x1 : Int32} {x2 : Int32} {s0 : Int32}
    (h1 : 0 ≤ s0 → cW cd_180 d Q 38 [some (.ref 279), some (.int x1), some (.int x2)] [] (mkH hi hl sw kp))
    (h2 : ¬ (0 ≤ s0) → cS d 171 [(.ref 279), (.int (5))] (mkH hi hl sw kp) (am_ret (cW cd_180 d Q) 38 [some (.ref 279), some (.int x1), some (.int x2)] []))
    : cW cd_180 d Q 30 [some (.ref 279), some (.int x1), some (.int x2)] [(.int s0)] (mkH hi hl sw kp) :=
  cW.run (am_in [13, 21, 30, 38, 55]) 4 (And.intro (fun c1 => (h1 c1)) (fun c2 => (cC.of (h2 c2))))
set_option maxRecDepth 100000 in
theorem k_180_38 {x1 : Int32} {x2 : Int32}
    (h1 : (hi 279 2) ≤ 0 → cS d 178 [(.ref 279), (.int x1), (.int x2)] (mkH hi hl sw kp) (am_ret (cW cd_180 d Q) 55 [some (.ref 279), some (.int x1), some (.int x2)] []))
    (h2 : ¬ ((hi 279 2) ≤ 0) → cW cd_180 d Q 55 [some (.ref 279), some (.int x1), some (.int x2)] [(.int (0))] (mkH hi hl sw kp))
    : cW cd_180 d Q 38 [some (.ref 279), some (.int x1), some (.int x2)] [] (mkH hi hl sw kp) :=
  cW.run (am_in [13, 21, 30, 38, 55]) 7 (And.intro (fun c1 => (cC.of (h1 c1))) (fun c2 => (h2 c2)))
set_option maxRecDepth 100000 in
theorem k_180_55 {x1 : Int32} {x2 : Int32} {s0 : Int32}
    (h1 : Q (some (.int s0)) (mkH hi hl sw kp))
    : cW cd_180 d Q 55 [some (.ref 279), some (.int x1), some (.int x2)] [(.int s0)] (mkH hi hl sw kp) :=
  cW.run (am_in [13, 21, 30, 38, 55]) 1 (cQ.of (h1))
-- 181: DogDecreesModel.add(II)V
set_option maxRecDepth 100000 in
theorem k_181_0 {x1 : Int32} {x2 : Int32}
    (h1 : vp_in (hi 279 17) 320)
    (h2 : vp_in (hi 279 17) 320)
    (h3 : Q none (mkH (u2 (u2 (u2 hi 282 (hi 279 17).toNatClampNeg x1) 283 (hi 279 17).toNatClampNeg x2) 279 17 ((hi 279 17) + (1))) hl sw kp))
    : cW cd_181 d Q 0 [some (.ref 279), some (.int x1), some (.int x2)] [] (mkH hi hl sw kp) :=
  cW.run (am_in []) 19 (And.intro (h1) (And.intro (h2) (And.intro rfl (cQ.of (h3)))))
theorem e_181 {x1 : Int32} {x2 : Int32}
    (h1 : vp_in (hi 279 17) 320)
    (h2 : vp_in (hi 279 17) 320)
    (h3 : Q none (mkH (u2 (u2 (u2 hi 282 (hi 279 17).toNatClampNeg x1) 283 (hi 279 17).toNatClampNeg x2) 279 17 ((hi 279 17) + (1))) hl sw kp))
    : cS (d + 1) 181 [(.ref 279), (.int x1), (.int x2)] (mkH hi hl sw kp) Q := cS.of rfl (k_181_0 h1 h2 h3)
-- 182: DogDecreesModel.tight(I)I
set_option maxRecDepth 100000 in
theorem k_182_0 {x0 : Int32}
    (h1 : x0 = 21 → Q (some (.int (3))) (mkH hi hl sw kp))
    (h2 : ¬ x0 = 21 → x0 = 38 → Q (some (.int (2))) (mkH hi hl sw kp))
    (h3 : ¬ x0 = 21 → ¬ x0 = 38 → x0 = 43 → Q (some (.int (5))) (mkH hi hl sw kp))
    (h4 : ¬ x0 = 21 → ¬ x0 = 38 → ¬ x0 = 43 → x0 = 45 → Q (some (.int (5))) (mkH hi hl sw kp))
    (h5 : ¬ x0 = 21 → ¬ x0 = 38 → ¬ x0 = 43 → ¬ x0 = 45 → x0 = 60 → Q (some (.int (4))) (mkH hi hl sw kp))
    (h6 : ¬ x0 = 21 → ¬ x0 = 38 → ¬ x0 = 43 → ¬ x0 = 45 → ¬ x0 = 60 → x0 = 61 → Q (some (.int (4))) (mkH hi hl sw kp))
    (h7 : ¬ x0 = 21 → ¬ x0 = 38 → ¬ x0 = 43 → ¬ x0 = 45 → ¬ x0 = 60 → ¬ x0 = 61 → x0 = 62 → Q (some (.int (4))) (mkH hi hl sw kp))
    (h8 : ¬ x0 = 21 → ¬ x0 = 38 → ¬ x0 = 43 → ¬ x0 = 45 → ¬ x0 = 60 → ¬ x0 = 61 → ¬ x0 = 62 → x0 = 124 → Q (some (.int (1))) (mkH hi hl sw kp))
    (h9 : ¬ x0 = 21 → ¬ x0 = 38 → ¬ x0 = 43 → ¬ x0 = 45 → ¬ x0 = 60 → ¬ x0 = 61 → ¬ x0 = 62 → ¬ x0 = 124 → Q (some (.int (6))) (mkH hi hl sw kp))
    : cW cd_182 d Q 0 [some (.int x0)] [] (mkH hi hl sw kp) :=
  cW.run (am_in []) 4 (And.intro (fun c1 => (cQ.of (h1 c1))) (fun c2 => (And.intro (fun c3 => (cQ.of (h2 c2 c3))) (fun c4 => (And.intro (fun c5 => (cQ.of (h3 c2 c4 c5))) (fun c6 => (And.intro (fun c7 => (cQ.of (h4 c2 c4 c6 c7))) (fun c8 => (And.intro (fun c9 => (cQ.of (h5 c2 c4 c6 c8 c9))) (fun c10 => (And.intro (fun c11 => (cQ.of (h6 c2 c4 c6 c8 c10 c11))) (fun c12 => (And.intro (fun c13 => (cQ.of (h7 c2 c4 c6 c8 c10 c12 c13))) (fun c14 => (And.intro (fun c15 => (cQ.of (h8 c2 c4 c6 c8 c10 c12 c14 c15))) (fun c16 => (cQ.of (h9 c2 c4 c6 c8 c10 c12 c14 c16))))))))))))))))))
theorem e_182 {x0 : Int32}
    (h1 : x0 = 21 → Q (some (.int (3))) (mkH hi hl sw kp))
    (h2 : ¬ x0 = 21 → x0 = 38 → Q (some (.int (2))) (mkH hi hl sw kp))
    (h3 : ¬ x0 = 21 → ¬ x0 = 38 → x0 = 43 → Q (some (.int (5))) (mkH hi hl sw kp))
    (h4 : ¬ x0 = 21 → ¬ x0 = 38 → ¬ x0 = 43 → x0 = 45 → Q (some (.int (5))) (mkH hi hl sw kp))
    (h5 : ¬ x0 = 21 → ¬ x0 = 38 → ¬ x0 = 43 → ¬ x0 = 45 → x0 = 60 → Q (some (.int (4))) (mkH hi hl sw kp))
    (h6 : ¬ x0 = 21 → ¬ x0 = 38 → ¬ x0 = 43 → ¬ x0 = 45 → ¬ x0 = 60 → x0 = 61 → Q (some (.int (4))) (mkH hi hl sw kp))
    (h7 : ¬ x0 = 21 → ¬ x0 = 38 → ¬ x0 = 43 → ¬ x0 = 45 → ¬ x0 = 60 → ¬ x0 = 61 → x0 = 62 → Q (some (.int (4))) (mkH hi hl sw kp))
    (h8 : ¬ x0 = 21 → ¬ x0 = 38 → ¬ x0 = 43 → ¬ x0 = 45 → ¬ x0 = 60 → ¬ x0 = 61 → ¬ x0 = 62 → x0 = 124 → Q (some (.int (1))) (mkH hi hl sw kp))
    (h9 : ¬ x0 = 21 → ¬ x0 = 38 → ¬ x0 = 43 → ¬ x0 = 45 → ¬ x0 = 60 → ¬ x0 = 61 → ¬ x0 = 62 → ¬ x0 = 124 → Q (some (.int (6))) (mkH hi hl sw kp))
    : cS (d + 1) 182 [(.int x0)] (mkH hi hl sw kp) Q := cS.of rfl (k_182_0 h1 h2 h3 h4 h5 h6 h7 h8 h9)
-- 183: DogDecreesModel.close(I)V
set_option maxRecDepth 100000 in
theorem k_183_0 {x1 : Int32}
    (h1 : (hi 279 19) ≤ 0 → Q none (mkH hi hl sw kp))
    (h2 : ¬ ((hi 279 19) ≤ 0) → vp_in ((hi 279 19) - (1)) 160)
    (h3 : ¬ ((hi 279 19) ≤ 0) → (hi 286 ((hi 279 19) - (1)).toNatClampNeg) = (20) → Q none (mkH hi hl sw kp))
    (h4 : ¬ ((hi 279 19) ≤ 0) → ¬ ((hi 286 ((hi 279 19) - (1)).toNatClampNeg) = (20)) → vp_in ((hi 279 19) - (1)) 160)
    (h5 : ¬ ((hi 279 19) ≤ 0) → ¬ ((hi 286 ((hi 279 19) - (1)).toNatClampNeg) = (20)) → cS d 182 [(.int (hi 286 ((hi 279 19) - (1)).toNatClampNeg))] (mkH hi hl sw kp) (am_ret (cW cd_183 d Q) 37 [some (.ref 279), some (.int x1)] []))
    : cW cd_183 d Q 0 [some (.ref 279), some (.int x1)] [] (mkH hi hl sw kp) :=
  cW.run (am_in [0, 37, 71, 98]) 20 (And.intro (fun c1 => (cQ.of (h1 c1))) (fun c2 => (And.intro (h2 c2) (And.intro (fun c3 => (cQ.of (h3 c2 c3))) (fun c4 => (And.intro (h4 c2 c4) (cC.of (h5 c2 c4))))))))
theorem e_183 {x1 : Int32}
    (h1 : (hi 279 19) ≤ 0 → Q none (mkH hi hl sw kp))
    (h2 : ¬ ((hi 279 19) ≤ 0) → vp_in ((hi 279 19) - (1)) 160)
    (h3 : ¬ ((hi 279 19) ≤ 0) → (hi 286 ((hi 279 19) - (1)).toNatClampNeg) = (20) → Q none (mkH hi hl sw kp))
    (h4 : ¬ ((hi 279 19) ≤ 0) → ¬ ((hi 286 ((hi 279 19) - (1)).toNatClampNeg) = (20)) → vp_in ((hi 279 19) - (1)) 160)
    (h5 : ¬ ((hi 279 19) ≤ 0) → ¬ ((hi 286 ((hi 279 19) - (1)).toNatClampNeg) = (20)) → cS d 182 [(.int (hi 286 ((hi 279 19) - (1)).toNatClampNeg))] (mkH hi hl sw kp) (am_ret (cW cd_183 d Q) 37 [some (.ref 279), some (.int x1)] []))
    : cS (d + 1) 183 [(.ref 279), (.int x1)] (mkH hi hl sw kp) Q := cS.of rfl (k_183_0 h1 h2 h3 h4 h5)
set_option maxRecDepth 100000 in
theorem k_183_37 {x1 : Int32} {s0 : Int32}
    (h1 : s0 < x1 → Q none (mkH hi hl sw kp))
    (h2 : ¬ (s0 < x1) → vp_in ((hi 279 19) - (1)) 160)
    (h3 : ¬ (s0 < x1) → (hi 286 ((hi 279 19) - (1)).toNatClampNeg) = (21) → cS d 181 [(.ref 279), (.int (2)), (.int (0))] (mkH (u2 hi 279 19 ((hi 279 19) - (1))) hl sw kp) (am_ret (cW cd_183 d Q) 71 [some (.ref 279), some (.int x1)] []))
    (h4 : ¬ (s0 < x1) → ¬ ((hi 286 ((hi 279 19) - (1)).toNatClampNeg) = (21)) → vp_in ((hi 279 19) - (1)) 160)
    (h5 : ¬ (s0 < x1) → ¬ ((hi 286 ((hi 279 19) - (1)).toNatClampNeg) = (21)) → cS d 181 [(.ref 279), (.int (3)), (.int (hi 286 ((hi 279 19) - (1)).toNatClampNeg))] (mkH (u2 hi 279 19 ((hi 279 19) - (1))) hl sw kp) (am_ret (cW cd_183 d Q) 98 [some (.ref 279), some (.int x1)] []))
    : cW cd_183 d Q 37 [some (.ref 279), some (.int x1)] [(.int s0)] (mkH hi hl sw kp) :=
  cW.run (am_in [0, 37, 71, 98]) 23 (And.intro (fun c1 => (cQ.of (h1 c1))) (fun c2 => (And.intro rfl (And.intro (h2 c2) (And.intro (fun c3 => (cC.of (h3 c2 c3))) (fun c4 => (And.intro (h4 c2 c4) (cC.of (h5 c2 c4)))))))))
set_option maxRecDepth 100000 in
theorem k_183_71 {x1 : Int32}
    (h1 : cW cd_183 d Q 0 [some (.ref 279), some (.int x1)] [] (mkH (u2 hi 279 23 ((hi 279 23) - (1))) hl sw kp))
    : cW cd_183 d Q 71 [some (.ref 279), some (.int x1)] [] (mkH hi hl sw kp) :=
  cW.run (am_in [0, 37, 71, 98]) 7 (And.intro rfl (h1))
set_option maxRecDepth 100000 in
theorem k_183_98 {x1 : Int32}
    (h1 : cW cd_183 d Q 0 [some (.ref 279), some (.int x1)] [] (mkH hi hl sw kp))
    : cW cd_183 d Q 98 [some (.ref 279), some (.int x1)] [] (mkH hi hl sw kp) :=
  cW.run (am_in [0, 37, 71, 98]) 1 (h1)
-- 184: DogDecreesModel.hasRelation()Z
set_option maxRecDepth 100000 in
theorem k_184_0
    (h1 : cW cd_184 d Q 7 [some (.ref 279), some (.int ((hi 279 19) - (1)))] [] (mkH hi hl sw kp))
    : cW cd_184 d Q 0 [some (.ref 279), none] [] (mkH hi hl sw kp) :=
  cW.run (am_in [7, 31, 65]) 5 (And.intro (Nat.le_of_ble_eq_true rfl) (h1))
theorem e_184
    (h1 : cW cd_184 d Q 7 [some (.ref 279), some (.int ((hi 279 19) - (1)))] [] (mkH hi hl sw kp))
    : cS (d + 1) 184 [(.ref 279)] (mkH hi hl sw kp) Q := cS.of rfl (k_184_0 h1)
set_option maxRecDepth 100000 in
theorem k_184_7 {x1 : Int32}
    (h1 : x1 < 0 → x1 < 0 → Q (some (.int (0))) (mkH hi hl sw kp))
    (h2 : x1 < 0 → ¬ (x1 < 0) → vp_in x1 160)
    (h3 : x1 < 0 → ¬ (x1 < 0) → (hi 286 x1.toNatClampNeg) = (20) → Q (some (.int (0))) (mkH hi hl sw kp))
    (h4 : x1 < 0 → ¬ (x1 < 0) → ¬ ((hi 286 x1.toNatClampNeg) = (20)) → vp_in x1 160)
    (h5 : x1 < 0 → ¬ (x1 < 0) → ¬ ((hi 286 x1.toNatClampNeg) = (20)) → cS d 182 [(.int (hi 286 x1.toNatClampNeg))] (mkH hi hl sw kp) (am_ret (cW cd_184 d Q) 65 [some (.ref 279), some (.int x1)] []))
    (h6 : ¬ (x1 < 0) → vp_in x1 160)
    (h7 : ¬ (x1 < 0) → (hi 286 x1.toNatClampNeg) = (20) → x1 < 0 → Q (some (.int (0))) (mkH hi hl sw kp))
    (h8 : ¬ (x1 < 0) → (hi 286 x1.toNatClampNeg) = (20) → ¬ (x1 < 0) → vp_in x1 160)
    (h9 : ¬ (x1 < 0) → (hi 286 x1.toNatClampNeg) = (20) → ¬ (x1 < 0) → (hi 286 x1.toNatClampNeg) = (20) → Q (some (.int (0))) (mkH hi hl sw kp))
    (h10 : ¬ (x1 < 0) → (hi 286 x1.toNatClampNeg) = (20) → ¬ (x1 < 0) → ¬ ((hi 286 x1.toNatClampNeg) = (20)) → vp_in x1 160)
    (h11 : ¬ (x1 < 0) → (hi 286 x1.toNatClampNeg) = (20) → ¬ (x1 < 0) → ¬ ((hi 286 x1.toNatClampNeg) = (20)) → cS d 182 [(.int (hi 286 x1.toNatClampNeg))] (mkH hi hl sw kp) (am_ret (cW cd_184 d Q) 65 [some (.ref 279), some (.int x1)] []))
    (h12 : ¬ (x1 < 0) → ¬ ((hi 286 x1.toNatClampNeg) = (20)) → vp_in x1 160)
    (h13 : ¬ (x1 < 0) → ¬ ((hi 286 x1.toNatClampNeg) = (20)) → cS d 182 [(.int (hi 286 x1.toNatClampNeg))] (mkH hi hl sw kp) (am_ret (cW cd_184 d Q) 31 [some (.ref 279), some (.int x1)] []))
    : cW cd_184 d Q 7 [some (.ref 279), some (.int x1)] [] (mkH hi hl sw kp) :=
  cW.run (am_in [7, 31, 65]) 21 (And.intro (fun c1 => (And.intro (fun c2 => (And.intro (Or.inl rfl) (cQ.of (h1 c1 c2)))) (fun c3 => (And.intro (h2 c1 c3) (And.intro (fun c4 => (And.intro (Or.inl rfl) (cQ.of (h3 c1 c3 c4)))) (fun c5 => (And.intro (h4 c1 c3 c5) (cC.of (h5 c1 c3 c5))))))))) (fun c6 => (And.intro (h6 c6) (And.intro (fun c7 => (And.intro (fun c8 => (And.intro (Or.inl rfl) (cQ.of (h7 c6 c7 c8)))) (fun c9 => (And.intro (h8 c6 c7 c9) (And.intro (fun c10 => (And.intro (Or.inl rfl) (cQ.of (h9 c6 c7 c9 c10)))) (fun c11 => (And.intro (h10 c6 c7 c9 c11) (cC.of (h11 c6 c7 c9 c11))))))))) (fun c12 => (And.intro (h12 c6 c12) (cC.of (h13 c6 c12))))))))
set_option maxRecDepth 100000 in
theorem k_184_31 {x1 : Int32} {s0 : Int32}
    (h1 : s0 ≤ (4) → x1 < 0 → Q (some (.int (0))) (mkH hi hl sw kp))
    (h2 : s0 ≤ (4) → ¬ (x1 < 0) → vp_in x1 160)
    (h3 : s0 ≤ (4) → ¬ (x1 < 0) → (hi 286 x1.toNatClampNeg) = (20) → Q (some (.int (0))) (mkH hi hl sw kp))
    (h4 : s0 ≤ (4) → ¬ (x1 < 0) → ¬ ((hi 286 x1.toNatClampNeg) = (20)) → vp_in x1 160)
    (h5 : s0 ≤ (4) → ¬ (x1 < 0) → ¬ ((hi 286 x1.toNatClampNeg) = (20)) → cS d 182 [(.int (hi 286 x1.toNatClampNeg))] (mkH hi hl sw kp) (am_ret (cW cd_184 d Q) 65 [some (.ref 279), some (.int x1)] []))
    (h6 : ¬ (s0 ≤ (4)) → cW cd_184 d Q 7 [some (.ref 279), some (.int (x1 + (-1)))] [] (mkH hi hl sw kp))
    : cW cd_184 d Q 31 [some (.ref 279), some (.int x1)] [(.int s0)] (mkH hi hl sw kp) :=
  cW.run (am_in [7, 31, 65]) 15 (And.intro (fun c1 => (And.intro (fun c2 => (And.intro (Or.inl rfl) (cQ.of (h1 c1 c2)))) (fun c3 => (And.intro (h2 c1 c3) (And.intro (fun c4 => (And.intro (Or.inl rfl) (cQ.of (h3 c1 c3 c4)))) (fun c5 => (And.intro (h4 c1 c3 c5) (cC.of (h5 c1 c3 c5))))))))) (fun c6 => (And.intro (Nat.le_of_ble_eq_true rfl) (h6 c6))))
set_option maxRecDepth 100000 in
theorem k_184_65 {x1 : Int32} {s0 : Int32}
    (h1 : s0 = (4) → Q (some (.int (1))) (mkH hi hl sw kp))
    (h2 : ¬ (s0 = (4)) → Q (some (.int (0))) (mkH hi hl sw kp))
    : cW cd_184 d Q 65 [some (.ref 279), some (.int x1)] [(.int s0)] (mkH hi hl sw kp) :=
  cW.run (am_in [7, 31, 65]) 5 (And.intro (fun c1 => (And.intro (Or.inr rfl) (cQ.of (h1 c1)))) (fun c2 => (And.intro (Or.inl rfl) (cQ.of (h2 c2)))))
-- 185: DogDecreesModel.mayNot()Z
set_option maxRecDepth 100000 in
theorem k_185_0
    (h1 : (hi 279 19) = 0 → Q (some (.int (1))) (mkH hi hl sw kp))
    (h2 : ¬ ((hi 279 19) = 0) → vp_in ((hi 279 19) - (1)) 160)
    (h3 : ¬ ((hi 279 19) = 0) → (hi 286 ((hi 279 19) - (1)).toNatClampNeg) = (20) → Q (some (.int (1))) (mkH hi hl sw kp))
    (h4 : ¬ ((hi 279 19) = 0) → ¬ ((hi 286 ((hi 279 19) - (1)).toNatClampNeg) = (20)) → vp_in ((hi 279 19) - (1)) 160)
    (h5 : ¬ ((hi 279 19) = 0) → ¬ ((hi 286 ((hi 279 19) - (1)).toNatClampNeg) = (20)) → cS d 182 [(.int (hi 286 ((hi 279 19) - (1)).toNatClampNeg))] (mkH hi hl sw kp) (am_ret (cW cd_185 d Q) 37 [some (.ref 279)] []))
    : cW cd_185 d Q 0 [some (.ref 279)] [] (mkH hi hl sw kp) :=
  cW.run (am_in [37]) 20 (And.intro (fun c1 => (And.intro (Or.inr rfl) (cQ.of (h1 c1)))) (fun c2 => (And.intro (h2 c2) (And.intro (fun c3 => (And.intro (Or.inr rfl) (cQ.of (h3 c2 c3)))) (fun c4 => (And.intro (h4 c2 c4) (cC.of (h5 c2 c4))))))))
theorem e_185
    (h1 : (hi 279 19) = 0 → Q (some (.int (1))) (mkH hi hl sw kp))
    (h2 : ¬ ((hi 279 19) = 0) → vp_in ((hi 279 19) - (1)) 160)
    (h3 : ¬ ((hi 279 19) = 0) → (hi 286 ((hi 279 19) - (1)).toNatClampNeg) = (20) → Q (some (.int (1))) (mkH hi hl sw kp))
    (h4 : ¬ ((hi 279 19) = 0) → ¬ ((hi 286 ((hi 279 19) - (1)).toNatClampNeg) = (20)) → vp_in ((hi 279 19) - (1)) 160)
    (h5 : ¬ ((hi 279 19) = 0) → ¬ ((hi 286 ((hi 279 19) - (1)).toNatClampNeg) = (20)) → cS d 182 [(.int (hi 286 ((hi 279 19) - (1)).toNatClampNeg))] (mkH hi hl sw kp) (am_ret (cW cd_185 d Q) 37 [some (.ref 279)] []))
    : cS (d + 1) 185 [(.ref 279)] (mkH hi hl sw kp) Q := cS.of rfl (k_185_0 h1 h2 h3 h4 h5)
set_option maxRecDepth 100000 in
theorem k_185_37 {s0 : Int32}
    (h1 : (4) ≤ s0 → Q (some (.int (0))) (mkH hi hl sw kp))
    (h2 : ¬ ((4) ≤ s0) → Q (some (.int (1))) (mkH hi hl sw kp))
    : cW cd_185 d Q 37 [some (.ref 279)] [(.int s0)] (mkH hi hl sw kp) :=
  cW.run (am_in [37]) 5 (And.intro (fun c1 => (And.intro (Or.inl rfl) (cQ.of (h1 c1)))) (fun c2 => (And.intro (Or.inr rfl) (cQ.of (h2 c2)))))
-- 186: DogDecreesModel.asked()I
set_option maxRecDepth 100000 in
theorem k_186_0
    (h1 : (hi 279 6) = (1) → (lg_cmp (hl 279 9) (495756602476)) = 0 → Q (some (.int (0))) (mkH hi hl sw kp))
    (h2 : (hi 279 6) = (1) → ¬ ((lg_cmp (hl 279 9) (495756602476)) = 0) → (lg_cmp (hl 279 9) (422776300915)) = 0 → Q (some (.int (1))) (mkH hi hl sw kp))
    (h3 : (hi 279 6) = (1) → ¬ ((lg_cmp (hl 279 9) (495756602476)) = 0) → ¬ ((lg_cmp (hl 279 9) (422776300915)) = 0) → (lg_cmp (hl 279 9) (1752135026)) = 0 → Q (some (.int (2))) (mkH hi hl sw kp))
    (h4 : (hi 279 6) = (1) → ¬ ((lg_cmp (hl 279 9) (495756602476)) = 0) → ¬ ((lg_cmp (hl 279 9) (422776300915)) = 0) → ¬ ((lg_cmp (hl 279 9) (1752135026)) = 0) → (lg_cmp (hl 279 9) (6383461)) = 0 → Q (some (.int (3))) (mkH hi hl sw kp))
    (h5 : (hi 279 6) = (1) → ¬ ((lg_cmp (hl 279 9) (495756602476)) = 0) → ¬ ((lg_cmp (hl 279 9) (422776300915)) = 0) → ¬ ((lg_cmp (hl 279 9) (1752135026)) = 0) → ¬ ((lg_cmp (hl 279 9) (6383461)) = 0) → (lg_cmp (hl 279 9) (1751478885)) = 0 → Q (some (.int (4))) (mkH hi hl sw kp))
    (h6 : (hi 279 6) = (1) → ¬ ((lg_cmp (hl 279 9) (495756602476)) = 0) → ¬ ((lg_cmp (hl 279 9) (422776300915)) = 0) → ¬ ((lg_cmp (hl 279 9) (1752135026)) = 0) → ¬ ((lg_cmp (hl 279 9) (6383461)) = 0) → ¬ ((lg_cmp (hl 279 9) (1751478885)) = 0) → Q (some (.int (-1))) (mkH hi hl sw kp))
    (h7 : ¬ ((hi 279 6) = (1)) → Q (some (.int (-1))) (mkH hi hl sw kp))
    : cW cd_186 d Q 0 [some (.ref 279)] [] (mkH hi hl sw kp) :=
  cW.run (am_in []) 32 (And.intro (fun c1 => (And.intro (fun c2 => (cQ.of (h1 c1 c2))) (fun c3 => (And.intro (fun c4 => (cQ.of (h2 c1 c3 c4))) (fun c5 => (And.intro (fun c6 => (cQ.of (h3 c1 c3 c5 c6))) (fun c7 => (And.intro (fun c8 => (cQ.of (h4 c1 c3 c5 c7 c8))) (fun c9 => (And.intro (fun c10 => (cQ.of (h5 c1 c3 c5 c7 c9 c10))) (fun c11 => (cQ.of (h6 c1 c3 c5 c7 c9 c11))))))))))))) (fun c12 => (cQ.of (h7 c12))))
theorem e_186
    (h1 : (hi 279 6) = (1) → (lg_cmp (hl 279 9) (495756602476)) = 0 → Q (some (.int (0))) (mkH hi hl sw kp))
    (h2 : (hi 279 6) = (1) → ¬ ((lg_cmp (hl 279 9) (495756602476)) = 0) → (lg_cmp (hl 279 9) (422776300915)) = 0 → Q (some (.int (1))) (mkH hi hl sw kp))
    (h3 : (hi 279 6) = (1) → ¬ ((lg_cmp (hl 279 9) (495756602476)) = 0) → ¬ ((lg_cmp (hl 279 9) (422776300915)) = 0) → (lg_cmp (hl 279 9) (1752135026)) = 0 → Q (some (.int (2))) (mkH hi hl sw kp))
    (h4 : (hi 279 6) = (1) → ¬ ((lg_cmp (hl 279 9) (495756602476)) = 0) → ¬ ((lg_cmp (hl 279 9) (422776300915)) = 0) → ¬ ((lg_cmp (hl 279 9) (1752135026)) = 0) → (lg_cmp (hl 279 9) (6383461)) = 0 → Q (some (.int (3))) (mkH hi hl sw kp))
    (h5 : (hi 279 6) = (1) → ¬ ((lg_cmp (hl 279 9) (495756602476)) = 0) → ¬ ((lg_cmp (hl 279 9) (422776300915)) = 0) → ¬ ((lg_cmp (hl 279 9) (1752135026)) = 0) → ¬ ((lg_cmp (hl 279 9) (6383461)) = 0) → (lg_cmp (hl 279 9) (1751478885)) = 0 → Q (some (.int (4))) (mkH hi hl sw kp))
    (h6 : (hi 279 6) = (1) → ¬ ((lg_cmp (hl 279 9) (495756602476)) = 0) → ¬ ((lg_cmp (hl 279 9) (422776300915)) = 0) → ¬ ((lg_cmp (hl 279 9) (1752135026)) = 0) → ¬ ((lg_cmp (hl 279 9) (6383461)) = 0) → ¬ ((lg_cmp (hl 279 9) (1751478885)) = 0) → Q (some (.int (-1))) (mkH hi hl sw kp))
    (h7 : ¬ ((hi 279 6) = (1)) → Q (some (.int (-1))) (mkH hi hl sw kp))
    : cS (d + 1) 186 [(.ref 279)] (mkH hi hl sw kp) Q := cS.of rfl (k_186_0 h1 h2 h3 h4 h5 h6 h7)
-- 187: DogDecreesModel.isFull()Z
set_option maxRecDepth 100000 in
theorem k_187_0
    (h1 : (hi 279 20) = (60) → Q (some (.int (1))) (mkH hi hl sw kp))
    (h2 : ¬ ((hi 279 20) = (60)) → (hi 279 22) = (30) → Q (some (.int (1))) (mkH hi hl sw kp))
    (h3 : ¬ ((hi 279 20) = (60)) → ¬ ((hi 279 22) = (30)) → Q (some (.int (0))) (mkH hi hl sw kp))
    : cW cd_187 d Q 0 [some (.ref 279)] [] (mkH hi hl sw kp) :=
  cW.run (am_in []) 11 (And.intro (fun c1 => (And.intro (Or.inr rfl) (cQ.of (h1 c1)))) (fun c2 => (And.intro (fun c3 => (And.intro (Or.inr rfl) (cQ.of (h2 c2 c3)))) (fun c4 => (And.intro (Or.inl rfl) (cQ.of (h3 c2 c4)))))))
theorem e_187
    (h1 : (hi 279 20) = (60) → Q (some (.int (1))) (mkH hi hl sw kp))
    (h2 : ¬ ((hi 279 20) = (60)) → (hi 279 22) = (30) → Q (some (.int (1))) (mkH hi hl sw kp))
    (h3 : ¬ ((hi 279 20) = (60)) → ¬ ((hi 279 22) = (30)) → Q (some (.int (0))) (mkH hi hl sw kp))
    : cS (d + 1) 187 [(.ref 279)] (mkH hi hl sw kp) Q := cS.of rfl (k_187_0 h1 h2 h3)
-- 188: DogDecreesModel.countUnit()V
set_option maxRecDepth 100000 in
theorem k_188_0
    (h1 : Q none (mkH (u2 (u2 hi 279 20 ((hi 279 20) + (1))) 279 22 ((hi 279 22) + (1))) hl sw kp))
    : cW cd_188 d Q 0 [some (.ref 279)] [] (mkH hi hl sw kp) :=
  cW.run (am_in []) 13 (And.intro rfl (And.intro rfl (cQ.of (h1))))
theorem e_188
    (h1 : Q none (mkH (u2 (u2 hi 279 20 ((hi 279 20) + (1))) 279 22 ((hi 279 22) + (1))) hl sw kp))
    : cS (d + 1) 188 [(.ref 279)] (mkH hi hl sw kp) Q := cS.of rfl (k_188_0 h1)
-- 189: DogDecreesModel.openUp(I)V
set_option maxRecDepth 100000 in
theorem k_189_0 {x1 : Int32}
    (h1 : vp_in (hi 279 19) 160)
    (h2 : (hi 279 2) = 0 → cS d 170 [(.ref 279)] (mkH (u2 (u2 (u2 hi 286 (hi 279 19).toNatClampNeg x1) 279 19 ((hi 279 19) + (1))) 279 23 ((hi 279 23) + (1))) hl sw kp) (am_ret (cW cd_189 d Q) 41 [some (.ref 279), some (.int x1)] []))
    (h3 : ¬ ((hi 279 2) = 0) → cW cd_189 d Q 41 [some (.ref 279), some (.int x1)] [] (mkH (u2 (u2 (u2 hi 286 (hi 279 19).toNatClampNeg x1) 279 19 ((hi 279 19) + (1))) 279 23 ((hi 279 23) + (1))) hl sw kp))
    : cW cd_189 d Q 0 [some (.ref 279), some (.int x1)] [] (mkH hi hl sw kp) :=
  cW.run (am_in [41]) 23 (And.intro (h1) (And.intro rfl (And.intro rfl (And.intro (fun c1 => (cC.of (h2 c1))) (fun c2 => (h3 c2))))))
theorem e_189 {x1 : Int32}
    (h1 : vp_in (hi 279 19) 160)
    (h2 : (hi 279 2) = 0 → cS d 170 [(.ref 279)] (mkH (u2 (u2 (u2 hi 286 (hi 279 19).toNatClampNeg x1) 279 19 ((hi 279 19) + (1))) 279 23 ((hi 279 23) + (1))) hl sw kp) (am_ret (cW cd_189 d Q) 41 [some (.ref 279), some (.int x1)] []))
    (h3 : ¬ ((hi 279 2) = 0) → cW cd_189 d Q 41 [some (.ref 279), some (.int x1)] [] (mkH (u2 (u2 (u2 hi 286 (hi 279 19).toNatClampNeg x1) 279 19 ((hi 279 19) + (1))) 279 23 ((hi 279 23) + (1))) hl sw kp))
    : cS (d + 1) 189 [(.ref 279), (.int x1)] (mkH hi hl sw kp) Q := cS.of rfl (k_189_0 h1 h2 h3)
set_option maxRecDepth 100000 in
theorem k_189_41 {x1 : Int32}
    (h1 : Q none (mkH hi hl sw kp))
    : cW cd_189 d Q 41 [some (.ref 279), some (.int x1)] [] (mkH hi hl sw kp) :=
  cW.run (am_in [41]) 1 (cQ.of (h1))
-- 190: DogDecreesModel.unit()V
set_option maxRecDepth 100000 in
theorem k_190_0
    (h1 : cW cd_190 d Q 2 [some (.ref 279), some (.int (1)), none] [] (mkH hi hl sw kp))
    : cW cd_190 d Q 0 [some (.ref 279), none, none] [] (mkH hi hl sw kp) :=
  cW.run (am_in [2, 20, 27, 44, 50, 66, 83, 87, 93, 113, 130, 138, 150, 175, 179]) 2 (And.intro (Nat.le_of_ble_eq_true rfl) (h1))
theorem e_190
    (h1 : cW cd_190 d Q 2 [some (.ref 279), some (.int (1)), none] [] (mkH hi hl sw kp))
    : cS (d + 1) 190 [(.ref 279)] (mkH hi hl sw kp) Q := cS.of rfl (k_190_0 h1)
set_option maxRecDepth 100000 in
theorem k_190_2 {x1 : Int32}
    (h1 : x1 = 0 → (hi 279 2) ≤ 0 → cS d 186 [(.ref 279)] (mkH hi hl sw kp) (am_ret (cW cd_190 d Q) 113 [some (.ref 279), some (.int x1), none] []))
    (h2 : x1 = 0 → ¬ ((hi 279 2) ≤ 0) → Q none (mkH hi hl sw kp))
    (h3 : ¬ (x1 = 0) → (hi 279 2) = 0 → cS d 172 [(.ref 279), (.long (7237492))] (mkH hi hl sw kp) (am_ret (cW cd_190 d Q) 20 [some (.ref 279), some (.int x1), none] []))
    (h4 : ¬ (x1 = 0) → ¬ ((hi 279 2) = 0) → (hi 279 2) ≤ 0 → cS d 186 [(.ref 279)] (mkH hi hl sw kp) (am_ret (cW cd_190 d Q) 113 [some (.ref 279), some (.int x1), none] []))
    (h5 : ¬ (x1 = 0) → ¬ ((hi 279 2) = 0) → ¬ ((hi 279 2) ≤ 0) → Q none (mkH hi hl sw kp))
    : cW cd_190 d Q 2 [some (.ref 279), some (.int x1), none] [] (mkH hi hl sw kp) :=
  cW.run (am_in [2, 20, 27, 44, 50, 66, 83, 87, 93, 113, 130, 138, 150, 175, 179]) 10 (And.intro (fun c1 => (And.intro (fun c2 => (cC.of (h1 c1 c2))) (fun c3 => (cQ.of (h2 c1 c3))))) (fun c4 => (And.intro (fun c5 => (cC.of (h3 c4 c5))) (fun c6 => (And.intro (fun c7 => (cC.of (h4 c4 c6 c7))) (fun c8 => (cQ.of (h5 c4 c6 c8))))))))
set_option maxRecDepth 100000 in
theorem k_190_20 {x1 : Int32} {s0 : Int32}
    (h1 : s0 = 0 → (hi 279 6) = (40) → cS d 187 [(.ref 279)] (mkH hi hl sw kp) (am_ret (cW cd_190 d Q) 66 [some (.ref 279), some (.int x1), none] []))
    (h2 : s0 = 0 → ¬ ((hi 279 6) = (40)) → cW cd_190 d Q 2 [some (.ref 279), some (.int (0)), none] [] (mkH hi hl sw kp))
    (h3 : ¬ (s0 = 0) → cS d 185 [(.ref 279)] (mkH hi hl sw kp) (am_ret (cW cd_190 d Q) 27 [some (.ref 279), some (.int x1), none] []))
    : cW cd_190 d Q 20 [some (.ref 279), some (.int x1), none] [(.int s0)] (mkH hi hl sw kp) :=
  cW.run (am_in [2, 20, 27, 44, 50, 66, 83, 87, 93, 113, 130, 138, 150, 175, 179]) 8 (And.intro (fun c1 => (And.intro (fun c2 => (cC.of (h1 c1 c2))) (fun c3 => (And.intro (Nat.le_of_ble_eq_true rfl) (h2 c1 c3))))) (fun c4 => (cC.of (h3 c4))))
set_option maxRecDepth 100000 in
theorem k_190_27 {x1 : Int32} {s0 : Int32}
    (h1 : s0 = 0 → (hi 279 6) = (40) → cS d 187 [(.ref 279)] (mkH hi hl sw kp) (am_ret (cW cd_190 d Q) 66 [some (.ref 279), some (.int x1), none] []))
    (h2 : s0 = 0 → ¬ ((hi 279 6) = (40)) → cW cd_190 d Q 2 [some (.ref 279), some (.int (0)), none] [] (mkH hi hl sw kp))
    (h3 : ¬ (s0 = 0) → (hi 279 23) ≤ (6) → cW cd_190 d Q 44 [some (.ref 279), some (.int x1), none] [] (mkH hi hl sw kp))
    (h4 : ¬ (s0 = 0) → ¬ ((hi 279 23) ≤ (6)) → cS d 171 [(.ref 279), (.int (2))] (mkH hi hl sw kp) (am_ret (cW cd_190 d Q) 44 [some (.ref 279), some (.int x1), none] []))
    : cW cd_190 d Q 27 [some (.ref 279), some (.int x1), none] [(.int s0)] (mkH hi hl sw kp) :=
  cW.run (am_in [2, 20, 27, 44, 50, 66, 83, 87, 93, 113, 130, 138, 150, 175, 179]) 8 (And.intro (fun c1 => (And.intro (fun c2 => (cC.of (h1 c1 c2))) (fun c3 => (And.intro (Nat.le_of_ble_eq_true rfl) (h2 c1 c3))))) (fun c4 => (And.intro (fun c5 => (h3 c4 c5)) (fun c6 => (cC.of (h4 c4 c6))))))
set_option maxRecDepth 100000 in
theorem k_190_44 {x1 : Int32}
    (h1 : cS d 189 [(.ref 279), (.int (21))] (mkH hi hl sw kp) (am_ret (cW cd_190 d Q) 50 [some (.ref 279), some (.int x1), none] []))
    : cW cd_190 d Q 44 [some (.ref 279), some (.int x1), none] [] (mkH hi hl sw kp) :=
  cW.run (am_in [2, 20, 27, 44, 50, 66, 83, 87, 93, 113, 130, 138, 150, 175, 179]) 3 (cC.of (h1))
set_option maxRecDepth 100000 in
theorem k_190_50 {x1 : Int32}
    (h1 : cW cd_190 d Q 2 [some (.ref 279), some (.int x1), none] [] (mkH hi hl sw kp))
    : cW cd_190 d Q 50 [some (.ref 279), some (.int x1), none] [] (mkH hi hl sw kp) :=
  cW.run (am_in [2, 20, 27, 44, 50, 66, 83, 87, 93, 113, 130, 138, 150, 175, 179]) 1 (h1)
set_option maxRecDepth 100000 in
theorem k_190_66 {x1 : Int32} {s0 : Int32}
    (h1 : s0 = 0 → (hi 279 23) ≤ (6) → cW cd_190 d Q 83 [some (.ref 279), some (.int x1), none] [] (mkH hi hl sw kp))
    (h2 : s0 = 0 → ¬ ((hi 279 23) ≤ (6)) → cS d 171 [(.ref 279), (.int (2))] (mkH hi hl sw kp) (am_ret (cW cd_190 d Q) 83 [some (.ref 279), some (.int x1), none] []))
    (h3 : ¬ (s0 = 0) → cS d 171 [(.ref 279), (.int (2))] (mkH hi hl sw kp) (am_ret (cW cd_190 d Q) 83 [some (.ref 279), some (.int x1), none] []))
    : cW cd_190 d Q 66 [some (.ref 279), some (.int x1), none] [(.int s0)] (mkH hi hl sw kp) :=
  cW.run (am_in [2, 20, 27, 44, 50, 66, 83, 87, 93, 113, 130, 138, 150, 175, 179]) 8 (And.intro (fun c1 => (And.intro (fun c2 => (h1 c1 c2)) (fun c3 => (cC.of (h2 c1 c3))))) (fun c4 => (cC.of (h3 c4))))
set_option maxRecDepth 100000 in
theorem k_190_83 {x1 : Int32}
    (h1 : cS d 188 [(.ref 279)] (mkH hi hl sw kp) (am_ret (cW cd_190 d Q) 87 [some (.ref 279), some (.int x1), none] []))
    : cW cd_190 d Q 83 [some (.ref 279), some (.int x1), none] [] (mkH hi hl sw kp) :=
  cW.run (am_in [2, 20, 27, 44, 50, 66, 83, 87, 93, 113, 130, 138, 150, 175, 179]) 2 (cC.of (h1))
set_option maxRecDepth 100000 in
theorem k_190_87 {x1 : Int32}
    (h1 : cS d 189 [(.ref 279), (.int (20))] (mkH hi hl sw kp) (am_ret (cW cd_190 d Q) 93 [some (.ref 279), some (.int x1), none] []))
    : cW cd_190 d Q 87 [some (.ref 279), some (.int x1), none] [] (mkH hi hl sw kp) :=
  cW.run (am_in [2, 20, 27, 44, 50, 66, 83, 87, 93, 113, 130, 138, 150, 175, 179]) 3 (cC.of (h1))
set_option maxRecDepth 100000 in
theorem k_190_93 {x1 : Int32}
    (h1 : cW cd_190 d Q 2 [some (.ref 279), some (.int x1), none] [] (mkH hi hl sw kp))
    : cW cd_190 d Q 93 [some (.ref 279), some (.int x1), none] [] (mkH hi hl sw kp) :=
  cW.run (am_in [2, 20, 27, 44, 50, 66, 83, 87, 93, 113, 130, 138, 150, 175, 179]) 1 (h1)
set_option maxRecDepth 100000 in
theorem k_190_113 {x1 : Int32} {s0 : Int32}
    (h1 : (hi 279 6) = (2) → cS d 187 [(.ref 279)] (mkH hi hl sw kp) (am_ret (cW cd_190 d Q) 130 [some (.ref 279), some (.int x1), some (.int s0)] []))
    (h2 : ¬ ((hi 279 6) = (2)) → s0 < 0 → cS d 171 [(.ref 279), (.int (2))] (mkH hi hl sw kp) (am_ret (cW cd_190 d Q) 138 [some (.ref 279), some (.int x1), some (.int s0)] []))
    (h3 : ¬ ((hi 279 6) = (2)) → ¬ (s0 < 0) → cS d 187 [(.ref 279)] (mkH hi hl sw kp) (am_ret (cW cd_190 d Q) 130 [some (.ref 279), some (.int x1), some (.int s0)] []))
    : cW cd_190 d Q 113 [some (.ref 279), some (.int x1), none] [(.int s0)] (mkH hi hl sw kp) :=
  cW.run (am_in [2, 20, 27, 44, 50, 66, 83, 87, 93, 113, 130, 138, 150, 175, 179]) 10 (And.intro (Nat.le_of_ble_eq_true rfl) (And.intro (fun c1 => (cC.of (h1 c1))) (fun c2 => (And.intro (fun c3 => (cC.of (h2 c2 c3))) (fun c4 => (cC.of (h3 c2 c4)))))))
set_option maxRecDepth 100000 in
theorem k_190_130 {x1 : Int32} {x2 : Int32} {s0 : Int32}
    (h1 : s0 = 0 → cW cd_190 d Q 138 [some (.ref 279), some (.int x1), some (.int x2)] [] (mkH hi hl sw kp))
    (h2 : ¬ (s0 = 0) → cS d 171 [(.ref 279), (.int (2))] (mkH hi hl sw kp) (am_ret (cW cd_190 d Q) 138 [some (.ref 279), some (.int x1), some (.int x2)] []))
    : cW cd_190 d Q 130 [some (.ref 279), some (.int x1), some (.int x2)] [(.int s0)] (mkH hi hl sw kp) :=
  cW.run (am_in [2, 20, 27, 44, 50, 66, 83, 87, 93, 113, 130, 138, 150, 175, 179]) 4 (And.intro (fun c1 => (h1 c1)) (fun c2 => (cC.of (h2 c2))))
set_option maxRecDepth 100000 in
theorem k_190_138 {x1 : Int32} {x2 : Int32}
    (h1 : (hi 279 2) ≤ 0 → cS d 188 [(.ref 279)] (mkH hi hl sw kp) (am_ret (cW cd_190 d Q) 150 [some (.ref 279), some (.int x1), some (.int x2)] []))
    (h2 : ¬ ((hi 279 2) ≤ 0) → Q none (mkH hi hl sw kp))
    : cW cd_190 d Q 138 [some (.ref 279), some (.int x1), some (.int x2)] [] (mkH hi hl sw kp) :=
  cW.run (am_in [2, 20, 27, 44, 50, 66, 83, 87, 93, 113, 130, 138, 150, 175, 179]) 5 (And.intro (fun c1 => (cC.of (h1 c1))) (fun c2 => (cQ.of (h2 c2))))
set_option maxRecDepth 100000 in
theorem k_190_150 {x1 : Int32} {x2 : Int32}
    (h1 : 0 ≤ x2 → 0 ≤ x2 → cS d 181 [(.ref 279), (.int (1)), (.int x2)] (mkH hi hl sw kp) (am_ret (cW cd_190 d Q) 175 [some (.ref 279), some (.int x1), some (.int x2)] []))
    (h2 : 0 ≤ x2 → ¬ (0 ≤ x2) → cS d 181 [(.ref 279), (.int (1)), (.int (hi 279 8))] (mkH hi hl sw kp) (am_ret (cW cd_190 d Q) 175 [some (.ref 279), some (.int x1), some (.int x2)] []))
    (h3 : ¬ (0 ≤ x2) → 0 ≤ x2 → cS d 181 [(.ref 279), (.int (0)), (.int x2)] (mkH hi hl sw kp) (am_ret (cW cd_190 d Q) 175 [some (.ref 279), some (.int x1), some (.int x2)] []))
    (h4 : ¬ (0 ≤ x2) → ¬ (0 ≤ x2) → cS d 181 [(.ref 279), (.int (0)), (.int (hi 279 8))] (mkH hi hl sw kp) (am_ret (cW cd_190 d Q) 175 [some (.ref 279), some (.int x1), some (.int x2)] []))
    : cW cd_190 d Q 150 [some (.ref 279), some (.int x1), some (.int x2)] [] (mkH hi hl sw kp) :=
  cW.run (am_in [2, 20, 27, 44, 50, 66, 83, 87, 93, 113, 130, 138, 150, 175, 179]) 11 (And.intro (fun c1 => (And.intro (fun c2 => (cC.of (h1 c1 c2))) (fun c3 => (cC.of (h2 c1 c3))))) (fun c4 => (And.intro (fun c5 => (cC.of (h3 c4 c5))) (fun c6 => (cC.of (h4 c4 c6))))))
set_option maxRecDepth 100000 in
theorem k_190_175 {x1 : Int32} {x2 : Int32}
    (h1 : cS d 170 [(.ref 279)] (mkH hi hl sw kp) (am_ret (cW cd_190 d Q) 179 [some (.ref 279), some (.int x1), some (.int x2)] []))
    : cW cd_190 d Q 175 [some (.ref 279), some (.int x1), some (.int x2)] [] (mkH hi hl sw kp) :=
  cW.run (am_in [2, 20, 27, 44, 50, 66, 83, 87, 93, 113, 130, 138, 150, 175, 179]) 2 (cC.of (h1))
set_option maxRecDepth 100000 in
theorem k_190_179 {x1 : Int32} {x2 : Int32}
    (h1 : Q none (mkH hi hl sw kp))
    : cW cd_190 d Q 179 [some (.ref 279), some (.int x1), some (.int x2)] [] (mkH hi hl sw kp) :=
  cW.run (am_in [2, 20, 27, 44, 50, 66, 83, 87, 93, 113, 130, 138, 150, 175, 179]) 1 (cQ.of (h1))
-- 191: DogDecreesModel.sign()I
set_option maxRecDepth 100000 in
theorem k_191_0
    (h1 : cS d 172 [(.ref 279), (.long (6385252))] (mkH hi hl sw kp) (am_ret (cW cd_191 d Q) 7 [some (.ref 279)] []))
    : cW cd_191 d Q 0 [some (.ref 279)] [] (mkH hi hl sw kp) :=
  cW.run (am_in [7, 20]) 3 (cC.of (h1))
theorem e_191
    (h1 : cS d 172 [(.ref 279), (.long (6385252))] (mkH hi hl sw kp) (am_ret (cW cd_191 d Q) 7 [some (.ref 279)] []))
    : cS (d + 1) 191 [(.ref 279)] (mkH hi hl sw kp) Q := cS.of rfl (k_191_0 h1)
set_option maxRecDepth 100000 in
theorem k_191_7 {s0 : Int32}
    (h1 : s0 = 0 → cS d 172 [(.ref 279), (.long (28530))] (mkH hi hl sw kp) (am_ret (cW cd_191 d Q) 20 [some (.ref 279)] []))
    (h2 : ¬ (s0 = 0) → Q (some (.int (38))) (mkH hi hl sw kp))
    : cW cd_191 d Q 7 [some (.ref 279)] [(.int s0)] (mkH hi hl sw kp) :=
  cW.run (am_in [7, 20]) 4 (And.intro (fun c1 => (cC.of (h1 c1))) (fun c2 => (cQ.of (h2 c2))))
set_option maxRecDepth 100000 in
theorem k_191_20 {s0 : Int32}
    (h1 : s0 = 0 → (hi 279 6) = (60) → Q (some (.int (hi 279 6))) (mkH hi hl sw kp))
    (h2 : s0 = 0 → ¬ ((hi 279 6) = (60)) → (hi 279 6) = (62) → Q (some (.int (hi 279 6))) (mkH hi hl sw kp))
    (h3 : s0 = 0 → ¬ ((hi 279 6) = (60)) → ¬ ((hi 279 6) = (62)) → (hi 279 6) = (61) → Q (some (.int (hi 279 6))) (mkH hi hl sw kp))
    (h4 : s0 = 0 → ¬ ((hi 279 6) = (60)) → ¬ ((hi 279 6) = (62)) → ¬ ((hi 279 6) = (61)) → (hi 279 6) = (43) → Q (some (.int (hi 279 6))) (mkH hi hl sw kp))
    (h5 : s0 = 0 → ¬ ((hi 279 6) = (60)) → ¬ ((hi 279 6) = (62)) → ¬ ((hi 279 6) = (61)) → ¬ ((hi 279 6) = (43)) → (hi 279 6) = (45) → Q (some (.int (hi 279 6))) (mkH hi hl sw kp))
    (h6 : s0 = 0 → ¬ ((hi 279 6) = (60)) → ¬ ((hi 279 6) = (62)) → ¬ ((hi 279 6) = (61)) → ¬ ((hi 279 6) = (43)) → ¬ ((hi 279 6) = (45)) → (hi 279 6) = (42) → Q (some (.int (hi 279 6))) (mkH hi hl sw kp))
    (h7 : s0 = 0 → ¬ ((hi 279 6) = (60)) → ¬ ((hi 279 6) = (62)) → ¬ ((hi 279 6) = (61)) → ¬ ((hi 279 6) = (43)) → ¬ ((hi 279 6) = (45)) → ¬ ((hi 279 6) = (42)) → (hi 279 6) = (47) → Q (some (.int (hi 279 6))) (mkH hi hl sw kp))
    (h8 : s0 = 0 → ¬ ((hi 279 6) = (60)) → ¬ ((hi 279 6) = (62)) → ¬ ((hi 279 6) = (61)) → ¬ ((hi 279 6) = (43)) → ¬ ((hi 279 6) = (45)) → ¬ ((hi 279 6) = (42)) → ¬ ((hi 279 6) = (47)) → (hi 279 6) = (37) → Q (some (.int (hi 279 6))) (mkH hi hl sw kp))
    (h9 : s0 = 0 → ¬ ((hi 279 6) = (60)) → ¬ ((hi 279 6) = (62)) → ¬ ((hi 279 6) = (61)) → ¬ ((hi 279 6) = (43)) → ¬ ((hi 279 6) = (45)) → ¬ ((hi 279 6) = (42)) → ¬ ((hi 279 6) = (47)) → ¬ ((hi 279 6) = (37)) → Q (some (.int (0))) (mkH hi hl sw kp))
    (h10 : ¬ (s0 = 0) → Q (some (.int (124))) (mkH hi hl sw kp))
    : cW cd_191 d Q 20 [some (.ref 279)] [(.int s0)] (mkH hi hl sw kp) :=
  cW.run (am_in [7, 20]) 37 (And.intro (fun c1 => (And.intro (fun c2 => (cQ.of (h1 c1 c2))) (fun c3 => (And.intro (fun c4 => (cQ.of (h2 c1 c3 c4))) (fun c5 => (And.intro (fun c6 => (cQ.of (h3 c1 c3 c5 c6))) (fun c7 => (And.intro (fun c8 => (cQ.of (h4 c1 c3 c5 c7 c8))) (fun c9 => (And.intro (fun c10 => (cQ.of (h5 c1 c3 c5 c7 c9 c10))) (fun c11 => (And.intro (fun c12 => (cQ.of (h6 c1 c3 c5 c7 c9 c11 c12))) (fun c13 => (And.intro (fun c14 => (cQ.of (h7 c1 c3 c5 c7 c9 c11 c13 c14))) (fun c15 => (And.intro (fun c16 => (cQ.of (h8 c1 c3 c5 c7 c9 c11 c13 c15 c16))) (fun c17 => (cQ.of (h9 c1 c3 c5 c7 c9 c11 c13 c15 c17))))))))))))))))))) (fun c18 => (cQ.of (h10 c18))))
-- 192: DogDecreesModel.hasBracket()Z
set_option maxRecDepth 100000 in
theorem k_192_0
    (h1 : cW cd_192 d Q 4 [some (.ref 279), some (.int (0)), some (.int (0))] [] (mkH hi hl sw kp))
    : cW cd_192 d Q 0 [some (.ref 279), none, none] [] (mkH hi hl sw kp) :=
  cW.run (am_in [4]) 4 (And.intro (Nat.le_of_ble_eq_true rfl) (And.intro (Nat.le_of_ble_eq_true rfl) (h1)))
theorem e_192
    (h1 : cW cd_192 d Q 4 [some (.ref 279), some (.int (0)), some (.int (0))] [] (mkH hi hl sw kp))
    : cS (d + 1) 192 [(.ref 279)] (mkH hi hl sw kp) Q := cS.of rfl (k_192_0 h1)
set_option maxRecDepth 100000 in
theorem k_192_4 {x1 : Int32} {x2 : Int32}
    (h1 : (hi 279 19) ≤ x2 → x1 = 0 ∨ x1 = 1)
    (h2 : (hi 279 19) ≤ x2 → Q (some (.int x1)) (mkH hi hl sw kp))
    (h3 : ¬ ((hi 279 19) ≤ x2) → x1 = 0 → vp_in x2 160)
    (h4 : ¬ ((hi 279 19) ≤ x2) → x1 = 0 → (hi 286 x2.toNatClampNeg) = (20) → cW cd_192 d Q 4 [some (.ref 279), some (.int (1)), some (.int (x2 + (1)))] [] (mkH hi hl sw kp))
    (h5 : ¬ ((hi 279 19) ≤ x2) → x1 = 0 → ¬ ((hi 286 x2.toNatClampNeg) = (20)) → cW cd_192 d Q 4 [some (.ref 279), some (.int (0)), some (.int (x2 + (1)))] [] (mkH hi hl sw kp))
    (h6 : ¬ ((hi 279 19) ≤ x2) → ¬ (x1 = 0) → cW cd_192 d Q 4 [some (.ref 279), some (.int (1)), some (.int (x2 + (1)))] [] (mkH hi hl sw kp))
    : cW cd_192 d Q 4 [some (.ref 279), some (.int x1), some (.int x2)] [] (mkH hi hl sw kp) :=
  cW.run (am_in [4]) 17 (And.intro (fun c1 => (And.intro (h1 c1) (cQ.of (h2 c1)))) (fun c2 => (And.intro (fun c3 => (And.intro (h3 c2 c3) (And.intro (fun c4 => (And.intro (Nat.le_of_ble_eq_true rfl) (And.intro (Nat.le_of_ble_eq_true rfl) (h4 c2 c3 c4)))) (fun c5 => (And.intro (Nat.le_of_ble_eq_true rfl) (And.intro (Nat.le_of_ble_eq_true rfl) (h5 c2 c3 c5))))))) (fun c6 => (And.intro (Nat.le_of_ble_eq_true rfl) (And.intro (Nat.le_of_ble_eq_true rfl) (h6 c2 c6)))))))
-- 193: DogDecreesModel.readPull()V
set_option maxRecDepth 100000 in
theorem k_193_0
    (h1 : cS d 170 [(.ref 279)] (mkH hi hl sw kp) (am_ret (cW cd_193 d Q) 4 [some (.ref 279), none, none] []))
    : cW cd_193 d Q 0 [some (.ref 279), none, none] [] (mkH hi hl sw kp) :=
  cW.run (am_in [4, 28, 30, 45, 59, 67, 91, 102, 110, 118, 121, 145, 149, 168, 176, 188]) 2 (cC.of (h1))
theorem e_193
    (h1 : cS d 170 [(.ref 279)] (mkH hi hl sw kp) (am_ret (cW cd_193 d Q) 4 [some (.ref 279), none, none] []))
    : cS (d + 1) 193 [(.ref 279)] (mkH hi hl sw kp) Q := cS.of rfl (k_193_0 h1)
set_option maxRecDepth 100000 in
theorem k_193_4
    (h1 : cS d 190 [(.ref 279)] (mkH (u2 (u2 (u2 (u2 hi 279 17 (0)) 279 19 (0)) 279 23 (0)) 279 22 (0)) hl sw kp) (am_ret (cW cd_193 d Q) 28 [some (.ref 279), none, none] []))
    : cW cd_193 d Q 4 [some (.ref 279), none, none] [] (mkH hi hl sw kp) :=
  cW.run (am_in [4, 28, 30, 45, 59, 67, 91, 102, 110, 118, 121, 145, 149, 168, 176, 188]) 14 (cC.of (h1))
set_option maxRecDepth 100000 in
theorem k_193_28
    (h1 : cW cd_193 d Q 30 [some (.ref 279), some (.int (1)), none] [] (mkH hi hl sw kp))
    : cW cd_193 d Q 28 [some (.ref 279), none, none] [] (mkH hi hl sw kp) :=
  cW.run (am_in [4, 28, 30, 45, 59, 67, 91, 102, 110, 118, 121, 145, 149, 168, 176, 188]) 2 (And.intro (Nat.le_of_ble_eq_true rfl) (h1))
set_option maxRecDepth 100000 in
theorem k_193_30 {x1 : Int32} {o2 : Option Value}
    (h1 : x1 = 0 → (hi 279 2) = 0 → cS d 192 [(.ref 279)] (mkH hi hl sw kp) (am_ret (cW cd_193 d Q) 168 [some (.ref 279), some (.int x1), o2] []))
    (h2 : x1 = 0 → ¬ ((hi 279 2) = 0) → cW cd_193 d Q 176 [some (.ref 279), some (.int x1), o2] [] (mkH hi hl sw kp))
    (h3 : ¬ (x1 = 0) → (hi 279 2) = 0 → cS d 191 [(.ref 279)] (mkH hi hl sw kp) (am_ret (cW cd_193 d Q) 45 [some (.ref 279), some (.int x1), o2] []))
    (h4 : ¬ (x1 = 0) → ¬ ((hi 279 2) = 0) → (hi 279 2) = 0 → cS d 192 [(.ref 279)] (mkH hi hl sw kp) (am_ret (cW cd_193 d Q) 168 [some (.ref 279), some (.int x1), o2] []))
    (h5 : ¬ (x1 = 0) → ¬ ((hi 279 2) = 0) → ¬ ((hi 279 2) = 0) → cW cd_193 d Q 176 [some (.ref 279), some (.int x1), o2] [] (mkH hi hl sw kp))
    : cW cd_193 d Q 30 [some (.ref 279), some (.int x1), o2] [] (mkH hi hl sw kp) :=
  cW.run (am_in [4, 28, 30, 45, 59, 67, 91, 102, 110, 118, 121, 145, 149, 168, 176, 188]) 10 (And.intro (fun c1 => (And.intro (fun c2 => (cC.of (h1 c1 c2))) (fun c3 => (h2 c1 c3)))) (fun c4 => (And.intro (fun c5 => (cC.of (h3 c4 c5))) (fun c6 => (And.intro (fun c7 => (cC.of (h4 c4 c6 c7))) (fun c8 => (h5 c4 c6 c8)))))))
set_option maxRecDepth 100000 in
theorem k_193_45 {x1 : Int32} {o2 : Option Value} {s0 : Int32}
    (h1 : (hi 279 6) = (41) → cS d 192 [(.ref 279)] (mkH hi hl sw kp) (am_ret (cW cd_193 d Q) 59 [some (.ref 279), some (.int x1), some (.int s0)] []))
    (h2 : ¬ ((hi 279 6) = (41)) → s0 = 0 → cW cd_193 d Q 30 [some (.ref 279), some (.int (0)), some (.int s0)] [] (mkH hi hl sw kp))
    (h3 : ¬ ((hi 279 6) = (41)) → ¬ (s0 = 0) → cS d 182 [(.int s0)] (mkH hi hl sw kp) (am_ret (cW cd_193 d Q) 102 [some (.ref 279), some (.int x1), some (.int s0)] []))
    : cW cd_193 d Q 45 [some (.ref 279), some (.int x1), o2] [(.int s0)] (mkH hi hl sw kp) :=
  cW.run (am_in [4, 28, 30, 45, 59, 67, 91, 102, 110, 118, 121, 145, 149, 168, 176, 188]) 10 (And.intro (Nat.le_of_ble_eq_true rfl) (And.intro (fun c1 => (cC.of (h1 c1))) (fun c2 => (And.intro (fun c3 => (And.intro (Nat.le_of_ble_eq_true rfl) (h2 c2 c3))) (fun c4 => (cC.of (h3 c2 c4)))))))
set_option maxRecDepth 100000 in
theorem k_193_59 {x1 : Int32} {x2 : Int32} {s0 : Int32}
    (h1 : s0 = 0 → x2 = 0 → cW cd_193 d Q 30 [some (.ref 279), some (.int (0)), some (.int x2)] [] (mkH hi hl sw kp))
    (h2 : s0 = 0 → ¬ (x2 = 0) → cS d 182 [(.int x2)] (mkH hi hl sw kp) (am_ret (cW cd_193 d Q) 102 [some (.ref 279), some (.int x1), some (.int x2)] []))
    (h3 : ¬ (s0 = 0) → cS d 183 [(.ref 279), (.int (0))] (mkH hi hl sw kp) (am_ret (cW cd_193 d Q) 67 [some (.ref 279), some (.int x1), some (.int x2)] []))
    : cW cd_193 d Q 59 [some (.ref 279), some (.int x1), some (.int x2)] [(.int s0)] (mkH hi hl sw kp) :=
  cW.run (am_in [4, 28, 30, 45, 59, 67, 91, 102, 110, 118, 121, 145, 149, 168, 176, 188]) 6 (And.intro (fun c1 => (And.intro (fun c2 => (And.intro (Nat.le_of_ble_eq_true rfl) (h1 c1 c2))) (fun c3 => (cC.of (h2 c1 c3))))) (fun c4 => (cC.of (h3 c4))))
set_option maxRecDepth 100000 in
theorem k_193_67 {x1 : Int32} {x2 : Int32}
    (h1 : cS d 170 [(.ref 279)] (mkH (u2 (u2 hi 279 19 ((hi 279 19) - (1))) 279 23 ((hi 279 23) - (1))) hl sw kp) (am_ret (cW cd_193 d Q) 91 [some (.ref 279), some (.int x1), some (.int x2)] []))
    : cW cd_193 d Q 67 [some (.ref 279), some (.int x1), some (.int x2)] [] (mkH hi hl sw kp) :=
  cW.run (am_in [4, 28, 30, 45, 59, 67, 91, 102, 110, 118, 121, 145, 149, 168, 176, 188]) 14 (And.intro rfl (And.intro rfl (cC.of (h1))))
set_option maxRecDepth 100000 in
theorem k_193_91 {x1 : Int32} {x2 : Int32}
    (h1 : cW cd_193 d Q 30 [some (.ref 279), some (.int x1), some (.int x2)] [] (mkH hi hl sw kp))
    : cW cd_193 d Q 91 [some (.ref 279), some (.int x1), some (.int x2)] [] (mkH hi hl sw kp) :=
  cW.run (am_in [4, 28, 30, 45, 59, 67, 91, 102, 110, 118, 121, 145, 149, 168, 176, 188]) 2 (h1)
set_option maxRecDepth 100000 in
theorem k_193_102 {x1 : Int32} {x2 : Int32} {s0 : Int32}
    (h1 : s0 = (4) → cS d 184 [(.ref 279)] (mkH hi hl sw kp) (am_ret (cW cd_193 d Q) 110 [some (.ref 279), some (.int x1), some (.int x2)] []))
    (h2 : ¬ (s0 = (4)) → cS d 182 [(.int x2)] (mkH hi hl sw kp) (am_ret (cW cd_193 d Q) 118 [some (.ref 279), some (.int x1), some (.int x2)] [(.ref 279)]))
    : cW cd_193 d Q 102 [some (.ref 279), some (.int x1), some (.int x2)] [(.int s0)] (mkH hi hl sw kp) :=
  cW.run (am_in [4, 28, 30, 45, 59, 67, 91, 102, 110, 118, 121, 145, 149, 168, 176, 188]) 5 (And.intro (fun c1 => (cC.of (h1 c1))) (fun c2 => (cC.of (h2 c2))))
set_option maxRecDepth 100000 in
theorem k_193_110 {x1 : Int32} {x2 : Int32} {s0 : Int32}
    (h1 : s0 = 0 → cS d 182 [(.int x2)] (mkH hi hl sw kp) (am_ret (cW cd_193 d Q) 118 [some (.ref 279), some (.int x1), some (.int x2)] [(.ref 279)]))
    (h2 : ¬ (s0 = 0) → cW cd_193 d Q 30 [some (.ref 279), some (.int (0)), some (.int x2)] [] (mkH hi hl sw kp))
    : cW cd_193 d Q 110 [some (.ref 279), some (.int x1), some (.int x2)] [(.int s0)] (mkH hi hl sw kp) :=
  cW.run (am_in [4, 28, 30, 45, 59, 67, 91, 102, 110, 118, 121, 145, 149, 168, 176, 188]) 4 (And.intro (fun c1 => (cC.of (h1 c1))) (fun c2 => (And.intro (Nat.le_of_ble_eq_true rfl) (h2 c2))))
set_option maxRecDepth 100000 in
theorem k_193_118 {x1 : Int32} {x2 : Int32} {s1 : Int32}
    (h1 : cS d 183 [(.ref 279), (.int s1)] (mkH hi hl sw kp) (am_ret (cW cd_193 d Q) 121 [some (.ref 279), some (.int x1), some (.int x2)] []))
    : cW cd_193 d Q 118 [some (.ref 279), some (.int x1), some (.int x2)] [(.int s1), (.ref 279)] (mkH hi hl sw kp) :=
  cW.run (am_in [4, 28, 30, 45, 59, 67, 91, 102, 110, 118, 121, 145, 149, 168, 176, 188]) 1 (cC.of (h1))
set_option maxRecDepth 100000 in
theorem k_193_121 {x1 : Int32} {x2 : Int32}
    (h1 : vp_in (hi 279 19) 160)
    (h2 : cS d 170 [(.ref 279)] (mkH (u2 (u2 hi 286 (hi 279 19).toNatClampNeg x2) 279 19 ((hi 279 19) + (1))) hl sw kp) (am_ret (cW cd_193 d Q) 145 [some (.ref 279), some (.int x1), some (.int x2)] []))
    : cW cd_193 d Q 121 [some (.ref 279), some (.int x1), some (.int x2)] [] (mkH hi hl sw kp) :=
  cW.run (am_in [4, 28, 30, 45, 59, 67, 91, 102, 110, 118, 121, 145, 149, 168, 176, 188]) 14 (And.intro (h1) (And.intro rfl (cC.of (h2))))
set_option maxRecDepth 100000 in
theorem k_193_145 {x1 : Int32} {x2 : Int32}
    (h1 : cS d 190 [(.ref 279)] (mkH hi hl sw kp) (am_ret (cW cd_193 d Q) 149 [some (.ref 279), some (.int x1), some (.int x2)] []))
    : cW cd_193 d Q 145 [some (.ref 279), some (.int x1), some (.int x2)] [] (mkH hi hl sw kp) :=
  cW.run (am_in [4, 28, 30, 45, 59, 67, 91, 102, 110, 118, 121, 145, 149, 168, 176, 188]) 2 (cC.of (h1))
set_option maxRecDepth 100000 in
theorem k_193_149 {x1 : Int32} {x2 : Int32}
    (h1 : cW cd_193 d Q 30 [some (.ref 279), some (.int x1), some (.int x2)] [] (mkH hi hl sw kp))
    : cW cd_193 d Q 149 [some (.ref 279), some (.int x1), some (.int x2)] [] (mkH hi hl sw kp) :=
  cW.run (am_in [4, 28, 30, 45, 59, 67, 91, 102, 110, 118, 121, 145, 149, 168, 176, 188]) 2 (h1)
set_option maxRecDepth 100000 in
theorem k_193_168 {x1 : Int32} {o2 : Option Value} {s0 : Int32}
    (h1 : s0 = 0 → cW cd_193 d Q 176 [some (.ref 279), some (.int x1), o2] [] (mkH hi hl sw kp))
    (h2 : ¬ (s0 = 0) → cS d 171 [(.ref 279), (.int (2))] (mkH hi hl sw kp) (am_ret (cW cd_193 d Q) 176 [some (.ref 279), some (.int x1), o2] []))
    : cW cd_193 d Q 168 [some (.ref 279), some (.int x1), o2] [(.int s0)] (mkH hi hl sw kp) :=
  cW.run (am_in [4, 28, 30, 45, 59, 67, 91, 102, 110, 118, 121, 145, 149, 168, 176, 188]) 4 (And.intro (fun c1 => (h1 c1)) (fun c2 => (cC.of (h2 c2))))
set_option maxRecDepth 100000 in
theorem k_193_176 {x1 : Int32} {o2 : Option Value}
    (h1 : (hi 279 2) = 0 → cS d 183 [(.ref 279), (.int (0))] (mkH hi hl sw kp) (am_ret (cW cd_193 d Q) 188 [some (.ref 279), some (.int x1), o2] []))
    (h2 : ¬ ((hi 279 2) = 0) → cW cd_193 d Q 188 [some (.ref 279), some (.int x1), o2] [] (mkH hi hl sw kp))
    : cW cd_193 d Q 176 [some (.ref 279), some (.int x1), o2] [] (mkH hi hl sw kp) :=
  cW.run (am_in [4, 28, 30, 45, 59, 67, 91, 102, 110, 118, 121, 145, 149, 168, 176, 188]) 6 (And.intro (fun c1 => (cC.of (h1 c1))) (fun c2 => (h2 c2)))
set_option maxRecDepth 100000 in
theorem k_193_188 {x1 : Int32} {o2 : Option Value}
    (h1 : Q none (mkH hi hl sw kp))
    : cW cd_193 d Q 188 [some (.ref 279), some (.int x1), o2] [] (mkH hi hl sw kp) :=
  cW.run (am_in [4, 28, 30, 45, 59, 67, 91, 102, 110, 118, 121, 145, 149, 168, 176, 188]) 1 (cQ.of (h1))
-- 194: DogDecreesModel.truth(Z)I
set_option maxRecDepth 100000 in
theorem k_194_0 {x0 : Int32}
    (h1 : x0 = 0 → Q (some (.int (0))) (mkH hi hl sw kp))
    (h2 : ¬ (x0 = 0) → Q (some (.int (1))) (mkH hi hl sw kp))
    : cW cd_194 d Q 0 [some (.int x0)] [] (mkH hi hl sw kp) :=
  cW.run (am_in []) 5 (And.intro (fun c1 => (cQ.of (h1 c1))) (fun c2 => (cQ.of (h2 c2))))
theorem e_194 {x0 : Int32}
    (h1 : x0 = 0 → Q (some (.int (0))) (mkH hi hl sw kp))
    (h2 : ¬ (x0 = 0) → Q (some (.int (1))) (mkH hi hl sw kp))
    : cS (d + 1) 194 [(.int x0)] (mkH hi hl sw kp) Q := cS.of rfl (k_194_0 h1 h2)
end BLK
