/-! ===== blocks of methods, by program ===== -/
theorem ite01 {p : Prop} {i : Decidable p} {a b : Int32} (ha : a = 0 ∨ a = 1) (hb : b = 0 ∨ b = 1) : (if p then a else b) = 0 ∨ (if p then a else b) = 1 := by
  by_cases h : p
  · rw [if_pos h]; exact ha
  · rw [if_neg h]; exact hb
section BLK
variable {d : Nat} {Q : am_Q} {hi : Nat → Nat → Int32} {hl : Nat → Nat → Int64} {sw : Bool} {kp : Nat → Nat}
-- 1: DogDecrees$Acts.forget()V
set_option maxRecDepth 100000 in
theorem k_1_0
    (h1 : Q none (mkH (u2 (u2 hi 33 1 (0)) 33 2 (0)) hl sw kp))
    : cW cd_1 d Q 0 [some (.ref 33)] [] (mkH hi hl sw kp) :=
  cW.run (am_in []) 7 (cQ.of (h1))
theorem e_1
    (h1 : Q none (mkH (u2 (u2 hi 33 1 (0)) 33 2 (0)) hl sw kp))
    : cS (d + 1) 1 [(.ref 33)] (mkH hi hl sw kp) Q := cS.of rfl (k_1_0 h1)
-- 7: DogDecrees$Formula.clear()V
set_option maxRecDepth 100000 in
theorem k_7_0
    (h1 : Q none (mkH (u2 (u2 hi 11 2 (0)) 11 3 (0)) hl sw kp))
    : cW cd_7 d Q 0 [some (.ref 11)] [] (mkH hi hl sw kp) :=
  cW.run (am_in []) 7 (cQ.of (h1))
theorem e_7
    (h1 : Q none (mkH (u2 (u2 hi 11 2 (0)) 11 3 (0)) hl sw kp))
    : cS (d + 1) 7 [(.ref 11)] (mkH hi hl sw kp) Q := cS.of rfl (k_7_0 h1)
-- 8: DogDecrees$Formula.addStep(I)V
set_option maxRecDepth 100000 in
theorem k_8_0 {x1 : Int32}
    (h1 : (269) ≤ (hi 11 2) → Q none (mkH hi hl sw kp))
    (h2 : ¬ ((269) ≤ (hi 11 2)) → vp_in (hi 11 2) 269)
    (h3 : ¬ ((269) ≤ (hi 11 2)) → Q none (mkH (u2 (u2 hi 12 (hi 11 2).toNatClampNeg x1) 11 2 ((hi 11 2) + (1))) hl sw kp))
    : cW cd_8 d Q 0 [some (.ref 11), some (.int x1)] [] (mkH hi hl sw kp) :=
  cW.run (am_in []) 17 (And.intro (fun c1 => (cQ.of (h1 c1))) (fun c2 => (And.intro (h2 c2) (And.intro rfl (cQ.of (h3 c2))))))
theorem e_8 {x1 : Int32}
    (h1 : (269) ≤ (hi 11 2) → Q none (mkH hi hl sw kp))
    (h2 : ¬ ((269) ≤ (hi 11 2)) → vp_in (hi 11 2) 269)
    (h3 : ¬ ((269) ≤ (hi 11 2)) → Q none (mkH (u2 (u2 hi 12 (hi 11 2).toNatClampNeg x1) 11 2 ((hi 11 2) + (1))) hl sw kp))
    : cS (d + 1) 8 [(.ref 11), (.int x1)] (mkH hi hl sw kp) Q := cS.of rfl (k_8_0 h1 h2 h3)
-- 9: DogDecrees$Formula.copyFrom(LDogDecrees$Formula;)V
set_option maxRecDepth 100000 in
theorem k_9_0
    (h1 : Q none (mkH (u2 (u2 (uR hi 26 (va_cpy (hi 12) (hi 26) 0 0 269)) 25 2 (hi 11 2)) 25 3 (hi 11 3)) hl sw kp))
    : cW cd_9 d Q 0 [some (.ref 25), some (.ref 11)] [] (mkH hi hl sw kp) :=
  cW.run (am_in []) 17 (And.intro (show ¬ (0 : Int32) < 0 ∧ ¬ (0 : Int32) < 0 ∧ ¬ (269 : Int32) < 0 ∧ 0 + 269 ≤ 269 ∧ 0 + 269 ≤ 269 by decide +kernel) (cQ.of (h1)))
theorem e_9
    (h1 : Q none (mkH (u2 (u2 (uR hi 26 (va_cpy (hi 12) (hi 26) 0 0 269)) 25 2 (hi 11 2)) 25 3 (hi 11 3)) hl sw kp))
    : cS (d + 1) 9 [(.ref 25), (.ref 11)] (mkH hi hl sw kp) Q := cS.of rfl (k_9_0 h1)
-- 11: DogDecrees$Formula.joinsTwo(I)Z
set_option maxRecDepth 100000 in
theorem k_11_0 {x0 : Int32}
    (h1 : 0 ≤ x0 → x0 = (-216) → Q (some (.int (1))) (mkH hi hl sw kp))
    (h2 : 0 ≤ x0 → ¬ (x0 = (-216)) → x0 = (-215) → Q (some (.int (1))) (mkH hi hl sw kp))
    (h3 : 0 ≤ x0 → ¬ (x0 = (-216)) → ¬ (x0 = (-215)) → Q (some (.int (0))) (mkH hi hl sw kp))
    (h4 : ¬ (0 ≤ x0) → (-200) < x0 → Q (some (.int (1))) (mkH hi hl sw kp))
    (h5 : ¬ (0 ≤ x0) → ¬ ((-200) < x0) → x0 = (-216) → Q (some (.int (1))) (mkH hi hl sw kp))
    (h6 : ¬ (0 ≤ x0) → ¬ ((-200) < x0) → ¬ (x0 = (-216)) → x0 = (-215) → Q (some (.int (1))) (mkH hi hl sw kp))
    (h7 : ¬ (0 ≤ x0) → ¬ ((-200) < x0) → ¬ (x0 = (-216)) → ¬ (x0 = (-215)) → Q (some (.int (0))) (mkH hi hl sw kp))
    : cW cd_11 d Q 0 [some (.int x0)] [] (mkH hi hl sw kp) :=
  cW.run (am_in []) 14 (And.intro (fun c1 => (And.intro (fun c2 => (And.intro (Or.inr rfl) (cQ.of (h1 c1 c2)))) (fun c3 => (And.intro (fun c4 => (And.intro (Or.inr rfl) (cQ.of (h2 c1 c3 c4)))) (fun c5 => (And.intro (Or.inl rfl) (cQ.of (h3 c1 c3 c5)))))))) (fun c6 => (And.intro (fun c7 => (And.intro (Or.inr rfl) (cQ.of (h4 c6 c7)))) (fun c8 => (And.intro (fun c9 => (And.intro (Or.inr rfl) (cQ.of (h5 c6 c8 c9)))) (fun c10 => (And.intro (fun c11 => (And.intro (Or.inr rfl) (cQ.of (h6 c6 c8 c10 c11)))) (fun c12 => (And.intro (Or.inl rfl) (cQ.of (h7 c6 c8 c10 c12)))))))))))
theorem e_11 {x0 : Int32}
    (h1 : 0 ≤ x0 → x0 = (-216) → Q (some (.int (1))) (mkH hi hl sw kp))
    (h2 : 0 ≤ x0 → ¬ (x0 = (-216)) → x0 = (-215) → Q (some (.int (1))) (mkH hi hl sw kp))
    (h3 : 0 ≤ x0 → ¬ (x0 = (-216)) → ¬ (x0 = (-215)) → Q (some (.int (0))) (mkH hi hl sw kp))
    (h4 : ¬ (0 ≤ x0) → (-200) < x0 → Q (some (.int (1))) (mkH hi hl sw kp))
    (h5 : ¬ (0 ≤ x0) → ¬ ((-200) < x0) → x0 = (-216) → Q (some (.int (1))) (mkH hi hl sw kp))
    (h6 : ¬ (0 ≤ x0) → ¬ ((-200) < x0) → ¬ (x0 = (-216)) → x0 = (-215) → Q (some (.int (1))) (mkH hi hl sw kp))
    (h7 : ¬ (0 ≤ x0) → ¬ ((-200) < x0) → ¬ (x0 = (-216)) → ¬ (x0 = (-215)) → Q (some (.int (0))) (mkH hi hl sw kp))
    : cS (d + 1) 11 [(.int x0)] (mkH hi hl sw kp) Q := cS.of rfl (k_11_0 h1 h2 h3 h4 h5 h6 h7)
def g_11 (x0 : Int32) : Int32 := if 0 ≤ x0 then if x0 = (-216) then (1) else (if x0 = (-215) then (1) else ((0))) else (if (-200) < x0 then (1) else (if x0 = (-216) then (1) else (if x0 = (-215) then (1) else ((0)))))
theorem g_11_01 (x0 : Int32) : g_11 x0 = 0 ∨ g_11 x0 = 1 := by
  unfold g_11
  exact (ite01 (ite01 (Or.inr rfl) (ite01 (Or.inr rfl) (Or.inl rfl))) (ite01 (Or.inr rfl) (ite01 (Or.inr rfl) (ite01 (Or.inr rfl) (Or.inl rfl)))))
set_option maxRecDepth 100000 in
theorem s_11 {x0 : Int32} (w : Q (some (.int (g_11 x0))) (mkH hi hl sw kp)) : cS (d + 1) 11 [(.int x0)] (mkH hi hl sw kp) Q :=
  e_11 (fun c1 c2 => by
      have e : g_11 x0 = (1) := by
        unfold g_11
        rw [if_pos c1, if_pos c2]
      rw [e] at w
      exact w) (fun c1 c3 c4 => by
      have e : g_11 x0 = (1) := by
        unfold g_11
        rw [if_pos c1, if_neg c3, if_pos c4]
      rw [e] at w
      exact w) (fun c1 c3 c5 => by
      have e : g_11 x0 = (0) := by
        unfold g_11
        rw [if_pos c1, if_neg c3, if_neg c5]
      rw [e] at w
      exact w) (fun c6 c7 => by
      have e : g_11 x0 = (1) := by
        unfold g_11
        rw [if_neg c6, if_pos c7]
      rw [e] at w
      exact w) (fun c6 c8 c9 => by
      have e : g_11 x0 = (1) := by
        unfold g_11
        rw [if_neg c6, if_neg c8, if_pos c9]
      rw [e] at w
      exact w) (fun c6 c8 c10 c11 => by
      have e : g_11 x0 = (1) := by
        unfold g_11
        rw [if_neg c6, if_neg c8, if_neg c10, if_pos c11]
      rw [e] at w
      exact w) (fun c6 c8 c10 c12 => by
      have e : g_11 x0 = (0) := by
        unfold g_11
        rw [if_neg c6, if_neg c8, if_neg c10, if_neg c12]
      rw [e] at w
      exact w)
-- 12: DogDecrees$Formula.quantity(IIIIII)I
set_option maxRecDepth 100000 in
theorem k_12_0 {x0 : Int32} {x1 : Int32} {x2 : Int32} {x3 : Int32} {x4 : Int32} {x5 : Int32}
    (h1 : x0 = 209 → Q (some (.int x4)) (mkH hi hl sw kp))
    (h2 : ¬ x0 = 209 → x0 = 211 → Q (some (.int x1)) (mkH hi hl sw kp))
    (h3 : ¬ x0 = 209 → ¬ x0 = 211 → x0 = 218 → Q (some (.int x2)) (mkH hi hl sw kp))
    (h4 : ¬ x0 = 209 → ¬ x0 = 211 → ¬ x0 = 218 → x0 = 219 → Q (some (.int x3)) (mkH hi hl sw kp))
    (h5 : ¬ x0 = 209 → ¬ x0 = 211 → ¬ x0 = 218 → ¬ x0 = 219 → Q (some (.int x5)) (mkH hi hl sw kp))
    : cW cd_12 d Q 0 [some (.int x0), some (.int x1), some (.int x2), some (.int x3), some (.int x4), some (.int x5)] [] (mkH hi hl sw kp) :=
  cW.run (am_in []) 4 (And.intro (fun c1 => (cQ.of (h1 c1))) (fun c2 => (And.intro (fun c3 => (cQ.of (h2 c2 c3))) (fun c4 => (And.intro (fun c5 => (cQ.of (h3 c2 c4 c5))) (fun c6 => (And.intro (fun c7 => (cQ.of (h4 c2 c4 c6 c7))) (fun c8 => (cQ.of (h5 c2 c4 c6 c8))))))))))
theorem e_12 {x0 : Int32} {x1 : Int32} {x2 : Int32} {x3 : Int32} {x4 : Int32} {x5 : Int32}
    (h1 : x0 = 209 → Q (some (.int x4)) (mkH hi hl sw kp))
    (h2 : ¬ x0 = 209 → x0 = 211 → Q (some (.int x1)) (mkH hi hl sw kp))
    (h3 : ¬ x0 = 209 → ¬ x0 = 211 → x0 = 218 → Q (some (.int x2)) (mkH hi hl sw kp))
    (h4 : ¬ x0 = 209 → ¬ x0 = 211 → ¬ x0 = 218 → x0 = 219 → Q (some (.int x3)) (mkH hi hl sw kp))
    (h5 : ¬ x0 = 209 → ¬ x0 = 211 → ¬ x0 = 218 → ¬ x0 = 219 → Q (some (.int x5)) (mkH hi hl sw kp))
    : cS (d + 1) 12 [(.int x0), (.int x1), (.int x2), (.int x3), (.int x4), (.int x5)] (mkH hi hl sw kp) Q := cS.of rfl (k_12_0 h1 h2 h3 h4 h5)
def g_12 (x0 : Int32) (x1 : Int32) (x2 : Int32) (x3 : Int32) (x4 : Int32) (x5 : Int32) : Int32 := if x0 = 209 then x4 else (if x0 = 211 then x1 else (if x0 = 218 then x2 else (if x0 = 219 then x3 else (x5))))
set_option maxRecDepth 100000 in
theorem s_12 {x0 : Int32} {x1 : Int32} {x2 : Int32} {x3 : Int32} {x4 : Int32} {x5 : Int32} (w : Q (some (.int (g_12 x0 x1 x2 x3 x4 x5))) (mkH hi hl sw kp)) : cS (d + 1) 12 [(.int x0), (.int x1), (.int x2), (.int x3), (.int x4), (.int x5)] (mkH hi hl sw kp) Q :=
  e_12 (fun c1 => by
      have e : g_12 x0 x1 x2 x3 x4 x5 = x4 := by
        unfold g_12
        rw [if_pos c1]
      rw [e] at w
      exact w) (fun c2 c3 => by
      have e : g_12 x0 x1 x2 x3 x4 x5 = x1 := by
        unfold g_12
        rw [if_neg c2, if_pos c3]
      rw [e] at w
      exact w) (fun c2 c4 c5 => by
      have e : g_12 x0 x1 x2 x3 x4 x5 = x2 := by
        unfold g_12
        rw [if_neg c2, if_neg c4, if_pos c5]
      rw [e] at w
      exact w) (fun c2 c4 c6 c7 => by
      have e : g_12 x0 x1 x2 x3 x4 x5 = x3 := by
        unfold g_12
        rw [if_neg c2, if_neg c4, if_neg c6, if_pos c7]
      rw [e] at w
      exact w) (fun c2 c4 c6 c8 => by
      have e : g_12 x0 x1 x2 x3 x4 x5 = x5 := by
        unfold g_12
        rw [if_neg c2, if_neg c4, if_neg c6, if_neg c8]
      rw [e] at w
      exact w)
-- 14: DogDecrees$Formula.truth(Z)I
set_option maxRecDepth 100000 in
theorem k_14_0 {x0 : Int32}
    (h1 : x0 = 0 → Q (some (.int (0))) (mkH hi hl sw kp))
    (h2 : ¬ (x0 = 0) → Q (some (.int (1))) (mkH hi hl sw kp))
    : cW cd_14 d Q 0 [some (.int x0)] [] (mkH hi hl sw kp) :=
  cW.run (am_in []) 5 (And.intro (fun c1 => (cQ.of (h1 c1))) (fun c2 => (cQ.of (h2 c2))))
theorem e_14 {x0 : Int32}
    (h1 : x0 = 0 → Q (some (.int (0))) (mkH hi hl sw kp))
    (h2 : ¬ (x0 = 0) → Q (some (.int (1))) (mkH hi hl sw kp))
    : cS (d + 1) 14 [(.int x0)] (mkH hi hl sw kp) Q := cS.of rfl (k_14_0 h1 h2)
def g_14 (x0 : Int32) : Int32 := if x0 = 0 then (0) else ((1))
set_option maxRecDepth 100000 in
theorem s_14 {x0 : Int32} (w : Q (some (.int (g_14 x0))) (mkH hi hl sw kp)) : cS (d + 1) 14 [(.int x0)] (mkH hi hl sw kp) Q :=
  e_14 (fun c1 => by
      have e : g_14 x0 = (0) := by
        unfold g_14
        rw [if_pos c1]
      rw [e] at w
      exact w) (fun c2 => by
      have e : g_14 x0 = (1) := by
        unfold g_14
        rw [if_neg c2]
      rw [e] at w
      exact w)
-- 23: DogDecrees$Laying.fits(I)Z
set_option maxRecDepth 100000 in
theorem k_23_0 {x1 : Int32}
    (h1 : vp_in x1 8)
    (h2 : (9) < ((hi 29 x1.toNatClampNeg) + (hi 257 x1.toNatClampNeg)) → Q (some (.int (0))) (mkH hi hl sw kp))
    (h3 : ¬ ((9) < ((hi 29 x1.toNatClampNeg) + (hi 257 x1.toNatClampNeg))) → Q (some (.int (1))) (mkH hi hl sw kp))
    : cW cd_23 d Q 0 [some (.ref 264), some (.int x1)] [] (mkH hi hl sw kp) :=
  cW.run (am_in []) 16 (And.intro (h1) (And.intro (h1) (And.intro (fun c1 => (And.intro (Or.inl rfl) (cQ.of (h2 c1)))) (fun c2 => (And.intro (Or.inr rfl) (cQ.of (h3 c2)))))))
theorem e_23 {x1 : Int32}
    (h1 : vp_in x1 8)
    (h2 : (9) < ((hi 29 x1.toNatClampNeg) + (hi 257 x1.toNatClampNeg)) → Q (some (.int (0))) (mkH hi hl sw kp))
    (h3 : ¬ ((9) < ((hi 29 x1.toNatClampNeg) + (hi 257 x1.toNatClampNeg))) → Q (some (.int (1))) (mkH hi hl sw kp))
    : cS (d + 1) 23 [(.ref 264), (.int x1)] (mkH hi hl sw kp) Q := cS.of rfl (k_23_0 h1 h2 h3)
def g_23 (hi : Nat → Nat → Int32) (x1 : Int32) : Int32 := if (9) < ((hi 29 x1.toNatClampNeg) + (hi 257 x1.toNatClampNeg)) then (0) else ((1))
theorem g_23_01 (hi : Nat → Nat → Int32) (x1 : Int32) : g_23 hi x1 = 0 ∨ g_23 hi x1 = 1 := by
  unfold g_23
  exact (ite01 (Or.inl rfl) (Or.inr rfl))
set_option maxRecDepth 100000 in
theorem s_23 {x1 : Int32} (o1 : vp_in x1 8) (w : Q (some (.int (g_23 hi x1))) (mkH hi hl sw kp)) : cS (d + 1) 23 [(.ref 264), (.int x1)] (mkH hi hl sw kp) Q :=
  e_23 o1 (fun c1 => by
      have e : g_23 hi x1 = (0) := by
        unfold g_23
        rw [if_pos c1]
      rw [e] at w
      exact w) (fun c2 => by
      have e : g_23 hi x1 = (1) := by
        unfold g_23
        rw [if_neg c2]
      rw [e] at w
      exact w)
-- 25: DogDecrees$Ledger.clear()V
set_option maxRecDepth 100000 in
theorem k_25_0
    (h1 : Q none (mkH (u2 hi 266 8 (0)) hl sw kp))
    : cW cd_25 d Q 0 [some (.ref 266)] [] (mkH hi hl sw kp) :=
  cW.run (am_in []) 4 (cQ.of (h1))
theorem e_25
    (h1 : Q none (mkH (u2 hi 266 8 (0)) hl sw kp))
    : cS (d + 1) 25 [(.ref 266)] (mkH hi hl sw kp) Q := cS.of rfl (k_25_0 h1)
-- 26: DogDecrees$Ledger.add(IIIIII)I
set_option maxRecDepth 100000 in
theorem k_26_0 {x1 : Int32} {x2 : Int32} {x3 : Int32} {x4 : Int32} {x5 : Int32} {x6 : Int32}
    (h1 : (hi 266 8) < (30) → vp_in (hi 266 8) 30)
    (h2 : (hi 266 8) < (30) → cW cd_26 d Q 87 [some (.ref 266), some (.int x1), some (.int x2), some (.int x3), some (.int x4), some (.int x5), some (.int x6)] [] (mkH (u2 (u2 (u2 (u2 (u2 (u2 (u2 hi 267 (hi 266 8).toNatClampNeg x1) 268 (hi 266 8).toNatClampNeg x2) 269 (hi 266 8).toNatClampNeg x3) 270 (hi 266 8).toNatClampNeg x4) 271 (hi 266 8).toNatClampNeg x5) 272 (hi 266 8).toNatClampNeg x6) 273 (hi 266 8).toNatClampNeg (hi 266 9)) hl sw kp))
    (h3 : ¬ ((hi 266 8) < (30)) → Q (some (.int (-1))) (mkH hi hl sw kp))
    : cW cd_26 d Q 0 [some (.ref 266), some (.int x1), some (.int x2), some (.int x3), some (.int x4), some (.int x5), some (.int x6)] [] (mkH hi hl sw kp) :=
  cW.run (am_in [87]) 47 (And.intro (fun c1 => (And.intro (h1 c1) (And.intro (h1 c1) (And.intro (h1 c1) (And.intro (h1 c1) (And.intro (h1 c1) (And.intro (h1 c1) (And.intro (h1 c1) (h2 c1))))))))) (fun c2 => (cQ.of (h3 c2))))
theorem e_26 {x1 : Int32} {x2 : Int32} {x3 : Int32} {x4 : Int32} {x5 : Int32} {x6 : Int32}
    (h1 : (hi 266 8) < (30) → vp_in (hi 266 8) 30)
    (h2 : (hi 266 8) < (30) → cW cd_26 d Q 87 [some (.ref 266), some (.int x1), some (.int x2), some (.int x3), some (.int x4), some (.int x5), some (.int x6)] [] (mkH (u2 (u2 (u2 (u2 (u2 (u2 (u2 hi 267 (hi 266 8).toNatClampNeg x1) 268 (hi 266 8).toNatClampNeg x2) 269 (hi 266 8).toNatClampNeg x3) 270 (hi 266 8).toNatClampNeg x4) 271 (hi 266 8).toNatClampNeg x5) 272 (hi 266 8).toNatClampNeg x6) 273 (hi 266 8).toNatClampNeg (hi 266 9)) hl sw kp))
    (h3 : ¬ ((hi 266 8) < (30)) → Q (some (.int (-1))) (mkH hi hl sw kp))
    : cS (d + 1) 26 [(.ref 266), (.int x1), (.int x2), (.int x3), (.int x4), (.int x5), (.int x6)] (mkH hi hl sw kp) Q := cS.of rfl (k_26_0 h1 h2 h3)
set_option maxRecDepth 100000 in
theorem k_26_87 {x1 : Int32} {x2 : Int32} {x3 : Int32} {x4 : Int32} {x5 : Int32} {x6 : Int32}
    (h1 : vp_in (hi 266 8) 30)
    (h2 : Q (some (.int (((hi 266 8) + (1)) - (1)))) (mkH (u2 (u2 hi 274 (hi 266 8).toNatClampNeg (-1)) 266 8 ((hi 266 8) + (1))) hl sw kp))
    : cW cd_26 d Q 87 [some (.ref 266), some (.int x1), some (.int x2), some (.int x3), some (.int x4), some (.int x5), some (.int x6)] [] (mkH hi hl sw kp) :=
  cW.run (am_in [87]) 17 (And.intro (h1) (And.intro rfl (cQ.of (h2))))
-- 27: DogDecrees$Ledger.takeBack(I)Z
set_option maxRecDepth 100000 in
theorem k_27_0 {x1 : Int32}
    (h1 : x1 < 0 → Q (some (.int (0))) (mkH hi hl sw kp))
    (h2 : ¬ (x1 < 0) → (hi 266 8) ≤ x1 → Q (some (.int (0))) (mkH hi hl sw kp))
    (h3 : ¬ (x1 < 0) → ¬ ((hi 266 8) ≤ x1) → (30) ≤ x1 → Q (some (.int (0))) (mkH hi hl sw kp))
    (h4 : ¬ (x1 < 0) → ¬ ((hi 266 8) ≤ x1) → ¬ ((30) ≤ x1) → (hi 274 x1.toNatClampNeg) = (-1) → Q (some (.int (1))) (mkH (u2 hi 274 x1.toNatClampNeg (hi 266 9)) hl sw kp))
    (h5 : ¬ (x1 < 0) → ¬ ((hi 266 8) ≤ x1) → ¬ ((30) ≤ x1) → ¬ ((hi 274 x1.toNatClampNeg) = (-1)) → Q (some (.int (0))) (mkH hi hl sw kp))
    : cW cd_27 d Q 0 [some (.ref 266), some (.int x1)] [] (mkH hi hl sw kp) :=
  cW.run (am_in []) 23 (And.intro (fun c1 => (And.intro (Or.inl rfl) (cQ.of (h1 c1)))) (fun c2 => (And.intro (fun c3 => (And.intro (Or.inl rfl) (cQ.of (h2 c2 c3)))) (fun c4 => (And.intro (fun c5 => (And.intro (Or.inl rfl) (cQ.of (h3 c2 c4 c5)))) (fun c6 => (And.intro (vin_b c2 c6 rfl) (And.intro (fun c7 => (And.intro (vin_b c2 c6 rfl) (And.intro (Or.inr rfl) (cQ.of (h4 c2 c4 c6 c7))))) (fun c8 => (And.intro (Or.inl rfl) (cQ.of (h5 c2 c4 c6 c8))))))))))))
theorem e_27 {x1 : Int32}
    (h1 : x1 < 0 → Q (some (.int (0))) (mkH hi hl sw kp))
    (h2 : ¬ (x1 < 0) → (hi 266 8) ≤ x1 → Q (some (.int (0))) (mkH hi hl sw kp))
    (h3 : ¬ (x1 < 0) → ¬ ((hi 266 8) ≤ x1) → (30) ≤ x1 → Q (some (.int (0))) (mkH hi hl sw kp))
    (h4 : ¬ (x1 < 0) → ¬ ((hi 266 8) ≤ x1) → ¬ ((30) ≤ x1) → (hi 274 x1.toNatClampNeg) = (-1) → Q (some (.int (1))) (mkH (u2 hi 274 x1.toNatClampNeg (hi 266 9)) hl sw kp))
    (h5 : ¬ (x1 < 0) → ¬ ((hi 266 8) ≤ x1) → ¬ ((30) ≤ x1) → ¬ ((hi 274 x1.toNatClampNeg) = (-1)) → Q (some (.int (0))) (mkH hi hl sw kp))
    : cS (d + 1) 27 [(.ref 266), (.int x1)] (mkH hi hl sw kp) Q := cS.of rfl (k_27_0 h1 h2 h3 h4 h5)
-- 29: DogDecrees$Ledger.gather(II)V
set_option maxRecDepth 100000 in
theorem k_29_0 {x1 : Int32} {x2 : Int32}
    (h1 : cW cd_29 d Q 7 [some (.ref 266), some (.int x1), some (.int x2), some (.int (0)), none] [] (mkH (u2 hi 266 11 (0)) hl sw kp))
    : cW cd_29 d Q 0 [some (.ref 266), some (.int x1), some (.int x2), none, none] [] (mkH hi hl sw kp) :=
  cW.run (am_in [7]) 5 (And.intro (Nat.le_of_ble_eq_true rfl) (h1))
theorem e_29 {x1 : Int32} {x2 : Int32}
    (h1 : cW cd_29 d Q 7 [some (.ref 266), some (.int x1), some (.int x2), some (.int (0)), none] [] (mkH (u2 hi 266 11 (0)) hl sw kp))
    : cS (d + 1) 29 [(.ref 266), (.int x1), (.int x2)] (mkH hi hl sw kp) Q := cS.of rfl (k_29_0 h1)
set_option maxRecDepth 100000 in
theorem k_29_7 {x1 : Int32} {x2 : Int32} {x3 : Int32} {o4 : Option Value}
    (h1 : (hi 266 8) ≤ x3 → Q none (mkH hi hl sw kp))
    (h2 : ¬ ((hi 266 8) ≤ x3) → (30) ≤ x3 → Q none (mkH hi hl sw kp))
    (h3 : ¬ ((hi 266 8) ≤ x3) → ¬ ((30) ≤ x3) → vp_in x3 30)
    (h4 : ¬ ((hi 266 8) ≤ x3) → ¬ ((30) ≤ x3) → (hi 274 x3.toNatClampNeg) = (-1) → (hi 267 x3.toNatClampNeg) = x1 → x2 < (hi 273 x3.toNatClampNeg) → cW cd_29 d Q 7 [some (.ref 266), some (.int x1), some (.int x2), some (.int (x3 + (1))), some (.int (0))] [] (mkH hi hl sw kp))
    (h5 : ¬ ((hi 266 8) ≤ x3) → ¬ ((30) ≤ x3) → (hi 274 x3.toNatClampNeg) = (-1) → (hi 267 x3.toNatClampNeg) = x1 → ¬ (x2 < (hi 273 x3.toNatClampNeg)) → vp_in (hi 266 11) 30)
    (h6 : ¬ ((hi 266 8) ≤ x3) → ¬ ((30) ≤ x3) → (hi 274 x3.toNatClampNeg) = (-1) → (hi 267 x3.toNatClampNeg) = x1 → ¬ (x2 < (hi 273 x3.toNatClampNeg)) → cW cd_29 d Q 7 [some (.ref 266), some (.int x1), some (.int x2), some (.int (x3 + (1))), some (.int (0))] [] (mkH (u2 (u2 hi 275 (hi 266 11).toNatClampNeg x3) 266 11 ((hi 266 11) + (1))) hl sw kp))
    (h7 : ¬ ((hi 266 8) ≤ x3) → ¬ ((30) ≤ x3) → (hi 274 x3.toNatClampNeg) = (-1) → ¬ ((hi 267 x3.toNatClampNeg) = x1) → cW cd_29 d Q 7 [some (.ref 266), some (.int x1), some (.int x2), some (.int (x3 + (1))), some (.int (0))] [] (mkH hi hl sw kp))
    (h8 : ¬ ((hi 266 8) ≤ x3) → ¬ ((30) ≤ x3) → ¬ ((hi 274 x3.toNatClampNeg) = (-1)) → x2 < (hi 274 x3.toNatClampNeg) → (hi 267 x3.toNatClampNeg) = x1 → x2 < (hi 273 x3.toNatClampNeg) → cW cd_29 d Q 7 [some (.ref 266), some (.int x1), some (.int x2), some (.int (x3 + (1))), some (.int (0))] [] (mkH hi hl sw kp))
    (h9 : ¬ ((hi 266 8) ≤ x3) → ¬ ((30) ≤ x3) → ¬ ((hi 274 x3.toNatClampNeg) = (-1)) → x2 < (hi 274 x3.toNatClampNeg) → (hi 267 x3.toNatClampNeg) = x1 → ¬ (x2 < (hi 273 x3.toNatClampNeg)) → vp_in (hi 266 11) 30)
    (h10 : ¬ ((hi 266 8) ≤ x3) → ¬ ((30) ≤ x3) → ¬ ((hi 274 x3.toNatClampNeg) = (-1)) → x2 < (hi 274 x3.toNatClampNeg) → (hi 267 x3.toNatClampNeg) = x1 → ¬ (x2 < (hi 273 x3.toNatClampNeg)) → cW cd_29 d Q 7 [some (.ref 266), some (.int x1), some (.int x2), some (.int (x3 + (1))), some (.int (0))] [] (mkH (u2 (u2 hi 275 (hi 266 11).toNatClampNeg x3) 266 11 ((hi 266 11) + (1))) hl sw kp))
    (h11 : ¬ ((hi 266 8) ≤ x3) → ¬ ((30) ≤ x3) → ¬ ((hi 274 x3.toNatClampNeg) = (-1)) → x2 < (hi 274 x3.toNatClampNeg) → ¬ ((hi 267 x3.toNatClampNeg) = x1) → cW cd_29 d Q 7 [some (.ref 266), some (.int x1), some (.int x2), some (.int (x3 + (1))), some (.int (0))] [] (mkH hi hl sw kp))
    (h12 : ¬ ((hi 266 8) ≤ x3) → ¬ ((30) ≤ x3) → ¬ ((hi 274 x3.toNatClampNeg) = (-1)) → ¬ (x2 < (hi 274 x3.toNatClampNeg)) → (hi 267 x3.toNatClampNeg) = x1 → x2 < (hi 273 x3.toNatClampNeg) → cW cd_29 d Q 7 [some (.ref 266), some (.int x1), some (.int x2), some (.int (x3 + (1))), some (.int (1))] [] (mkH hi hl sw kp))
    (h13 : ¬ ((hi 266 8) ≤ x3) → ¬ ((30) ≤ x3) → ¬ ((hi 274 x3.toNatClampNeg) = (-1)) → ¬ (x2 < (hi 274 x3.toNatClampNeg)) → (hi 267 x3.toNatClampNeg) = x1 → ¬ (x2 < (hi 273 x3.toNatClampNeg)) → cW cd_29 d Q 7 [some (.ref 266), some (.int x1), some (.int x2), some (.int (x3 + (1))), some (.int (1))] [] (mkH hi hl sw kp))
    (h14 : ¬ ((hi 266 8) ≤ x3) → ¬ ((30) ≤ x3) → ¬ ((hi 274 x3.toNatClampNeg) = (-1)) → ¬ (x2 < (hi 274 x3.toNatClampNeg)) → ¬ ((hi 267 x3.toNatClampNeg) = x1) → cW cd_29 d Q 7 [some (.ref 266), some (.int x1), some (.int x2), some (.int (x3 + (1))), some (.int (1))] [] (mkH hi hl sw kp))
    : cW cd_29 d Q 7 [some (.ref 266), some (.int x1), some (.int x2), some (.int x3), o4] [] (mkH hi hl sw kp) :=
  cW.run (am_in [7]) 49 (And.intro (fun c1 => (cQ.of (h1 c1))) (fun c2 => (And.intro (fun c3 => (cQ.of (h2 c2 c3))) (fun c4 => (And.intro (h3 c2 c4) (And.intro (fun c5 => (And.intro (Nat.le_of_ble_eq_true rfl) (And.intro (h3 c2 c4) (And.intro (fun c6 => (And.intro (h3 c2 c4) (And.intro (fun c7 => (And.intro (Nat.le_of_ble_eq_true rfl) (h4 c2 c4 c5 c6 c7))) (fun c8 => (And.intro (fun _ => (And.intro (h5 c2 c4 c5 c6 c8) (And.intro rfl (And.intro (Nat.le_of_ble_eq_true rfl) (h6 c2 c4 c5 c6 c8))))) (fun z => absurd (show (0 : Int32) = 0 by decide) z)))))) (fun c9 => (And.intro (Nat.le_of_ble_eq_true rfl) (h7 c2 c4 c5 c9))))))) (fun c10 => (And.intro (h3 c2 c4) (And.intro (fun c11 => (And.intro (Nat.le_of_ble_eq_true rfl) (And.intro (h3 c2 c4) (And.intro (fun c12 => (And.intro (h3 c2 c4) (And.intro (fun c13 => (And.intro (Nat.le_of_ble_eq_true rfl) (h8 c2 c4 c10 c11 c12 c13))) (fun c14 => (And.intro (fun _ => (And.intro (h9 c2 c4 c10 c11 c12 c14) (And.intro rfl (And.intro (Nat.le_of_ble_eq_true rfl) (h10 c2 c4 c10 c11 c12 c14))))) (fun z => absurd (show (0 : Int32) = 0 by decide) z)))))) (fun c15 => (And.intro (Nat.le_of_ble_eq_true rfl) (h11 c2 c4 c10 c11 c15))))))) (fun c16 => (And.intro (Nat.le_of_ble_eq_true rfl) (And.intro (h3 c2 c4) (And.intro (fun c17 => (And.intro (h3 c2 c4) (And.intro (fun c18 => (And.intro (Nat.le_of_ble_eq_true rfl) (h12 c2 c4 c10 c16 c17 c18))) (fun c19 => (And.intro (fun z => absurd (show (1 : Int32) = 0 from z) (by decide)) (fun _ => (And.intro (Nat.le_of_ble_eq_true rfl) (h13 c2 c4 c10 c16 c17 c19)))))))) (fun c20 => (And.intro (Nat.le_of_ble_eq_true rfl) (h14 c2 c4 c10 c16 c20))))))))))))))))
-- 30: DogDecrees$Ledger.agrees()Z
set_option maxRecDepth 100000 in
theorem k_30_0
    (h1 : cW cd_30 d Q 2 [some (.ref 266), some (.int (0)), none] [] (mkH hi hl sw kp))
    : cW cd_30 d Q 0 [some (.ref 266), none, none] [] (mkH hi hl sw kp) :=
  cW.run (am_in [2]) 2 (And.intro (Nat.le_of_ble_eq_true rfl) (h1))
theorem e_30
    (h1 : cW cd_30 d Q 2 [some (.ref 266), some (.int (0)), none] [] (mkH hi hl sw kp))
    : cS (d + 1) 30 [(.ref 266)] (mkH hi hl sw kp) Q := cS.of rfl (k_30_0 h1)
set_option maxRecDepth 100000 in
theorem k_30_2 {x1 : Int32} {o2 : Option Value}
    (h1 : (hi 266 11) ≤ x1 → Q (some (.int (1))) (mkH hi hl sw kp))
    (h2 : ¬ ((hi 266 11) ≤ x1) → vp_in x1 30)
    (h3 : ¬ ((hi 266 11) ≤ x1) → vp_in (hi 275 x1.toNatClampNeg) 30)
    (h4 : ¬ ((hi 266 11) ≤ x1) → vp_in (hi 268 (hi 275 x1.toNatClampNeg).toNatClampNeg) 4)
    (h5 : ¬ ((hi 266 11) ≤ x1) → vp_in (hi 270 (hi 275 x1.toNatClampNeg).toNatClampNeg) 4)
    (h6 : ¬ ((hi 266 11) ≤ x1) → (((hi 269 (hi 275 x1.toNatClampNeg).toNatClampNeg) * (hi 276 (hi 268 (hi 275 x1.toNatClampNeg).toNatClampNeg).toNatClampNeg)) + ((hi 271 (hi 275 x1.toNatClampNeg).toNatClampNeg) * (hi 276 (hi 270 (hi 275 x1.toNatClampNeg).toNatClampNeg).toNatClampNeg))) = (hi 272 (hi 275 x1.toNatClampNeg).toNatClampNeg) → cW cd_30 d Q 2 [some (.ref 266), some (.int (x1 + (1))), some (.int (hi 275 x1.toNatClampNeg))] [] (mkH hi hl sw kp))
    (h7 : ¬ ((hi 266 11) ≤ x1) → ¬ ((((hi 269 (hi 275 x1.toNatClampNeg).toNatClampNeg) * (hi 276 (hi 268 (hi 275 x1.toNatClampNeg).toNatClampNeg).toNatClampNeg)) + ((hi 271 (hi 275 x1.toNatClampNeg).toNatClampNeg) * (hi 276 (hi 270 (hi 275 x1.toNatClampNeg).toNatClampNeg).toNatClampNeg))) = (hi 272 (hi 275 x1.toNatClampNeg).toNatClampNeg)) → Q (some (.int (0))) (mkH hi hl sw kp))
    : cW cd_30 d Q 2 [some (.ref 266), some (.int x1), o2] [] (mkH hi hl sw kp) :=
  cW.run (am_in [2]) 41 (And.intro (fun c1 => (And.intro (Or.inr rfl) (cQ.of (h1 c1)))) (fun c2 => (And.intro (h2 c2) (And.intro (Nat.le_of_ble_eq_true rfl) (And.intro (h3 c2) (And.intro (h3 c2) (And.intro (h4 c2) (And.intro (h3 c2) (And.intro (h3 c2) (And.intro (h5 c2) (And.intro (h3 c2) (And.intro (fun c3 => (And.intro (Nat.le_of_ble_eq_true rfl) (h6 c2 c3))) (fun c4 => (And.intro (Or.inl rfl) (cQ.of (h7 c2 c4))))))))))))))))
-- 31: DogDecrees$Ledger.note(I)V
set_option maxRecDepth 100000 in
theorem k_31_0 {x1 : Int32}
    (h1 : cW cd_31 d Q 2 [some (.ref 266), some (.int x1), some (.int (0))] [] (mkH hi hl sw kp))
    : cW cd_31 d Q 0 [some (.ref 266), some (.int x1), none] [] (mkH hi hl sw kp) :=
  cW.run (am_in [2]) 2 (And.intro (Nat.le_of_ble_eq_true rfl) (h1))
theorem e_31 {x1 : Int32}
    (h1 : cW cd_31 d Q 2 [some (.ref 266), some (.int x1), some (.int (0))] [] (mkH hi hl sw kp))
    : cS (d + 1) 31 [(.ref 266), (.int x1)] (mkH hi hl sw kp) Q := cS.of rfl (k_31_0 h1)
set_option maxRecDepth 100000 in
theorem k_31_2 {x1 : Int32} {x2 : Int32}
    (h1 : x1 ≤ x2 → Q none (mkH hi hl sw kp))
    (h2 : ¬ (x1 ≤ x2) → vp_in x2 4)
    (h3 : ¬ (x1 ≤ x2) → vp_in (((x2 * (7)) + (hi 276 x2.toNatClampNeg)) + (3)) 28)
    (h4 : ¬ (x1 ≤ x2) → cW cd_31 d Q 2 [some (.ref 266), some (.int x1), some (.int (x2 + (1)))] [] (mkH (u2 hi 277 (((x2 * (7)) + (hi 276 x2.toNatClampNeg)) + (3)).toNatClampNeg ((hi 277 (((x2 * (7)) + (hi 276 x2.toNatClampNeg)) + (3)).toNatClampNeg) + (1))) hl sw kp))
    : cW cd_31 d Q 2 [some (.ref 266), some (.int x1), some (.int x2)] [] (mkH hi hl sw kp) :=
  cW.run (am_in [2]) 22 (And.intro (fun c1 => (cQ.of (h1 c1))) (fun c2 => (And.intro (h2 c2) (And.intro rfl (And.intro rfl (And.intro (h3 c2) (And.intro (h3 c2) (And.intro (Nat.le_of_ble_eq_true rfl) (h4 c2)))))))))
-- 32: DogDecrees$Ledger.turnOn(I)V
set_option maxRecDepth 100000 in
theorem k_32_0 {x1 : Int32}
    (h1 : cW cd_32 d Q 2 [some (.ref 266), some (.int x1), some (.int (0))] [] (mkH hi hl sw kp))
    : cW cd_32 d Q 0 [some (.ref 266), some (.int x1), none] [] (mkH hi hl sw kp) :=
  cW.run (am_in [2]) 2 (And.intro (Nat.le_of_ble_eq_true rfl) (h1))
theorem e_32 {x1 : Int32}
    (h1 : cW cd_32 d Q 2 [some (.ref 266), some (.int x1), some (.int (0))] [] (mkH hi hl sw kp))
    : cS (d + 1) 32 [(.ref 266), (.int x1)] (mkH hi hl sw kp) Q := cS.of rfl (k_32_0 h1)
set_option maxRecDepth 100000 in
theorem k_32_2 {x1 : Int32} {x2 : Int32}
    (h1 : x1 ≤ x2 → Q none (mkH hi hl sw kp))
    (h2 : ¬ (x1 ≤ x2) → vp_in x2 4)
    (h3 : ¬ (x1 ≤ x2) → (3) ≤ (hi 276 x2.toNatClampNeg) → cW cd_32 d Q 2 [some (.ref 266), some (.int x1), some (.int (x2 + (1)))] [] (mkH (u2 hi 276 x2.toNatClampNeg (-3)) hl sw kp))
    (h4 : ¬ (x1 ≤ x2) → ¬ ((3) ≤ (hi 276 x2.toNatClampNeg)) → Q none (mkH (u2 hi 276 x2.toNatClampNeg ((hi 276 x2.toNatClampNeg) + (1))) hl sw kp))
    : cW cd_32 d Q 2 [some (.ref 266), some (.int x1), some (.int x2)] [] (mkH hi hl sw kp) :=
  cW.run (am_in [2]) 18 (And.intro (fun c1 => (cQ.of (h1 c1))) (fun c2 => (And.intro (h2 c2) (And.intro (fun c3 => (And.intro (h2 c2) (And.intro (Nat.le_of_ble_eq_true rfl) (h3 c2 c3)))) (fun c4 => (And.intro rfl (And.intro rfl (And.intro (h2 c2) (And.intro (h2 c2) (cQ.of (h4 c2 c4)))))))))))
-- 35: DogDecrees$Ledger.leftBy(II)I
set_option maxRecDepth 100000 in
theorem k_35_0 {x1 : Int32} {x2 : Int32}
    (h1 : x1 < 0 → Q (some (.int (0))) (mkH hi hl sw kp))
    (h2 : ¬ (x1 < 0) → (4) ≤ x1 → Q (some (.int (0))) (mkH hi hl sw kp))
    (h3 : ¬ (x1 < 0) → ¬ ((4) ≤ x1) → x2 < 0 → Q (some (.int (0))) (mkH hi hl sw kp))
    (h4 : ¬ (x1 < 0) → ¬ ((4) ≤ x1) → ¬ (x2 < 0) → x2 < (7) → vp_in ((x1 * (7)) + x2) 28)
    (h5 : ¬ (x1 < 0) → ¬ ((4) ≤ x1) → ¬ (x2 < 0) → x2 < (7) → Q (some (.int (hi 277 ((x1 * (7)) + x2).toNatClampNeg))) (mkH hi hl sw kp))
    (h6 : ¬ (x1 < 0) → ¬ ((4) ≤ x1) → ¬ (x2 < 0) → ¬ (x2 < (7)) → Q (some (.int (0))) (mkH hi hl sw kp))
    : cW cd_35 d Q 0 [some (.ref 266), some (.int x1), some (.int x2)] [] (mkH hi hl sw kp) :=
  cW.run (am_in []) 19 (And.intro (fun c1 => (cQ.of (h1 c1))) (fun c2 => (And.intro (fun c3 => (cQ.of (h2 c2 c3))) (fun c4 => (And.intro (fun c5 => (cQ.of (h3 c2 c4 c5))) (fun c6 => (And.intro (fun c7 => (And.intro (h4 c2 c4 c6 c7) (cQ.of (h5 c2 c4 c6 c7)))) (fun c8 => (cQ.of (h6 c2 c4 c6 c8))))))))))
theorem e_35 {x1 : Int32} {x2 : Int32}
    (h1 : x1 < 0 → Q (some (.int (0))) (mkH hi hl sw kp))
    (h2 : ¬ (x1 < 0) → (4) ≤ x1 → Q (some (.int (0))) (mkH hi hl sw kp))
    (h3 : ¬ (x1 < 0) → ¬ ((4) ≤ x1) → x2 < 0 → Q (some (.int (0))) (mkH hi hl sw kp))
    (h4 : ¬ (x1 < 0) → ¬ ((4) ≤ x1) → ¬ (x2 < 0) → x2 < (7) → vp_in ((x1 * (7)) + x2) 28)
    (h5 : ¬ (x1 < 0) → ¬ ((4) ≤ x1) → ¬ (x2 < 0) → x2 < (7) → Q (some (.int (hi 277 ((x1 * (7)) + x2).toNatClampNeg))) (mkH hi hl sw kp))
    (h6 : ¬ (x1 < 0) → ¬ ((4) ≤ x1) → ¬ (x2 < 0) → ¬ (x2 < (7)) → Q (some (.int (0))) (mkH hi hl sw kp))
    : cS (d + 1) 35 [(.ref 266), (.int x1), (.int x2)] (mkH hi hl sw kp) Q := cS.of rfl (k_35_0 h1 h2 h3 h4 h5 h6)
def g_35 (hi : Nat → Nat → Int32) (x1 : Int32) (x2 : Int32) : Int32 := if x1 < 0 then (0) else (if (4) ≤ x1 then (0) else (if x2 < 0 then (0) else (if x2 < (7) then (hi 277 ((x1 * (7)) + x2).toNatClampNeg) else ((0)))))
set_option maxRecDepth 100000 in
theorem s_35 {x1 : Int32} {x2 : Int32} (o1 : ¬ (x1 < 0) → ¬ ((4) ≤ x1) → ¬ (x2 < 0) → x2 < (7) → vp_in ((x1 * (7)) + x2) 28) (w : Q (some (.int (g_35 hi x1 x2))) (mkH hi hl sw kp)) : cS (d + 1) 35 [(.ref 266), (.int x1), (.int x2)] (mkH hi hl sw kp) Q :=
  e_35 (fun c1 => by
      have e : g_35 hi x1 x2 = (0) := by
        unfold g_35
        rw [if_pos c1]
      rw [e] at w
      exact w) (fun c2 c3 => by
      have e : g_35 hi x1 x2 = (0) := by
        unfold g_35
        rw [if_neg c2, if_pos c3]
      rw [e] at w
      exact w) (fun c2 c4 c5 => by
      have e : g_35 hi x1 x2 = (0) := by
        unfold g_35
        rw [if_neg c2, if_neg c4, if_pos c5]
      rw [e] at w
      exact w) o1 (fun c2 c4 c6 c7 => by
      have e : g_35 hi x1 x2 = (hi 277 ((x1 * (7)) + x2).toNatClampNeg) := by
        unfold g_35
        rw [if_neg c2, if_neg c4, if_neg c6, if_pos c7]
      rw [e] at w
      exact w) (fun c2 c4 c6 c8 => by
      have e : g_35 hi x1 x2 = (0) := by
        unfold g_35
        rw [if_neg c2, if_neg c4, if_neg c6, if_neg c8]
      rw [e] at w
      exact w)
-- 42: DogDecrees$Odds.pullAt(III)I
set_option maxRecDepth 100000 in
theorem k_42_0 {x1 : Int32} {x2 : Int32} {x3 : Int32}
    (h1 : vp_in x3 8)
    (h2 : (hi 257 x3.toNatClampNeg) < 0 → Q (some (.int (0))) (mkH hi hl sw kp))
    (h3 : ¬ ((hi 257 x3.toNatClampNeg) < 0) → (hi 257 x3.toNatClampNeg) ≤ (4) → x2 = x3 → vp_in ((((((x1 * (8)) + x3) * (5)) + (hi 257 x3.toNatClampNeg)) * (2)) + (1)) 640)
    (h4 : ¬ ((hi 257 x3.toNatClampNeg) < 0) → (hi 257 x3.toNatClampNeg) ≤ (4) → x2 = x3 → Q (some (.int (hi 258 ((((((x1 * (8)) + x3) * (5)) + (hi 257 x3.toNatClampNeg)) * (2)) + (1)).toNatClampNeg))) (mkH hi hl sw kp))
    (h5 : ¬ ((hi 257 x3.toNatClampNeg) < 0) → (hi 257 x3.toNatClampNeg) ≤ (4) → ¬ (x2 = x3) → vp_in ((((((x1 * (8)) + x3) * (5)) + (hi 257 x3.toNatClampNeg)) * (2)) + (0)) 640)
    (h6 : ¬ ((hi 257 x3.toNatClampNeg) < 0) → (hi 257 x3.toNatClampNeg) ≤ (4) → ¬ (x2 = x3) → Q (some (.int (hi 258 ((((((x1 * (8)) + x3) * (5)) + (hi 257 x3.toNatClampNeg)) * (2)) + (0)).toNatClampNeg))) (mkH hi hl sw kp))
    (h7 : ¬ ((hi 257 x3.toNatClampNeg) < 0) → ¬ ((hi 257 x3.toNatClampNeg) ≤ (4)) → Q (some (.int (0))) (mkH hi hl sw kp))
    : cW cd_42 d Q 0 [some (.ref 256), some (.int x1), some (.int x2), some (.int x3), none] [] (mkH hi hl sw kp) :=
  cW.run (am_in []) 31 (And.intro (h1) (And.intro (Nat.le_of_ble_eq_true rfl) (And.intro (fun c1 => (cQ.of (h2 c1))) (fun c2 => (And.intro (fun c3 => (And.intro (fun c4 => (And.intro (h3 c2 c3 c4) (cQ.of (h4 c2 c3 c4)))) (fun c5 => (And.intro (h5 c2 c3 c5) (cQ.of (h6 c2 c3 c5)))))) (fun c6 => (cQ.of (h7 c2 c6))))))))
theorem e_42 {x1 : Int32} {x2 : Int32} {x3 : Int32}
    (h1 : vp_in x3 8)
    (h2 : (hi 257 x3.toNatClampNeg) < 0 → Q (some (.int (0))) (mkH hi hl sw kp))
    (h3 : ¬ ((hi 257 x3.toNatClampNeg) < 0) → (hi 257 x3.toNatClampNeg) ≤ (4) → x2 = x3 → vp_in ((((((x1 * (8)) + x3) * (5)) + (hi 257 x3.toNatClampNeg)) * (2)) + (1)) 640)
    (h4 : ¬ ((hi 257 x3.toNatClampNeg) < 0) → (hi 257 x3.toNatClampNeg) ≤ (4) → x2 = x3 → Q (some (.int (hi 258 ((((((x1 * (8)) + x3) * (5)) + (hi 257 x3.toNatClampNeg)) * (2)) + (1)).toNatClampNeg))) (mkH hi hl sw kp))
    (h5 : ¬ ((hi 257 x3.toNatClampNeg) < 0) → (hi 257 x3.toNatClampNeg) ≤ (4) → ¬ (x2 = x3) → vp_in ((((((x1 * (8)) + x3) * (5)) + (hi 257 x3.toNatClampNeg)) * (2)) + (0)) 640)
    (h6 : ¬ ((hi 257 x3.toNatClampNeg) < 0) → (hi 257 x3.toNatClampNeg) ≤ (4) → ¬ (x2 = x3) → Q (some (.int (hi 258 ((((((x1 * (8)) + x3) * (5)) + (hi 257 x3.toNatClampNeg)) * (2)) + (0)).toNatClampNeg))) (mkH hi hl sw kp))
    (h7 : ¬ ((hi 257 x3.toNatClampNeg) < 0) → ¬ ((hi 257 x3.toNatClampNeg) ≤ (4)) → Q (some (.int (0))) (mkH hi hl sw kp))
    : cS (d + 1) 42 [(.ref 256), (.int x1), (.int x2), (.int x3)] (mkH hi hl sw kp) Q := cS.of rfl (k_42_0 h1 h2 h3 h4 h5 h6 h7)
def g_42 (hi : Nat → Nat → Int32) (x1 : Int32) (x2 : Int32) (x3 : Int32) : Int32 := if (hi 257 x3.toNatClampNeg) < 0 then (0) else (if (hi 257 x3.toNatClampNeg) ≤ (4) then if x2 = x3 then (hi 258 ((((((x1 * (8)) + x3) * (5)) + (hi 257 x3.toNatClampNeg)) * (2)) + (1)).toNatClampNeg) else ((hi 258 ((((((x1 * (8)) + x3) * (5)) + (hi 257 x3.toNatClampNeg)) * (2)) + (0)).toNatClampNeg)) else ((0)))
set_option maxRecDepth 100000 in
theorem s_42 {x1 : Int32} {x2 : Int32} {x3 : Int32} (o1 : vp_in x3 8) (o2 : ¬ ((hi 257 x3.toNatClampNeg) < 0) → (hi 257 x3.toNatClampNeg) ≤ (4) → x2 = x3 → vp_in ((((((x1 * (8)) + x3) * (5)) + (hi 257 x3.toNatClampNeg)) * (2)) + (1)) 640) (o3 : ¬ ((hi 257 x3.toNatClampNeg) < 0) → (hi 257 x3.toNatClampNeg) ≤ (4) → ¬ (x2 = x3) → vp_in ((((((x1 * (8)) + x3) * (5)) + (hi 257 x3.toNatClampNeg)) * (2)) + (0)) 640) (w : Q (some (.int (g_42 hi x1 x2 x3))) (mkH hi hl sw kp)) : cS (d + 1) 42 [(.ref 256), (.int x1), (.int x2), (.int x3)] (mkH hi hl sw kp) Q :=
  e_42 o1 (fun c1 => by
      have e : g_42 hi x1 x2 x3 = (0) := by
        unfold g_42
        rw [if_pos c1]
      rw [e] at w
      exact w) o2 (fun c2 c3 c4 => by
      have e : g_42 hi x1 x2 x3 = (hi 258 ((((((x1 * (8)) + x3) * (5)) + (hi 257 x3.toNatClampNeg)) * (2)) + (1)).toNatClampNeg) := by
        unfold g_42
        rw [if_neg c2, if_pos c3, if_pos c4]
      rw [e] at w
      exact w) o3 (fun c2 c3 c5 => by
      have e : g_42 hi x1 x2 x3 = (hi 258 ((((((x1 * (8)) + x3) * (5)) + (hi 257 x3.toNatClampNeg)) * (2)) + (0)).toNatClampNeg) := by
        unfold g_42
        rw [if_neg c2, if_pos c3, if_neg c5]
      rw [e] at w
      exact w) (fun c2 c6 => by
      have e : g_42 hi x1 x2 x3 = (0) := by
        unfold g_42
        rw [if_neg c2, if_neg c6]
      rw [e] at w
      exact w)
-- 53f: DogDecrees$Odds.moveOne(IIIII)J
set_option maxRecDepth 100000 in
theorem k_53f_0 {x1 : Int32} {x2 : Int32} {x3 : Int32} {x4 : Int32} {x5 : Int32}
    (h1 : cW cd_53 d Q 30 [some (.ref 256), some (.int x1), some (.int x2), some (.int x3), some (.int x4), some (.int x5), some (.int ((x1 * (31)) + (15))), some (.int (((x2 * (31)) + (15)) + x4)), some (.long 0), none, some (.int (hi 256 13)), none, none] [] (mkH hi hl false kp))
    : cW cd_53 d Q 0 [some (.ref 256), some (.int x1), some (.int x2), some (.int x3), some (.int x4), some (.int x5), none, none, none, none, none, none, none] [] (mkH hi hl false kp) :=
  cW.run (am_in [30]) 19 (And.intro (Nat.le_of_ble_eq_true rfl) (And.intro (Nat.le_of_ble_eq_true rfl) (And.intro (Nat.le_of_ble_eq_true rfl) (And.intro (Nat.le_of_ble_eq_true rfl) (h1)))))
theorem e_53f {x1 : Int32} {x2 : Int32} {x3 : Int32} {x4 : Int32} {x5 : Int32}
    (h1 : cW cd_53 d Q 30 [some (.ref 256), some (.int x1), some (.int x2), some (.int x3), some (.int x4), some (.int x5), some (.int ((x1 * (31)) + (15))), some (.int (((x2 * (31)) + (15)) + x4)), some (.long 0), none, some (.int (hi 256 13)), none, none] [] (mkH hi hl false kp))
    : cS (d + 1) 53 [(.ref 256), (.int x1), (.int x2), (.int x3), (.int x4), (.int x5)] (mkH hi hl false kp) Q := cS.of rfl (k_53f_0 h1)
set_option maxRecDepth 100000 in
theorem k_53f_30 {x1 : Int32} {x2 : Int32} {x3 : Int32} {x4 : Int32} {x5 : Int32} {x6 : Int32} {x7 : Int32} {x8 : Int64} {x10 : Int32} {o11 : Option Value}
    (h1 : (hi 256 14) < x10 → Q (some (.long x8)) (mkH hi hl false kp))
    (h2 : ¬ ((hi 256 14) < x10) → vp_in (x6 + x10) 248)
    (h3 : ¬ ((hi 256 14) < x10) → (lg_cmp (hl 261 (x6 + x10).toNatClampNeg) 0) = 0 → cW cd_53 d Q 30 [some (.ref 256), some (.int x1), some (.int x2), some (.int x3), some (.int x4), some (.int x5), some (.int x6), some (.int x7), some (.long x8), none, some (.int (x10 + (1))), some (.long (hl 261 (x6 + x10).toNatClampNeg)), none] [] (mkH hi hl false kp))
    (h4 : ¬ ((hi 256 14) < x10) → ¬ ((lg_cmp (hl 261 (x6 + x10).toNatClampNeg) 0) = 0) → (x10 + x4) < x5 → (x10 + x4) ≤ (-x5) → cW cd_53 d Q 30 [some (.ref 256), some (.int x1), some (.int x2), some (.int x3), some (.int x4), some (.int x5), some (.int x6), some (.int x7), some (.long x8), none, some (.int (x10 + (1))), some (.long (hl 261 (x6 + x10).toNatClampNeg)), none] [] (mkH hi hl false kp))
    (h5 : ¬ ((hi 256 14) < x10) → ¬ ((lg_cmp (hl 261 (x6 + x10).toNatClampNeg) 0) = 0) → (x10 + x4) < x5 → ¬ ((x10 + x4) ≤ (-x5)) → vp_in (x7 + x10) 248)
    (h6 : ¬ ((hi 256 14) < x10) → ¬ ((lg_cmp (hl 261 (x6 + x10).toNatClampNeg) 0) = 0) → (x10 + x4) < x5 → ¬ ((x10 + x4) ≤ (-x5)) → cW cd_53 d Q 30 [some (.ref 256), some (.int x1), some (.int x2), some (.int x3), some (.int x4), some (.int x5), some (.int x6), some (.int x7), some (.long x8), none, some (.int (x10 + (1))), some (.long (hl 261 (x6 + x10).toNatClampNeg)), none] [] (mkH hi (u2 hl 262 (x7 + x10).toNatClampNeg ((hl 262 (x7 + x10).toNatClampNeg) + ((hl 261 (x6 + x10).toNatClampNeg) * x3.toInt64))) false kp))
    (h7 : ¬ ((hi 256 14) < x10) → ¬ ((lg_cmp (hl 261 (x6 + x10).toNatClampNeg) 0) = 0) → ¬ ((x10 + x4) < x5) → cW cd_53 d Q 30 [some (.ref 256), some (.int x1), some (.int x2), some (.int x3), some (.int x4), some (.int x5), some (.int x6), some (.int x7), some (.long (x8 + ((hl 261 (x6 + x10).toNatClampNeg) * x3.toInt64))), none, some (.int (x10 + (1))), some (.long (hl 261 (x6 + x10).toNatClampNeg)), none] [] (mkH hi hl false kp))
    : cW cd_53 d Q 30 [some (.ref 256), some (.int x1), some (.int x2), some (.int x3), some (.int x4), some (.int x5), some (.int x6), some (.int x7), some (.long x8), none, some (.int x10), o11, none] [] (mkH hi hl false kp) :=
  cW.run (am_in [30]) 41 (And.intro (fun c1 => (cQ.of (h1 c1))) (fun c2 => (And.intro (h2 c2) (And.intro (Nat.le_of_ble_eq_true rfl) (And.intro (fun c3 => (And.intro (Nat.le_of_ble_eq_true rfl) (h3 c2 c3))) (fun c4 => (And.intro (fun c5 => (And.intro (fun c6 => (And.intro (Nat.le_of_ble_eq_true rfl) (h4 c2 c4 c5 c6))) (fun c7 => (And.intro rfl (And.intro rfl (And.intro (h5 c2 c4 c5 c7) (And.intro (h5 c2 c4 c5 c7) (And.intro (Nat.le_of_ble_eq_true rfl) (h6 c2 c4 c5 c7))))))))) (fun c8 => (And.intro (Nat.le_of_ble_eq_true rfl) (And.intro (Nat.le_of_ble_eq_true rfl) (h7 c2 c4 c8)))))))))))
-- 53t: DogDecrees$Odds.moveOne(IIIII)J
set_option maxRecDepth 100000 in
theorem k_53t_0 {x1 : Int32} {x2 : Int32} {x3 : Int32} {x4 : Int32} {x5 : Int32}
    (h1 : cW cd_53 d Q 30 [some (.ref 256), some (.int x1), some (.int x2), some (.int x3), some (.int x4), some (.int x5), some (.int ((x1 * (31)) + (15))), some (.int (((x2 * (31)) + (15)) + x4)), some (.long 0), none, some (.int (hi 256 13)), none, none] [] (mkH hi hl true kp))
    : cW cd_53 d Q 0 [some (.ref 256), some (.int x1), some (.int x2), some (.int x3), some (.int x4), some (.int x5), none, none, none, none, none, none, none] [] (mkH hi hl true kp) :=
  cW.run (am_in [30]) 19 (And.intro (Nat.le_of_ble_eq_true rfl) (And.intro (Nat.le_of_ble_eq_true rfl) (And.intro (Nat.le_of_ble_eq_true rfl) (And.intro (Nat.le_of_ble_eq_true rfl) (h1)))))
theorem e_53t {x1 : Int32} {x2 : Int32} {x3 : Int32} {x4 : Int32} {x5 : Int32}
    (h1 : cW cd_53 d Q 30 [some (.ref 256), some (.int x1), some (.int x2), some (.int x3), some (.int x4), some (.int x5), some (.int ((x1 * (31)) + (15))), some (.int (((x2 * (31)) + (15)) + x4)), some (.long 0), none, some (.int (hi 256 13)), none, none] [] (mkH hi hl true kp))
    : cS (d + 1) 53 [(.ref 256), (.int x1), (.int x2), (.int x3), (.int x4), (.int x5)] (mkH hi hl true kp) Q := cS.of rfl (k_53t_0 h1)
set_option maxRecDepth 100000 in
theorem k_53t_30 {x1 : Int32} {x2 : Int32} {x3 : Int32} {x4 : Int32} {x5 : Int32} {x6 : Int32} {x7 : Int32} {x8 : Int64} {x10 : Int32} {o11 : Option Value}
    (h1 : (hi 256 14) < x10 → Q (some (.long x8)) (mkH hi hl true kp))
    (h2 : ¬ ((hi 256 14) < x10) → vp_in (x6 + x10) 248)
    (h3 : ¬ ((hi 256 14) < x10) → (lg_cmp (hl 262 (x6 + x10).toNatClampNeg) 0) = 0 → cW cd_53 d Q 30 [some (.ref 256), some (.int x1), some (.int x2), some (.int x3), some (.int x4), some (.int x5), some (.int x6), some (.int x7), some (.long x8), none, some (.int (x10 + (1))), some (.long (hl 262 (x6 + x10).toNatClampNeg)), none] [] (mkH hi hl true kp))
    (h4 : ¬ ((hi 256 14) < x10) → ¬ ((lg_cmp (hl 262 (x6 + x10).toNatClampNeg) 0) = 0) → (x10 + x4) < x5 → (x10 + x4) ≤ (-x5) → cW cd_53 d Q 30 [some (.ref 256), some (.int x1), some (.int x2), some (.int x3), some (.int x4), some (.int x5), some (.int x6), some (.int x7), some (.long x8), none, some (.int (x10 + (1))), some (.long (hl 262 (x6 + x10).toNatClampNeg)), none] [] (mkH hi hl true kp))
    (h5 : ¬ ((hi 256 14) < x10) → ¬ ((lg_cmp (hl 262 (x6 + x10).toNatClampNeg) 0) = 0) → (x10 + x4) < x5 → ¬ ((x10 + x4) ≤ (-x5)) → vp_in (x7 + x10) 248)
    (h6 : ¬ ((hi 256 14) < x10) → ¬ ((lg_cmp (hl 262 (x6 + x10).toNatClampNeg) 0) = 0) → (x10 + x4) < x5 → ¬ ((x10 + x4) ≤ (-x5)) → cW cd_53 d Q 30 [some (.ref 256), some (.int x1), some (.int x2), some (.int x3), some (.int x4), some (.int x5), some (.int x6), some (.int x7), some (.long x8), none, some (.int (x10 + (1))), some (.long (hl 262 (x6 + x10).toNatClampNeg)), none] [] (mkH hi (u2 hl 261 (x7 + x10).toNatClampNeg ((hl 261 (x7 + x10).toNatClampNeg) + ((hl 262 (x6 + x10).toNatClampNeg) * x3.toInt64))) true kp))
    (h7 : ¬ ((hi 256 14) < x10) → ¬ ((lg_cmp (hl 262 (x6 + x10).toNatClampNeg) 0) = 0) → ¬ ((x10 + x4) < x5) → cW cd_53 d Q 30 [some (.ref 256), some (.int x1), some (.int x2), some (.int x3), some (.int x4), some (.int x5), some (.int x6), some (.int x7), some (.long (x8 + ((hl 262 (x6 + x10).toNatClampNeg) * x3.toInt64))), none, some (.int (x10 + (1))), some (.long (hl 262 (x6 + x10).toNatClampNeg)), none] [] (mkH hi hl true kp))
    : cW cd_53 d Q 30 [some (.ref 256), some (.int x1), some (.int x2), some (.int x3), some (.int x4), some (.int x5), some (.int x6), some (.int x7), some (.long x8), none, some (.int x10), o11, none] [] (mkH hi hl true kp) :=
  cW.run (am_in [30]) 41 (And.intro (fun c1 => (cQ.of (h1 c1))) (fun c2 => (And.intro (h2 c2) (And.intro (Nat.le_of_ble_eq_true rfl) (And.intro (fun c3 => (And.intro (Nat.le_of_ble_eq_true rfl) (h3 c2 c3))) (fun c4 => (And.intro (fun c5 => (And.intro (fun c6 => (And.intro (Nat.le_of_ble_eq_true rfl) (h4 c2 c4 c5 c6))) (fun c7 => (And.intro rfl (And.intro rfl (And.intro (h5 c2 c4 c5 c7) (And.intro (h5 c2 c4 c5 c7) (And.intro (Nat.le_of_ble_eq_true rfl) (h6 c2 c4 c5 c7))))))))) (fun c8 => (And.intro (Nat.le_of_ble_eq_true rfl) (And.intro (Nat.le_of_ble_eq_true rfl) (h7 c2 c4 c8)))))))))))
-- 63: DogDecrees$PullTelling.isTimes(I)Z
set_option maxRecDepth 100000 in
theorem k_63_0 {x0 : Int32}
    (h1 : x0 = (42) → Q (some (.int (1))) (mkH hi hl sw kp))
    (h2 : ¬ (x0 = (42)) → x0 = (47) → Q (some (.int (1))) (mkH hi hl sw kp))
    (h3 : ¬ (x0 = (42)) → ¬ (x0 = (47)) → x0 = (37) → Q (some (.int (1))) (mkH hi hl sw kp))
    (h4 : ¬ (x0 = (42)) → ¬ (x0 = (47)) → ¬ (x0 = (37)) → Q (some (.int (0))) (mkH hi hl sw kp))
    : cW cd_63 d Q 0 [some (.int x0)] [] (mkH hi hl sw kp) :=
  cW.run (am_in []) 12 (And.intro (fun c1 => (And.intro (Or.inr rfl) (cQ.of (h1 c1)))) (fun c2 => (And.intro (fun c3 => (And.intro (Or.inr rfl) (cQ.of (h2 c2 c3)))) (fun c4 => (And.intro (fun c5 => (And.intro (Or.inr rfl) (cQ.of (h3 c2 c4 c5)))) (fun c6 => (And.intro (Or.inl rfl) (cQ.of (h4 c2 c4 c6)))))))))
theorem e_63 {x0 : Int32}
    (h1 : x0 = (42) → Q (some (.int (1))) (mkH hi hl sw kp))
    (h2 : ¬ (x0 = (42)) → x0 = (47) → Q (some (.int (1))) (mkH hi hl sw kp))
    (h3 : ¬ (x0 = (42)) → ¬ (x0 = (47)) → x0 = (37) → Q (some (.int (1))) (mkH hi hl sw kp))
    (h4 : ¬ (x0 = (42)) → ¬ (x0 = (47)) → ¬ (x0 = (37)) → Q (some (.int (0))) (mkH hi hl sw kp))
    : cS (d + 1) 63 [(.int x0)] (mkH hi hl sw kp) Q := cS.of rfl (k_63_0 h1 h2 h3 h4)
def g_63 (x0 : Int32) : Int32 := if x0 = (42) then (1) else (if x0 = (47) then (1) else (if x0 = (37) then (1) else ((0))))
theorem g_63_01 (x0 : Int32) : g_63 x0 = 0 ∨ g_63 x0 = 1 := by
  unfold g_63
  exact (ite01 (Or.inr rfl) (ite01 (Or.inr rfl) (ite01 (Or.inr rfl) (Or.inl rfl))))
set_option maxRecDepth 100000 in
theorem s_63 {x0 : Int32} (w : Q (some (.int (g_63 x0))) (mkH hi hl sw kp)) : cS (d + 1) 63 [(.int x0)] (mkH hi hl sw kp) Q :=
  e_63 (fun c1 => by
      have e : g_63 x0 = (1) := by
        unfold g_63
        rw [if_pos c1]
      rw [e] at w
      exact w) (fun c2 c3 => by
      have e : g_63 x0 = (1) := by
        unfold g_63
        rw [if_neg c2, if_pos c3]
      rw [e] at w
      exact w) (fun c2 c4 c5 => by
      have e : g_63 x0 = (1) := by
        unfold g_63
        rw [if_neg c2, if_neg c4, if_pos c5]
      rw [e] at w
      exact w) (fun c2 c4 c6 => by
      have e : g_63 x0 = (0) := by
        unfold g_63
        rw [if_neg c2, if_neg c4, if_neg c6]
      rw [e] at w
      exact w)
-- 64: DogDecrees$PullTelling.isQuantity(I)Z
set_option maxRecDepth 100000 in
theorem k_64_0 {x0 : Int32}
    (h1 : x0 = (211) → Q (some (.int (1))) (mkH hi hl sw kp))
    (h2 : ¬ (x0 = (211)) → x0 = (218) → Q (some (.int (1))) (mkH hi hl sw kp))
    (h3 : ¬ (x0 = (211)) → ¬ (x0 = (218)) → x0 = (219) → Q (some (.int (1))) (mkH hi hl sw kp))
    (h4 : ¬ (x0 = (211)) → ¬ (x0 = (218)) → ¬ (x0 = (219)) → x0 = (209) → Q (some (.int (1))) (mkH hi hl sw kp))
    (h5 : ¬ (x0 = (211)) → ¬ (x0 = (218)) → ¬ (x0 = (219)) → ¬ (x0 = (209)) → x0 = (220) → Q (some (.int (1))) (mkH hi hl sw kp))
    (h6 : ¬ (x0 = (211)) → ¬ (x0 = (218)) → ¬ (x0 = (219)) → ¬ (x0 = (209)) → ¬ (x0 = (220)) → Q (some (.int (0))) (mkH hi hl sw kp))
    : cW cd_64 d Q 0 [some (.int x0)] [] (mkH hi hl sw kp) :=
  cW.run (am_in []) 18 (And.intro (fun c1 => (And.intro (Or.inr rfl) (cQ.of (h1 c1)))) (fun c2 => (And.intro (fun c3 => (And.intro (Or.inr rfl) (cQ.of (h2 c2 c3)))) (fun c4 => (And.intro (fun c5 => (And.intro (Or.inr rfl) (cQ.of (h3 c2 c4 c5)))) (fun c6 => (And.intro (fun c7 => (And.intro (Or.inr rfl) (cQ.of (h4 c2 c4 c6 c7)))) (fun c8 => (And.intro (fun c9 => (And.intro (Or.inr rfl) (cQ.of (h5 c2 c4 c6 c8 c9)))) (fun c10 => (And.intro (Or.inl rfl) (cQ.of (h6 c2 c4 c6 c8 c10)))))))))))))
theorem e_64 {x0 : Int32}
    (h1 : x0 = (211) → Q (some (.int (1))) (mkH hi hl sw kp))
    (h2 : ¬ (x0 = (211)) → x0 = (218) → Q (some (.int (1))) (mkH hi hl sw kp))
    (h3 : ¬ (x0 = (211)) → ¬ (x0 = (218)) → x0 = (219) → Q (some (.int (1))) (mkH hi hl sw kp))
    (h4 : ¬ (x0 = (211)) → ¬ (x0 = (218)) → ¬ (x0 = (219)) → x0 = (209) → Q (some (.int (1))) (mkH hi hl sw kp))
    (h5 : ¬ (x0 = (211)) → ¬ (x0 = (218)) → ¬ (x0 = (219)) → ¬ (x0 = (209)) → x0 = (220) → Q (some (.int (1))) (mkH hi hl sw kp))
    (h6 : ¬ (x0 = (211)) → ¬ (x0 = (218)) → ¬ (x0 = (219)) → ¬ (x0 = (209)) → ¬ (x0 = (220)) → Q (some (.int (0))) (mkH hi hl sw kp))
    : cS (d + 1) 64 [(.int x0)] (mkH hi hl sw kp) Q := cS.of rfl (k_64_0 h1 h2 h3 h4 h5 h6)
def g_64 (x0 : Int32) : Int32 := if x0 = (211) then (1) else (if x0 = (218) then (1) else (if x0 = (219) then (1) else (if x0 = (209) then (1) else (if x0 = (220) then (1) else ((0))))))
theorem g_64_01 (x0 : Int32) : g_64 x0 = 0 ∨ g_64 x0 = 1 := by
  unfold g_64
  exact (ite01 (Or.inr rfl) (ite01 (Or.inr rfl) (ite01 (Or.inr rfl) (ite01 (Or.inr rfl) (ite01 (Or.inr rfl) (Or.inl rfl))))))
set_option maxRecDepth 100000 in
theorem s_64 {x0 : Int32} (w : Q (some (.int (g_64 x0))) (mkH hi hl sw kp)) : cS (d + 1) 64 [(.int x0)] (mkH hi hl sw kp) Q :=
  e_64 (fun c1 => by
      have e : g_64 x0 = (1) := by
        unfold g_64
        rw [if_pos c1]
      rw [e] at w
      exact w) (fun c2 c3 => by
      have e : g_64 x0 = (1) := by
        unfold g_64
        rw [if_neg c2, if_pos c3]
      rw [e] at w
      exact w) (fun c2 c4 c5 => by
      have e : g_64 x0 = (1) := by
        unfold g_64
        rw [if_neg c2, if_neg c4, if_pos c5]
      rw [e] at w
      exact w) (fun c2 c4 c6 c7 => by
      have e : g_64 x0 = (1) := by
        unfold g_64
        rw [if_neg c2, if_neg c4, if_neg c6, if_pos c7]
      rw [e] at w
      exact w) (fun c2 c4 c6 c8 c9 => by
      have e : g_64 x0 = (1) := by
        unfold g_64
        rw [if_neg c2, if_neg c4, if_neg c6, if_neg c8, if_pos c9]
      rw [e] at w
      exact w) (fun c2 c4 c6 c8 c10 => by
      have e : g_64 x0 = (0) := by
        unfold g_64
        rw [if_neg c2, if_neg c4, if_neg c6, if_neg c8, if_neg c10]
      rw [e] at w
      exact w)
-- 70: DogDecrees$Reader.kindOfWord(J)I
set_option maxRecDepth 100000 in
theorem k_70_0 {x1 : Int64}
    (h1 : cW cd_70 d Q 2 [some (.ref 3), some (.long x1), none, some (.int (0))] [] (mkH hi hl sw kp))
    : cW cd_70 d Q 0 [some (.ref 3), some (.long x1), none, none] [] (mkH hi hl sw kp) :=
  cW.run (am_in [2]) 2 (And.intro (Nat.le_of_ble_eq_true rfl) (h1))
theorem e_70 {x1 : Int64}
    (h1 : cW cd_70 d Q 2 [some (.ref 3), some (.long x1), none, some (.int (0))] [] (mkH hi hl sw kp))
    : cS (d + 1) 70 [(.ref 3), (.long x1)] (mkH hi hl sw kp) Q := cS.of rfl (k_70_0 h1)
set_option maxRecDepth 100000 in
theorem k_70_2 {x1 : Int64} {x3 : Int32}
    (h1 : (21) ≤ x3 → Q (some (.int (2))) (mkH hi hl sw kp))
    (h2 : ¬ ((21) ≤ x3) → vp_in x3 21)
    (h3 : ¬ ((21) ≤ x3) → (lg_cmp (hl 4 x3.toNatClampNeg) x1) = 0 → Q (some (.int ((200) + x3))) (mkH hi hl sw kp))
    (h4 : ¬ ((21) ≤ x3) → ¬ ((lg_cmp (hl 4 x3.toNatClampNeg) x1) = 0) → cW cd_70 d Q 2 [some (.ref 3), some (.long x1), none, some (.int (x3 + (1)))] [] (mkH hi hl sw kp))
    : cW cd_70 d Q 2 [some (.ref 3), some (.long x1), none, some (.int x3)] [] (mkH hi hl sw kp) :=
  cW.run (am_in [2]) 14 (And.intro (fun c1 => (cQ.of (h1 c1))) (fun c2 => (And.intro (h2 c2) (And.intro (fun c3 => (cQ.of (h3 c2 c3))) (fun c4 => (And.intro (Nat.le_of_ble_eq_true rfl) (h4 c2 c4)))))))
-- 73: DogDecrees$Reader.refuseAt(II)Z
set_option maxRecDepth 100000 in
theorem k_73_0 {x1 : Int32} {x2 : Int32}
    (h1 : Q (some (.int (0))) (mkH (u2 (u2 hi 3 7 x1) 3 8 x2) hl sw kp))
    : cW cd_73 d Q 0 [some (.ref 3), some (.int x1), some (.int x2)] [] (mkH hi hl sw kp) :=
  cW.run (am_in []) 8 (And.intro (Or.inl rfl) (cQ.of (h1)))
theorem e_73 {x1 : Int32} {x2 : Int32}
    (h1 : Q (some (.int (0))) (mkH (u2 (u2 hi 3 7 x1) 3 8 x2) hl sw kp))
    : cS (d + 1) 73 [(.ref 3), (.int x1), (.int x2)] (mkH hi hl sw kp) Q := cS.of rfl (k_73_0 h1)
-- 74: DogDecrees$Reader.isBlank(I)Z
set_option maxRecDepth 100000 in
theorem k_74_0 {x0 : Int32}
    (h1 : x0 = (32) → Q (some (.int (1))) (mkH hi hl sw kp))
    (h2 : ¬ (x0 = (32)) → x0 = (10) → Q (some (.int (1))) (mkH hi hl sw kp))
    (h3 : ¬ (x0 = (32)) → ¬ (x0 = (10)) → Q (some (.int (0))) (mkH hi hl sw kp))
    : cW cd_74 d Q 0 [some (.int x0)] [] (mkH hi hl sw kp) :=
  cW.run (am_in []) 9 (And.intro (fun c1 => (And.intro (Or.inr rfl) (cQ.of (h1 c1)))) (fun c2 => (And.intro (fun c3 => (And.intro (Or.inr rfl) (cQ.of (h2 c2 c3)))) (fun c4 => (And.intro (Or.inl rfl) (cQ.of (h3 c2 c4)))))))
theorem e_74 {x0 : Int32}
    (h1 : x0 = (32) → Q (some (.int (1))) (mkH hi hl sw kp))
    (h2 : ¬ (x0 = (32)) → x0 = (10) → Q (some (.int (1))) (mkH hi hl sw kp))
    (h3 : ¬ (x0 = (32)) → ¬ (x0 = (10)) → Q (some (.int (0))) (mkH hi hl sw kp))
    : cS (d + 1) 74 [(.int x0)] (mkH hi hl sw kp) Q := cS.of rfl (k_74_0 h1 h2 h3)
def g_74 (x0 : Int32) : Int32 := if x0 = (32) then (1) else (if x0 = (10) then (1) else ((0)))
theorem g_74_01 (x0 : Int32) : g_74 x0 = 0 ∨ g_74 x0 = 1 := by
  unfold g_74
  exact (ite01 (Or.inr rfl) (ite01 (Or.inr rfl) (Or.inl rfl)))
set_option maxRecDepth 100000 in
theorem s_74 {x0 : Int32} (w : Q (some (.int (g_74 x0))) (mkH hi hl sw kp)) : cS (d + 1) 74 [(.int x0)] (mkH hi hl sw kp) Q :=
  e_74 (fun c1 => by
      have e : g_74 x0 = (1) := by
        unfold g_74
        rw [if_pos c1]
      rw [e] at w
      exact w) (fun c2 c3 => by
      have e : g_74 x0 = (1) := by
        unfold g_74
        rw [if_neg c2, if_pos c3]
      rw [e] at w
      exact w) (fun c2 c4 => by
      have e : g_74 x0 = (0) := by
        unfold g_74
        rw [if_neg c2, if_neg c4]
      rw [e] at w
      exact w)
-- 75: DogDecrees$Reader.isLetter(I)Z
set_option maxRecDepth 100000 in
theorem k_75_0 {x0 : Int32}
    (h1 : x0 < (97) → Q (some (.int (0))) (mkH hi hl sw kp))
    (h2 : ¬ (x0 < (97)) → (122) < x0 → Q (some (.int (0))) (mkH hi hl sw kp))
    (h3 : ¬ (x0 < (97)) → ¬ ((122) < x0) → Q (some (.int (1))) (mkH hi hl sw kp))
    : cW cd_75 d Q 0 [some (.int x0)] [] (mkH hi hl sw kp) :=
  cW.run (am_in []) 9 (And.intro (fun c1 => (And.intro (Or.inl rfl) (cQ.of (h1 c1)))) (fun c2 => (And.intro (fun c3 => (And.intro (Or.inl rfl) (cQ.of (h2 c2 c3)))) (fun c4 => (And.intro (Or.inr rfl) (cQ.of (h3 c2 c4)))))))
theorem e_75 {x0 : Int32}
    (h1 : x0 < (97) → Q (some (.int (0))) (mkH hi hl sw kp))
    (h2 : ¬ (x0 < (97)) → (122) < x0 → Q (some (.int (0))) (mkH hi hl sw kp))
    (h3 : ¬ (x0 < (97)) → ¬ ((122) < x0) → Q (some (.int (1))) (mkH hi hl sw kp))
    : cS (d + 1) 75 [(.int x0)] (mkH hi hl sw kp) Q := cS.of rfl (k_75_0 h1 h2 h3)
def g_75 (x0 : Int32) : Int32 := if x0 < (97) then (0) else (if (122) < x0 then (0) else ((1)))
theorem g_75_01 (x0 : Int32) : g_75 x0 = 0 ∨ g_75 x0 = 1 := by
  unfold g_75
  exact (ite01 (Or.inl rfl) (ite01 (Or.inl rfl) (Or.inr rfl)))
set_option maxRecDepth 100000 in
theorem s_75 {x0 : Int32} (w : Q (some (.int (g_75 x0))) (mkH hi hl sw kp)) : cS (d + 1) 75 [(.int x0)] (mkH hi hl sw kp) Q :=
  e_75 (fun c1 => by
      have e : g_75 x0 = (0) := by
        unfold g_75
        rw [if_pos c1]
      rw [e] at w
      exact w) (fun c2 c3 => by
      have e : g_75 x0 = (0) := by
        unfold g_75
        rw [if_neg c2, if_pos c3]
      rw [e] at w
      exact w) (fun c2 c4 => by
      have e : g_75 x0 = (1) := by
        unfold g_75
        rw [if_neg c2, if_neg c4]
      rw [e] at w
      exact w)
-- 76: DogDecrees$Reader.isDigit(I)Z
set_option maxRecDepth 100000 in
theorem k_76_0 {x0 : Int32}
    (h1 : x0 < (48) → Q (some (.int (0))) (mkH hi hl sw kp))
    (h2 : ¬ (x0 < (48)) → (57) < x0 → Q (some (.int (0))) (mkH hi hl sw kp))
    (h3 : ¬ (x0 < (48)) → ¬ ((57) < x0) → Q (some (.int (1))) (mkH hi hl sw kp))
    : cW cd_76 d Q 0 [some (.int x0)] [] (mkH hi hl sw kp) :=
  cW.run (am_in []) 9 (And.intro (fun c1 => (And.intro (Or.inl rfl) (cQ.of (h1 c1)))) (fun c2 => (And.intro (fun c3 => (And.intro (Or.inl rfl) (cQ.of (h2 c2 c3)))) (fun c4 => (And.intro (Or.inr rfl) (cQ.of (h3 c2 c4)))))))
theorem e_76 {x0 : Int32}
    (h1 : x0 < (48) → Q (some (.int (0))) (mkH hi hl sw kp))
    (h2 : ¬ (x0 < (48)) → (57) < x0 → Q (some (.int (0))) (mkH hi hl sw kp))
    (h3 : ¬ (x0 < (48)) → ¬ ((57) < x0) → Q (some (.int (1))) (mkH hi hl sw kp))
    : cS (d + 1) 76 [(.int x0)] (mkH hi hl sw kp) Q := cS.of rfl (k_76_0 h1 h2 h3)
def g_76 (x0 : Int32) : Int32 := if x0 < (48) then (0) else (if (57) < x0 then (0) else ((1)))
theorem g_76_01 (x0 : Int32) : g_76 x0 = 0 ∨ g_76 x0 = 1 := by
  unfold g_76
  exact (ite01 (Or.inl rfl) (ite01 (Or.inl rfl) (Or.inr rfl)))
set_option maxRecDepth 100000 in
theorem s_76 {x0 : Int32} (w : Q (some (.int (g_76 x0))) (mkH hi hl sw kp)) : cS (d + 1) 76 [(.int x0)] (mkH hi hl sw kp) Q :=
  e_76 (fun c1 => by
      have e : g_76 x0 = (0) := by
        unfold g_76
        rw [if_pos c1]
      rw [e] at w
      exact w) (fun c2 c3 => by
      have e : g_76 x0 = (0) := by
        unfold g_76
        rw [if_neg c2, if_pos c3]
      rw [e] at w
      exact w) (fun c2 c4 => by
      have e : g_76 x0 = (1) := by
        unfold g_76
        rw [if_neg c2, if_neg c4]
      rw [e] at w
      exact w)
-- 77: DogDecrees$Reader.isSign(I)Z
set_option maxRecDepth 100000 in
theorem k_77_0 {x0 : Int32}
    (h1 : x0 = 37 → Q (some (.int (1))) (mkH hi hl sw kp))
    (h2 : ¬ x0 = 37 → x0 = 38 → Q (some (.int (0))) (mkH hi hl sw kp))
    (h3 : ¬ x0 = 37 → ¬ x0 = 38 → x0 = 39 → Q (some (.int (0))) (mkH hi hl sw kp))
    (h4 : ¬ x0 = 37 → ¬ x0 = 38 → ¬ x0 = 39 → x0 = 40 → Q (some (.int (1))) (mkH hi hl sw kp))
    (h5 : ¬ x0 = 37 → ¬ x0 = 38 → ¬ x0 = 39 → ¬ x0 = 40 → x0 = 41 → Q (some (.int (1))) (mkH hi hl sw kp))
    (h6 : ¬ x0 = 37 → ¬ x0 = 38 → ¬ x0 = 39 → ¬ x0 = 40 → ¬ x0 = 41 → x0 = 42 → Q (some (.int (1))) (mkH hi hl sw kp))
    (h7 : ¬ x0 = 37 → ¬ x0 = 38 → ¬ x0 = 39 → ¬ x0 = 40 → ¬ x0 = 41 → ¬ x0 = 42 → x0 = 43 → Q (some (.int (1))) (mkH hi hl sw kp))
    (h8 : ¬ x0 = 37 → ¬ x0 = 38 → ¬ x0 = 39 → ¬ x0 = 40 → ¬ x0 = 41 → ¬ x0 = 42 → ¬ x0 = 43 → x0 = 44 → Q (some (.int (0))) (mkH hi hl sw kp))
    (h9 : ¬ x0 = 37 → ¬ x0 = 38 → ¬ x0 = 39 → ¬ x0 = 40 → ¬ x0 = 41 → ¬ x0 = 42 → ¬ x0 = 43 → ¬ x0 = 44 → x0 = 45 → Q (some (.int (1))) (mkH hi hl sw kp))
    (h10 : ¬ x0 = 37 → ¬ x0 = 38 → ¬ x0 = 39 → ¬ x0 = 40 → ¬ x0 = 41 → ¬ x0 = 42 → ¬ x0 = 43 → ¬ x0 = 44 → ¬ x0 = 45 → x0 = 46 → Q (some (.int (0))) (mkH hi hl sw kp))
    (h11 : ¬ x0 = 37 → ¬ x0 = 38 → ¬ x0 = 39 → ¬ x0 = 40 → ¬ x0 = 41 → ¬ x0 = 42 → ¬ x0 = 43 → ¬ x0 = 44 → ¬ x0 = 45 → ¬ x0 = 46 → x0 = 47 → Q (some (.int (1))) (mkH hi hl sw kp))
    (h12 : ¬ x0 = 37 → ¬ x0 = 38 → ¬ x0 = 39 → ¬ x0 = 40 → ¬ x0 = 41 → ¬ x0 = 42 → ¬ x0 = 43 → ¬ x0 = 44 → ¬ x0 = 45 → ¬ x0 = 46 → ¬ x0 = 47 → x0 = 48 → Q (some (.int (0))) (mkH hi hl sw kp))
    (h13 : ¬ x0 = 37 → ¬ x0 = 38 → ¬ x0 = 39 → ¬ x0 = 40 → ¬ x0 = 41 → ¬ x0 = 42 → ¬ x0 = 43 → ¬ x0 = 44 → ¬ x0 = 45 → ¬ x0 = 46 → ¬ x0 = 47 → ¬ x0 = 48 → x0 = 49 → Q (some (.int (0))) (mkH hi hl sw kp))
    (h14 : ¬ x0 = 37 → ¬ x0 = 38 → ¬ x0 = 39 → ¬ x0 = 40 → ¬ x0 = 41 → ¬ x0 = 42 → ¬ x0 = 43 → ¬ x0 = 44 → ¬ x0 = 45 → ¬ x0 = 46 → ¬ x0 = 47 → ¬ x0 = 48 → ¬ x0 = 49 → x0 = 50 → Q (some (.int (0))) (mkH hi hl sw kp))
    (h15 : ¬ x0 = 37 → ¬ x0 = 38 → ¬ x0 = 39 → ¬ x0 = 40 → ¬ x0 = 41 → ¬ x0 = 42 → ¬ x0 = 43 → ¬ x0 = 44 → ¬ x0 = 45 → ¬ x0 = 46 → ¬ x0 = 47 → ¬ x0 = 48 → ¬ x0 = 49 → ¬ x0 = 50 → x0 = 51 → Q (some (.int (0))) (mkH hi hl sw kp))
    (h16 : ¬ x0 = 37 → ¬ x0 = 38 → ¬ x0 = 39 → ¬ x0 = 40 → ¬ x0 = 41 → ¬ x0 = 42 → ¬ x0 = 43 → ¬ x0 = 44 → ¬ x0 = 45 → ¬ x0 = 46 → ¬ x0 = 47 → ¬ x0 = 48 → ¬ x0 = 49 → ¬ x0 = 50 → ¬ x0 = 51 → x0 = 52 → Q (some (.int (0))) (mkH hi hl sw kp))
    (h17 : ¬ x0 = 37 → ¬ x0 = 38 → ¬ x0 = 39 → ¬ x0 = 40 → ¬ x0 = 41 → ¬ x0 = 42 → ¬ x0 = 43 → ¬ x0 = 44 → ¬ x0 = 45 → ¬ x0 = 46 → ¬ x0 = 47 → ¬ x0 = 48 → ¬ x0 = 49 → ¬ x0 = 50 → ¬ x0 = 51 → ¬ x0 = 52 → x0 = 53 → Q (some (.int (0))) (mkH hi hl sw kp))
    (h18 : ¬ x0 = 37 → ¬ x0 = 38 → ¬ x0 = 39 → ¬ x0 = 40 → ¬ x0 = 41 → ¬ x0 = 42 → ¬ x0 = 43 → ¬ x0 = 44 → ¬ x0 = 45 → ¬ x0 = 46 → ¬ x0 = 47 → ¬ x0 = 48 → ¬ x0 = 49 → ¬ x0 = 50 → ¬ x0 = 51 → ¬ x0 = 52 → ¬ x0 = 53 → x0 = 54 → Q (some (.int (0))) (mkH hi hl sw kp))
    (h19 : ¬ x0 = 37 → ¬ x0 = 38 → ¬ x0 = 39 → ¬ x0 = 40 → ¬ x0 = 41 → ¬ x0 = 42 → ¬ x0 = 43 → ¬ x0 = 44 → ¬ x0 = 45 → ¬ x0 = 46 → ¬ x0 = 47 → ¬ x0 = 48 → ¬ x0 = 49 → ¬ x0 = 50 → ¬ x0 = 51 → ¬ x0 = 52 → ¬ x0 = 53 → ¬ x0 = 54 → x0 = 55 → Q (some (.int (0))) (mkH hi hl sw kp))
    (h20 : ¬ x0 = 37 → ¬ x0 = 38 → ¬ x0 = 39 → ¬ x0 = 40 → ¬ x0 = 41 → ¬ x0 = 42 → ¬ x0 = 43 → ¬ x0 = 44 → ¬ x0 = 45 → ¬ x0 = 46 → ¬ x0 = 47 → ¬ x0 = 48 → ¬ x0 = 49 → ¬ x0 = 50 → ¬ x0 = 51 → ¬ x0 = 52 → ¬ x0 = 53 → ¬ x0 = 54 → ¬ x0 = 55 → x0 = 56 → Q (some (.int (0))) (mkH hi hl sw kp))
    (h21 : ¬ x0 = 37 → ¬ x0 = 38 → ¬ x0 = 39 → ¬ x0 = 40 → ¬ x0 = 41 → ¬ x0 = 42 → ¬ x0 = 43 → ¬ x0 = 44 → ¬ x0 = 45 → ¬ x0 = 46 → ¬ x0 = 47 → ¬ x0 = 48 → ¬ x0 = 49 → ¬ x0 = 50 → ¬ x0 = 51 → ¬ x0 = 52 → ¬ x0 = 53 → ¬ x0 = 54 → ¬ x0 = 55 → ¬ x0 = 56 → x0 = 57 → Q (some (.int (0))) (mkH hi hl sw kp))
    (h22 : ¬ x0 = 37 → ¬ x0 = 38 → ¬ x0 = 39 → ¬ x0 = 40 → ¬ x0 = 41 → ¬ x0 = 42 → ¬ x0 = 43 → ¬ x0 = 44 → ¬ x0 = 45 → ¬ x0 = 46 → ¬ x0 = 47 → ¬ x0 = 48 → ¬ x0 = 49 → ¬ x0 = 50 → ¬ x0 = 51 → ¬ x0 = 52 → ¬ x0 = 53 → ¬ x0 = 54 → ¬ x0 = 55 → ¬ x0 = 56 → ¬ x0 = 57 → x0 = 58 → Q (some (.int (0))) (mkH hi hl sw kp))
    (h23 : ¬ x0 = 37 → ¬ x0 = 38 → ¬ x0 = 39 → ¬ x0 = 40 → ¬ x0 = 41 → ¬ x0 = 42 → ¬ x0 = 43 → ¬ x0 = 44 → ¬ x0 = 45 → ¬ x0 = 46 → ¬ x0 = 47 → ¬ x0 = 48 → ¬ x0 = 49 → ¬ x0 = 50 → ¬ x0 = 51 → ¬ x0 = 52 → ¬ x0 = 53 → ¬ x0 = 54 → ¬ x0 = 55 → ¬ x0 = 56 → ¬ x0 = 57 → ¬ x0 = 58 → x0 = 59 → Q (some (.int (1))) (mkH hi hl sw kp))
    (h24 : ¬ x0 = 37 → ¬ x0 = 38 → ¬ x0 = 39 → ¬ x0 = 40 → ¬ x0 = 41 → ¬ x0 = 42 → ¬ x0 = 43 → ¬ x0 = 44 → ¬ x0 = 45 → ¬ x0 = 46 → ¬ x0 = 47 → ¬ x0 = 48 → ¬ x0 = 49 → ¬ x0 = 50 → ¬ x0 = 51 → ¬ x0 = 52 → ¬ x0 = 53 → ¬ x0 = 54 → ¬ x0 = 55 → ¬ x0 = 56 → ¬ x0 = 57 → ¬ x0 = 58 → ¬ x0 = 59 → x0 = 60 → Q (some (.int (1))) (mkH hi hl sw kp))
    (h25 : ¬ x0 = 37 → ¬ x0 = 38 → ¬ x0 = 39 → ¬ x0 = 40 → ¬ x0 = 41 → ¬ x0 = 42 → ¬ x0 = 43 → ¬ x0 = 44 → ¬ x0 = 45 → ¬ x0 = 46 → ¬ x0 = 47 → ¬ x0 = 48 → ¬ x0 = 49 → ¬ x0 = 50 → ¬ x0 = 51 → ¬ x0 = 52 → ¬ x0 = 53 → ¬ x0 = 54 → ¬ x0 = 55 → ¬ x0 = 56 → ¬ x0 = 57 → ¬ x0 = 58 → ¬ x0 = 59 → ¬ x0 = 60 → x0 = 61 → Q (some (.int (1))) (mkH hi hl sw kp))
    (h26 : ¬ x0 = 37 → ¬ x0 = 38 → ¬ x0 = 39 → ¬ x0 = 40 → ¬ x0 = 41 → ¬ x0 = 42 → ¬ x0 = 43 → ¬ x0 = 44 → ¬ x0 = 45 → ¬ x0 = 46 → ¬ x0 = 47 → ¬ x0 = 48 → ¬ x0 = 49 → ¬ x0 = 50 → ¬ x0 = 51 → ¬ x0 = 52 → ¬ x0 = 53 → ¬ x0 = 54 → ¬ x0 = 55 → ¬ x0 = 56 → ¬ x0 = 57 → ¬ x0 = 58 → ¬ x0 = 59 → ¬ x0 = 60 → ¬ x0 = 61 → x0 = 62 → Q (some (.int (1))) (mkH hi hl sw kp))
    (h27 : ¬ x0 = 37 → ¬ x0 = 38 → ¬ x0 = 39 → ¬ x0 = 40 → ¬ x0 = 41 → ¬ x0 = 42 → ¬ x0 = 43 → ¬ x0 = 44 → ¬ x0 = 45 → ¬ x0 = 46 → ¬ x0 = 47 → ¬ x0 = 48 → ¬ x0 = 49 → ¬ x0 = 50 → ¬ x0 = 51 → ¬ x0 = 52 → ¬ x0 = 53 → ¬ x0 = 54 → ¬ x0 = 55 → ¬ x0 = 56 → ¬ x0 = 57 → ¬ x0 = 58 → ¬ x0 = 59 → ¬ x0 = 60 → ¬ x0 = 61 → ¬ x0 = 62 → Q (some (.int (0))) (mkH hi hl sw kp))
    : cW cd_77 d Q 0 [some (.int x0)] [] (mkH hi hl sw kp) :=
  cW.run (am_in []) 4 (And.intro (fun c1 => (And.intro (Or.inr rfl) (cQ.of (h1 c1)))) (fun c2 => (And.intro (fun c3 => (And.intro (Or.inl rfl) (cQ.of (h2 c2 c3)))) (fun c4 => (And.intro (fun c5 => (And.intro (Or.inl rfl) (cQ.of (h3 c2 c4 c5)))) (fun c6 => (And.intro (fun c7 => (And.intro (Or.inr rfl) (cQ.of (h4 c2 c4 c6 c7)))) (fun c8 => (And.intro (fun c9 => (And.intro (Or.inr rfl) (cQ.of (h5 c2 c4 c6 c8 c9)))) (fun c10 => (And.intro (fun c11 => (And.intro (Or.inr rfl) (cQ.of (h6 c2 c4 c6 c8 c10 c11)))) (fun c12 => (And.intro (fun c13 => (And.intro (Or.inr rfl) (cQ.of (h7 c2 c4 c6 c8 c10 c12 c13)))) (fun c14 => (And.intro (fun c15 => (And.intro (Or.inl rfl) (cQ.of (h8 c2 c4 c6 c8 c10 c12 c14 c15)))) (fun c16 => (And.intro (fun c17 => (And.intro (Or.inr rfl) (cQ.of (h9 c2 c4 c6 c8 c10 c12 c14 c16 c17)))) (fun c18 => (And.intro (fun c19 => (And.intro (Or.inl rfl) (cQ.of (h10 c2 c4 c6 c8 c10 c12 c14 c16 c18 c19)))) (fun c20 => (And.intro (fun c21 => (And.intro (Or.inr rfl) (cQ.of (h11 c2 c4 c6 c8 c10 c12 c14 c16 c18 c20 c21)))) (fun c22 => (And.intro (fun c23 => (And.intro (Or.inl rfl) (cQ.of (h12 c2 c4 c6 c8 c10 c12 c14 c16 c18 c20 c22 c23)))) (fun c24 => (And.intro (fun c25 => (And.intro (Or.inl rfl) (cQ.of (h13 c2 c4 c6 c8 c10 c12 c14 c16 c18 c20 c22 c24 c25)))) (fun c26 => (And.intro (fun c27 => (And.intro (Or.inl rfl) (cQ.of (h14 c2 c4 c6 c8 c10 c12 c14 c16 c18 c20 c22 c24 c26 c27)))) (fun c28 => (And.intro (fun c29 => (And.intro (Or.inl rfl) (cQ.of (h15 c2 c4 c6 c8 c10 c12 c14 c16 c18 c20 c22 c24 c26 c28 c29)))) (fun c30 => (And.intro (fun c31 => (And.intro (Or.inl rfl) (cQ.of (h16 c2 c4 c6 c8 c10 c12 c14 c16 c18 c20 c22 c24 c26 c28 c30 c31)))) (fun c32 => (And.intro (fun c33 => (And.intro (Or.inl rfl) (cQ.of (h17 c2 c4 c6 c8 c10 c12 c14 c16 c18 c20 c22 c24 c26 c28 c30 c32 c33)))) (fun c34 => (And.intro (fun c35 => (And.intro (Or.inl rfl) (cQ.of (h18 c2 c4 c6 c8 c10 c12 c14 c16 c18 c20 c22 c24 c26 c28 c30 c32 c34 c35)))) (fun c36 => (And.intro (fun c37 => (And.intro (Or.inl rfl) (cQ.of (h19 c2 c4 c6 c8 c10 c12 c14 c16 c18 c20 c22 c24 c26 c28 c30 c32 c34 c36 c37)))) (fun c38 => (And.intro (fun c39 => (And.intro (Or.inl rfl) (cQ.of (h20 c2 c4 c6 c8 c10 c12 c14 c16 c18 c20 c22 c24 c26 c28 c30 c32 c34 c36 c38 c39)))) (fun c40 => (And.intro (fun c41 => (And.intro (Or.inl rfl) (cQ.of (h21 c2 c4 c6 c8 c10 c12 c14 c16 c18 c20 c22 c24 c26 c28 c30 c32 c34 c36 c38 c40 c41)))) (fun c42 => (And.intro (fun c43 => (And.intro (Or.inl rfl) (cQ.of (h22 c2 c4 c6 c8 c10 c12 c14 c16 c18 c20 c22 c24 c26 c28 c30 c32 c34 c36 c38 c40 c42 c43)))) (fun c44 => (And.intro (fun c45 => (And.intro (Or.inr rfl) (cQ.of (h23 c2 c4 c6 c8 c10 c12 c14 c16 c18 c20 c22 c24 c26 c28 c30 c32 c34 c36 c38 c40 c42 c44 c45)))) (fun c46 => (And.intro (fun c47 => (And.intro (Or.inr rfl) (cQ.of (h24 c2 c4 c6 c8 c10 c12 c14 c16 c18 c20 c22 c24 c26 c28 c30 c32 c34 c36 c38 c40 c42 c44 c46 c47)))) (fun c48 => (And.intro (fun c49 => (And.intro (Or.inr rfl) (cQ.of (h25 c2 c4 c6 c8 c10 c12 c14 c16 c18 c20 c22 c24 c26 c28 c30 c32 c34 c36 c38 c40 c42 c44 c46 c48 c49)))) (fun c50 => (And.intro (fun c51 => (And.intro (Or.inr rfl) (cQ.of (h26 c2 c4 c6 c8 c10 c12 c14 c16 c18 c20 c22 c24 c26 c28 c30 c32 c34 c36 c38 c40 c42 c44 c46 c48 c50 c51)))) (fun c52 => (And.intro (Or.inl rfl) (cQ.of (h27 c2 c4 c6 c8 c10 c12 c14 c16 c18 c20 c22 c24 c26 c28 c30 c32 c34 c36 c38 c40 c42 c44 c46 c48 c50 c52)))))))))))))))))))))))))))))))))))))))))))))))))))))))
theorem e_77 {x0 : Int32}
    (h1 : x0 = 37 → Q (some (.int (1))) (mkH hi hl sw kp))
    (h2 : ¬ x0 = 37 → x0 = 38 → Q (some (.int (0))) (mkH hi hl sw kp))
    (h3 : ¬ x0 = 37 → ¬ x0 = 38 → x0 = 39 → Q (some (.int (0))) (mkH hi hl sw kp))
    (h4 : ¬ x0 = 37 → ¬ x0 = 38 → ¬ x0 = 39 → x0 = 40 → Q (some (.int (1))) (mkH hi hl sw kp))
    (h5 : ¬ x0 = 37 → ¬ x0 = 38 → ¬ x0 = 39 → ¬ x0 = 40 → x0 = 41 → Q (some (.int (1))) (mkH hi hl sw kp))
    (h6 : ¬ x0 = 37 → ¬ x0 = 38 → ¬ x0 = 39 → ¬ x0 = 40 → ¬ x0 = 41 → x0 = 42 → Q (some (.int (1))) (mkH hi hl sw kp))
    (h7 : ¬ x0 = 37 → ¬ x0 = 38 → ¬ x0 = 39 → ¬ x0 = 40 → ¬ x0 = 41 → ¬ x0 = 42 → x0 = 43 → Q (some (.int (1))) (mkH hi hl sw kp))
    (h8 : ¬ x0 = 37 → ¬ x0 = 38 → ¬ x0 = 39 → ¬ x0 = 40 → ¬ x0 = 41 → ¬ x0 = 42 → ¬ x0 = 43 → x0 = 44 → Q (some (.int (0))) (mkH hi hl sw kp))
    (h9 : ¬ x0 = 37 → ¬ x0 = 38 → ¬ x0 = 39 → ¬ x0 = 40 → ¬ x0 = 41 → ¬ x0 = 42 → ¬ x0 = 43 → ¬ x0 = 44 → x0 = 45 → Q (some (.int (1))) (mkH hi hl sw kp))
    (h10 : ¬ x0 = 37 → ¬ x0 = 38 → ¬ x0 = 39 → ¬ x0 = 40 → ¬ x0 = 41 → ¬ x0 = 42 → ¬ x0 = 43 → ¬ x0 = 44 → ¬ x0 = 45 → x0 = 46 → Q (some (.int (0))) (mkH hi hl sw kp))
    (h11 : ¬ x0 = 37 → ¬ x0 = 38 → ¬ x0 = 39 → ¬ x0 = 40 → ¬ x0 = 41 → ¬ x0 = 42 → ¬ x0 = 43 → ¬ x0 = 44 → ¬ x0 = 45 → ¬ x0 = 46 → x0 = 47 → Q (some (.int (1))) (mkH hi hl sw kp))
    (h12 : ¬ x0 = 37 → ¬ x0 = 38 → ¬ x0 = 39 → ¬ x0 = 40 → ¬ x0 = 41 → ¬ x0 = 42 → ¬ x0 = 43 → ¬ x0 = 44 → ¬ x0 = 45 → ¬ x0 = 46 → ¬ x0 = 47 → x0 = 48 → Q (some (.int (0))) (mkH hi hl sw kp))
    (h13 : ¬ x0 = 37 → ¬ x0 = 38 → ¬ x0 = 39 → ¬ x0 = 40 → ¬ x0 = 41 → ¬ x0 = 42 → ¬ x0 = 43 → ¬ x0 = 44 → ¬ x0 = 45 → ¬ x0 = 46 → ¬ x0 = 47 → ¬ x0 = 48 → x0 = 49 → Q (some (.int (0))) (mkH hi hl sw kp))
    (h14 : ¬ x0 = 37 → ¬ x0 = 38 → ¬ x0 = 39 → ¬ x0 = 40 → ¬ x0 = 41 → ¬ x0 = 42 → ¬ x0 = 43 → ¬ x0 = 44 → ¬ x0 = 45 → ¬ x0 = 46 → ¬ x0 = 47 → ¬ x0 = 48 → ¬ x0 = 49 → x0 = 50 → Q (some (.int (0))) (mkH hi hl sw kp))
    (h15 : ¬ x0 = 37 → ¬ x0 = 38 → ¬ x0 = 39 → ¬ x0 = 40 → ¬ x0 = 41 → ¬ x0 = 42 → ¬ x0 = 43 → ¬ x0 = 44 → ¬ x0 = 45 → ¬ x0 = 46 → ¬ x0 = 47 → ¬ x0 = 48 → ¬ x0 = 49 → ¬ x0 = 50 → x0 = 51 → Q (some (.int (0))) (mkH hi hl sw kp))
    (h16 : ¬ x0 = 37 → ¬ x0 = 38 → ¬ x0 = 39 → ¬ x0 = 40 → ¬ x0 = 41 → ¬ x0 = 42 → ¬ x0 = 43 → ¬ x0 = 44 → ¬ x0 = 45 → ¬ x0 = 46 → ¬ x0 = 47 → ¬ x0 = 48 → ¬ x0 = 49 → ¬ x0 = 50 → ¬ x0 = 51 → x0 = 52 → Q (some (.int (0))) (mkH hi hl sw kp))
    (h17 : ¬ x0 = 37 → ¬ x0 = 38 → ¬ x0 = 39 → ¬ x0 = 40 → ¬ x0 = 41 → ¬ x0 = 42 → ¬ x0 = 43 → ¬ x0 = 44 → ¬ x0 = 45 → ¬ x0 = 46 → ¬ x0 = 47 → ¬ x0 = 48 → ¬ x0 = 49 → ¬ x0 = 50 → ¬ x0 = 51 → ¬ x0 = 52 → x0 = 53 → Q (some (.int (0))) (mkH hi hl sw kp))
    (h18 : ¬ x0 = 37 → ¬ x0 = 38 → ¬ x0 = 39 → ¬ x0 = 40 → ¬ x0 = 41 → ¬ x0 = 42 → ¬ x0 = 43 → ¬ x0 = 44 → ¬ x0 = 45 → ¬ x0 = 46 → ¬ x0 = 47 → ¬ x0 = 48 → ¬ x0 = 49 → ¬ x0 = 50 → ¬ x0 = 51 → ¬ x0 = 52 → ¬ x0 = 53 → x0 = 54 → Q (some (.int (0))) (mkH hi hl sw kp))
    (h19 : ¬ x0 = 37 → ¬ x0 = 38 → ¬ x0 = 39 → ¬ x0 = 40 → ¬ x0 = 41 → ¬ x0 = 42 → ¬ x0 = 43 → ¬ x0 = 44 → ¬ x0 = 45 → ¬ x0 = 46 → ¬ x0 = 47 → ¬ x0 = 48 → ¬ x0 = 49 → ¬ x0 = 50 → ¬ x0 = 51 → ¬ x0 = 52 → ¬ x0 = 53 → ¬ x0 = 54 → x0 = 55 → Q (some (.int (0))) (mkH hi hl sw kp))
    (h20 : ¬ x0 = 37 → ¬ x0 = 38 → ¬ x0 = 39 → ¬ x0 = 40 → ¬ x0 = 41 → ¬ x0 = 42 → ¬ x0 = 43 → ¬ x0 = 44 → ¬ x0 = 45 → ¬ x0 = 46 → ¬ x0 = 47 → ¬ x0 = 48 → ¬ x0 = 49 → ¬ x0 = 50 → ¬ x0 = 51 → ¬ x0 = 52 → ¬ x0 = 53 → ¬ x0 = 54 → ¬ x0 = 55 → x0 = 56 → Q (some (.int (0))) (mkH hi hl sw kp))
    (h21 : ¬ x0 = 37 → ¬ x0 = 38 → ¬ x0 = 39 → ¬ x0 = 40 → ¬ x0 = 41 → ¬ x0 = 42 → ¬ x0 = 43 → ¬ x0 = 44 → ¬ x0 = 45 → ¬ x0 = 46 → ¬ x0 = 47 → ¬ x0 = 48 → ¬ x0 = 49 → ¬ x0 = 50 → ¬ x0 = 51 → ¬ x0 = 52 → ¬ x0 = 53 → ¬ x0 = 54 → ¬ x0 = 55 → ¬ x0 = 56 → x0 = 57 → Q (some (.int (0))) (mkH hi hl sw kp))
    (h22 : ¬ x0 = 37 → ¬ x0 = 38 → ¬ x0 = 39 → ¬ x0 = 40 → ¬ x0 = 41 → ¬ x0 = 42 → ¬ x0 = 43 → ¬ x0 = 44 → ¬ x0 = 45 → ¬ x0 = 46 → ¬ x0 = 47 → ¬ x0 = 48 → ¬ x0 = 49 → ¬ x0 = 50 → ¬ x0 = 51 → ¬ x0 = 52 → ¬ x0 = 53 → ¬ x0 = 54 → ¬ x0 = 55 → ¬ x0 = 56 → ¬ x0 = 57 → x0 = 58 → Q (some (.int (0))) (mkH hi hl sw kp))
    (h23 : ¬ x0 = 37 → ¬ x0 = 38 → ¬ x0 = 39 → ¬ x0 = 40 → ¬ x0 = 41 → ¬ x0 = 42 → ¬ x0 = 43 → ¬ x0 = 44 → ¬ x0 = 45 → ¬ x0 = 46 → ¬ x0 = 47 → ¬ x0 = 48 → ¬ x0 = 49 → ¬ x0 = 50 → ¬ x0 = 51 → ¬ x0 = 52 → ¬ x0 = 53 → ¬ x0 = 54 → ¬ x0 = 55 → ¬ x0 = 56 → ¬ x0 = 57 → ¬ x0 = 58 → x0 = 59 → Q (some (.int (1))) (mkH hi hl sw kp))
    (h24 : ¬ x0 = 37 → ¬ x0 = 38 → ¬ x0 = 39 → ¬ x0 = 40 → ¬ x0 = 41 → ¬ x0 = 42 → ¬ x0 = 43 → ¬ x0 = 44 → ¬ x0 = 45 → ¬ x0 = 46 → ¬ x0 = 47 → ¬ x0 = 48 → ¬ x0 = 49 → ¬ x0 = 50 → ¬ x0 = 51 → ¬ x0 = 52 → ¬ x0 = 53 → ¬ x0 = 54 → ¬ x0 = 55 → ¬ x0 = 56 → ¬ x0 = 57 → ¬ x0 = 58 → ¬ x0 = 59 → x0 = 60 → Q (some (.int (1))) (mkH hi hl sw kp))
    (h25 : ¬ x0 = 37 → ¬ x0 = 38 → ¬ x0 = 39 → ¬ x0 = 40 → ¬ x0 = 41 → ¬ x0 = 42 → ¬ x0 = 43 → ¬ x0 = 44 → ¬ x0 = 45 → ¬ x0 = 46 → ¬ x0 = 47 → ¬ x0 = 48 → ¬ x0 = 49 → ¬ x0 = 50 → ¬ x0 = 51 → ¬ x0 = 52 → ¬ x0 = 53 → ¬ x0 = 54 → ¬ x0 = 55 → ¬ x0 = 56 → ¬ x0 = 57 → ¬ x0 = 58 → ¬ x0 = 59 → ¬ x0 = 60 → x0 = 61 → Q (some (.int (1))) (mkH hi hl sw kp))
    (h26 : ¬ x0 = 37 → ¬ x0 = 38 → ¬ x0 = 39 → ¬ x0 = 40 → ¬ x0 = 41 → ¬ x0 = 42 → ¬ x0 = 43 → ¬ x0 = 44 → ¬ x0 = 45 → ¬ x0 = 46 → ¬ x0 = 47 → ¬ x0 = 48 → ¬ x0 = 49 → ¬ x0 = 50 → ¬ x0 = 51 → ¬ x0 = 52 → ¬ x0 = 53 → ¬ x0 = 54 → ¬ x0 = 55 → ¬ x0 = 56 → ¬ x0 = 57 → ¬ x0 = 58 → ¬ x0 = 59 → ¬ x0 = 60 → ¬ x0 = 61 → x0 = 62 → Q (some (.int (1))) (mkH hi hl sw kp))
    (h27 : ¬ x0 = 37 → ¬ x0 = 38 → ¬ x0 = 39 → ¬ x0 = 40 → ¬ x0 = 41 → ¬ x0 = 42 → ¬ x0 = 43 → ¬ x0 = 44 → ¬ x0 = 45 → ¬ x0 = 46 → ¬ x0 = 47 → ¬ x0 = 48 → ¬ x0 = 49 → ¬ x0 = 50 → ¬ x0 = 51 → ¬ x0 = 52 → ¬ x0 = 53 → ¬ x0 = 54 → ¬ x0 = 55 → ¬ x0 = 56 → ¬ x0 = 57 → ¬ x0 = 58 → ¬ x0 = 59 → ¬ x0 = 60 → ¬ x0 = 61 → ¬ x0 = 62 → Q (some (.int (0))) (mkH hi hl sw kp))
    : cS (d + 1) 77 [(.int x0)] (mkH hi hl sw kp) Q := cS.of rfl (k_77_0 h1 h2 h3 h4 h5 h6 h7 h8 h9 h10 h11 h12 h13 h14 h15 h16 h17 h18 h19 h20 h21 h22 h23 h24 h25 h26 h27)
def g_77 (x0 : Int32) : Int32 := if x0 = 37 then (1) else (if x0 = 38 then (0) else (if x0 = 39 then (0) else (if x0 = 40 then (1) else (if x0 = 41 then (1) else (if x0 = 42 then (1) else (if x0 = 43 then (1) else (if x0 = 44 then (0) else (if x0 = 45 then (1) else (if x0 = 46 then (0) else (if x0 = 47 then (1) else (if x0 = 48 then (0) else (if x0 = 49 then (0) else (if x0 = 50 then (0) else (if x0 = 51 then (0) else (if x0 = 52 then (0) else (if x0 = 53 then (0) else (if x0 = 54 then (0) else (if x0 = 55 then (0) else (if x0 = 56 then (0) else (if x0 = 57 then (0) else (if x0 = 58 then (0) else (if x0 = 59 then (1) else (if x0 = 60 then (1) else (if x0 = 61 then (1) else (if x0 = 62 then (1) else ((0)))))))))))))))))))))))))))
theorem g_77_01 (x0 : Int32) : g_77 x0 = 0 ∨ g_77 x0 = 1 := by
  unfold g_77
  exact (ite01 (Or.inr rfl) (ite01 (Or.inl rfl) (ite01 (Or.inl rfl) (ite01 (Or.inr rfl) (ite01 (Or.inr rfl) (ite01 (Or.inr rfl) (ite01 (Or.inr rfl) (ite01 (Or.inl rfl) (ite01 (Or.inr rfl) (ite01 (Or.inl rfl) (ite01 (Or.inr rfl) (ite01 (Or.inl rfl) (ite01 (Or.inl rfl) (ite01 (Or.inl rfl) (ite01 (Or.inl rfl) (ite01 (Or.inl rfl) (ite01 (Or.inl rfl) (ite01 (Or.inl rfl) (ite01 (Or.inl rfl) (ite01 (Or.inl rfl) (ite01 (Or.inl rfl) (ite01 (Or.inl rfl) (ite01 (Or.inr rfl) (ite01 (Or.inr rfl) (ite01 (Or.inr rfl) (ite01 (Or.inr rfl) (Or.inl rfl)))))))))))))))))))))))))))
set_option maxRecDepth 100000 in
theorem s_77 {x0 : Int32} (w : Q (some (.int (g_77 x0))) (mkH hi hl sw kp)) : cS (d + 1) 77 [(.int x0)] (mkH hi hl sw kp) Q :=
  e_77 (fun c1 => by
      have e : g_77 x0 = (1) := by
        unfold g_77
        rw [if_pos c1]
      rw [e] at w
      exact w) (fun c2 c3 => by
      have e : g_77 x0 = (0) := by
        unfold g_77
        rw [if_neg c2, if_pos c3]
      rw [e] at w
      exact w) (fun c2 c4 c5 => by
      have e : g_77 x0 = (0) := by
        unfold g_77
        rw [if_neg c2, if_neg c4, if_pos c5]
      rw [e] at w
      exact w) (fun c2 c4 c6 c7 => by
      have e : g_77 x0 = (1) := by
        unfold g_77
        rw [if_neg c2, if_neg c4, if_neg c6, if_pos c7]
      rw [e] at w
      exact w) (fun c2 c4 c6 c8 c9 => by
      have e : g_77 x0 = (1) := by
        unfold g_77
        rw [if_neg c2, if_neg c4, if_neg c6, if_neg c8, if_pos c9]
      rw [e] at w
      exact w) (fun c2 c4 c6 c8 c10 c11 => by
      have e : g_77 x0 = (1) := by
        unfold g_77
        rw [if_neg c2, if_neg c4, if_neg c6, if_neg c8, if_neg c10, if_pos c11]
      rw [e] at w
      exact w) (fun c2 c4 c6 c8 c10 c12 c13 => by
      have e : g_77 x0 = (1) := by
        unfold g_77
        rw [if_neg c2, if_neg c4, if_neg c6, if_neg c8, if_neg c10, if_neg c12, if_pos c13]
      rw [e] at w
      exact w) (fun c2 c4 c6 c8 c10 c12 c14 c15 => by
      have e : g_77 x0 = (0) := by
        unfold g_77
        rw [if_neg c2, if_neg c4, if_neg c6, if_neg c8, if_neg c10, if_neg c12, if_neg c14, if_pos c15]
      rw [e] at w
      exact w) (fun c2 c4 c6 c8 c10 c12 c14 c16 c17 => by
      have e : g_77 x0 = (1) := by
        unfold g_77
        rw [if_neg c2, if_neg c4, if_neg c6, if_neg c8, if_neg c10, if_neg c12, if_neg c14, if_neg c16, if_pos c17]
      rw [e] at w
      exact w) (fun c2 c4 c6 c8 c10 c12 c14 c16 c18 c19 => by
      have e : g_77 x0 = (0) := by
        unfold g_77
        rw [if_neg c2, if_neg c4, if_neg c6, if_neg c8, if_neg c10, if_neg c12, if_neg c14, if_neg c16, if_neg c18, if_pos c19]
      rw [e] at w
      exact w) (fun c2 c4 c6 c8 c10 c12 c14 c16 c18 c20 c21 => by
      have e : g_77 x0 = (1) := by
        unfold g_77
        rw [if_neg c2, if_neg c4, if_neg c6, if_neg c8, if_neg c10, if_neg c12, if_neg c14, if_neg c16, if_neg c18, if_neg c20, if_pos c21]
      rw [e] at w
      exact w) (fun c2 c4 c6 c8 c10 c12 c14 c16 c18 c20 c22 c23 => by
      have e : g_77 x0 = (0) := by
        unfold g_77
        rw [if_neg c2, if_neg c4, if_neg c6, if_neg c8, if_neg c10, if_neg c12, if_neg c14, if_neg c16, if_neg c18, if_neg c20, if_neg c22, if_pos c23]
      rw [e] at w
      exact w) (fun c2 c4 c6 c8 c10 c12 c14 c16 c18 c20 c22 c24 c25 => by
      have e : g_77 x0 = (0) := by
        unfold g_77
        rw [if_neg c2, if_neg c4, if_neg c6, if_neg c8, if_neg c10, if_neg c12, if_neg c14, if_neg c16, if_neg c18, if_neg c20, if_neg c22, if_neg c24, if_pos c25]
      rw [e] at w
      exact w) (fun c2 c4 c6 c8 c10 c12 c14 c16 c18 c20 c22 c24 c26 c27 => by
      have e : g_77 x0 = (0) := by
        unfold g_77
        rw [if_neg c2, if_neg c4, if_neg c6, if_neg c8, if_neg c10, if_neg c12, if_neg c14, if_neg c16, if_neg c18, if_neg c20, if_neg c22, if_neg c24, if_neg c26, if_pos c27]
      rw [e] at w
      exact w) (fun c2 c4 c6 c8 c10 c12 c14 c16 c18 c20 c22 c24 c26 c28 c29 => by
      have e : g_77 x0 = (0) := by
        unfold g_77
        rw [if_neg c2, if_neg c4, if_neg c6, if_neg c8, if_neg c10, if_neg c12, if_neg c14, if_neg c16, if_neg c18, if_neg c20, if_neg c22, if_neg c24, if_neg c26, if_neg c28, if_pos c29]
      rw [e] at w
      exact w) (fun c2 c4 c6 c8 c10 c12 c14 c16 c18 c20 c22 c24 c26 c28 c30 c31 => by
      have e : g_77 x0 = (0) := by
        unfold g_77
        rw [if_neg c2, if_neg c4, if_neg c6, if_neg c8, if_neg c10, if_neg c12, if_neg c14, if_neg c16, if_neg c18, if_neg c20, if_neg c22, if_neg c24, if_neg c26, if_neg c28, if_neg c30, if_pos c31]
      rw [e] at w
      exact w) (fun c2 c4 c6 c8 c10 c12 c14 c16 c18 c20 c22 c24 c26 c28 c30 c32 c33 => by
      have e : g_77 x0 = (0) := by
        unfold g_77
        rw [if_neg c2, if_neg c4, if_neg c6, if_neg c8, if_neg c10, if_neg c12, if_neg c14, if_neg c16, if_neg c18, if_neg c20, if_neg c22, if_neg c24, if_neg c26, if_neg c28, if_neg c30, if_neg c32, if_pos c33]
      rw [e] at w
      exact w) (fun c2 c4 c6 c8 c10 c12 c14 c16 c18 c20 c22 c24 c26 c28 c30 c32 c34 c35 => by
      have e : g_77 x0 = (0) := by
        unfold g_77
        rw [if_neg c2, if_neg c4, if_neg c6, if_neg c8, if_neg c10, if_neg c12, if_neg c14, if_neg c16, if_neg c18, if_neg c20, if_neg c22, if_neg c24, if_neg c26, if_neg c28, if_neg c30, if_neg c32, if_neg c34, if_pos c35]
      rw [e] at w
      exact w) (fun c2 c4 c6 c8 c10 c12 c14 c16 c18 c20 c22 c24 c26 c28 c30 c32 c34 c36 c37 => by
      have e : g_77 x0 = (0) := by
        unfold g_77
        rw [if_neg c2, if_neg c4, if_neg c6, if_neg c8, if_neg c10, if_neg c12, if_neg c14, if_neg c16, if_neg c18, if_neg c20, if_neg c22, if_neg c24, if_neg c26, if_neg c28, if_neg c30, if_neg c32, if_neg c34, if_neg c36, if_pos c37]
      rw [e] at w
      exact w) (fun c2 c4 c6 c8 c10 c12 c14 c16 c18 c20 c22 c24 c26 c28 c30 c32 c34 c36 c38 c39 => by
      have e : g_77 x0 = (0) := by
        unfold g_77
        rw [if_neg c2, if_neg c4, if_neg c6, if_neg c8, if_neg c10, if_neg c12, if_neg c14, if_neg c16, if_neg c18, if_neg c20, if_neg c22, if_neg c24, if_neg c26, if_neg c28, if_neg c30, if_neg c32, if_neg c34, if_neg c36, if_neg c38, if_pos c39]
      rw [e] at w
      exact w) (fun c2 c4 c6 c8 c10 c12 c14 c16 c18 c20 c22 c24 c26 c28 c30 c32 c34 c36 c38 c40 c41 => by
      have e : g_77 x0 = (0) := by
        unfold g_77
        rw [if_neg c2, if_neg c4, if_neg c6, if_neg c8, if_neg c10, if_neg c12, if_neg c14, if_neg c16, if_neg c18, if_neg c20, if_neg c22, if_neg c24, if_neg c26, if_neg c28, if_neg c30, if_neg c32, if_neg c34, if_neg c36, if_neg c38, if_neg c40, if_pos c41]
      rw [e] at w
      exact w) (fun c2 c4 c6 c8 c10 c12 c14 c16 c18 c20 c22 c24 c26 c28 c30 c32 c34 c36 c38 c40 c42 c43 => by
      have e : g_77 x0 = (0) := by
        unfold g_77
        rw [if_neg c2, if_neg c4, if_neg c6, if_neg c8, if_neg c10, if_neg c12, if_neg c14, if_neg c16, if_neg c18, if_neg c20, if_neg c22, if_neg c24, if_neg c26, if_neg c28, if_neg c30, if_neg c32, if_neg c34, if_neg c36, if_neg c38, if_neg c40, if_neg c42, if_pos c43]
      rw [e] at w
      exact w) (fun c2 c4 c6 c8 c10 c12 c14 c16 c18 c20 c22 c24 c26 c28 c30 c32 c34 c36 c38 c40 c42 c44 c45 => by
      have e : g_77 x0 = (1) := by
        unfold g_77
        rw [if_neg c2, if_neg c4, if_neg c6, if_neg c8, if_neg c10, if_neg c12, if_neg c14, if_neg c16, if_neg c18, if_neg c20, if_neg c22, if_neg c24, if_neg c26, if_neg c28, if_neg c30, if_neg c32, if_neg c34, if_neg c36, if_neg c38, if_neg c40, if_neg c42, if_neg c44, if_pos c45]
      rw [e] at w
      exact w) (fun c2 c4 c6 c8 c10 c12 c14 c16 c18 c20 c22 c24 c26 c28 c30 c32 c34 c36 c38 c40 c42 c44 c46 c47 => by
      have e : g_77 x0 = (1) := by
        unfold g_77
        rw [if_neg c2, if_neg c4, if_neg c6, if_neg c8, if_neg c10, if_neg c12, if_neg c14, if_neg c16, if_neg c18, if_neg c20, if_neg c22, if_neg c24, if_neg c26, if_neg c28, if_neg c30, if_neg c32, if_neg c34, if_neg c36, if_neg c38, if_neg c40, if_neg c42, if_neg c44, if_neg c46, if_pos c47]
      rw [e] at w
      exact w) (fun c2 c4 c6 c8 c10 c12 c14 c16 c18 c20 c22 c24 c26 c28 c30 c32 c34 c36 c38 c40 c42 c44 c46 c48 c49 => by
      have e : g_77 x0 = (1) := by
        unfold g_77
        rw [if_neg c2, if_neg c4, if_neg c6, if_neg c8, if_neg c10, if_neg c12, if_neg c14, if_neg c16, if_neg c18, if_neg c20, if_neg c22, if_neg c24, if_neg c26, if_neg c28, if_neg c30, if_neg c32, if_neg c34, if_neg c36, if_neg c38, if_neg c40, if_neg c42, if_neg c44, if_neg c46, if_neg c48, if_pos c49]
      rw [e] at w
      exact w) (fun c2 c4 c6 c8 c10 c12 c14 c16 c18 c20 c22 c24 c26 c28 c30 c32 c34 c36 c38 c40 c42 c44 c46 c48 c50 c51 => by
      have e : g_77 x0 = (1) := by
        unfold g_77
        rw [if_neg c2, if_neg c4, if_neg c6, if_neg c8, if_neg c10, if_neg c12, if_neg c14, if_neg c16, if_neg c18, if_neg c20, if_neg c22, if_neg c24, if_neg c26, if_neg c28, if_neg c30, if_neg c32, if_neg c34, if_neg c36, if_neg c38, if_neg c40, if_neg c42, if_neg c44, if_neg c46, if_neg c48, if_neg c50, if_pos c51]
      rw [e] at w
      exact w) (fun c2 c4 c6 c8 c10 c12 c14 c16 c18 c20 c22 c24 c26 c28 c30 c32 c34 c36 c38 c40 c42 c44 c46 c48 c50 c52 => by
      have e : g_77 x0 = (0) := by
        unfold g_77
        rw [if_neg c2, if_neg c4, if_neg c6, if_neg c8, if_neg c10, if_neg c12, if_neg c14, if_neg c16, if_neg c18, if_neg c20, if_neg c22, if_neg c24, if_neg c26, if_neg c28, if_neg c30, if_neg c32, if_neg c34, if_neg c36, if_neg c38, if_neg c40, if_neg c42, if_neg c44, if_neg c46, if_neg c48, if_neg c50, if_neg c52]
      rw [e] at w
      exact w)
-- 83: DogDecrees$State.cameTo(I)I
set_option maxRecDepth 100000 in
theorem k_83_0 {x1 : Int32}
    (h1 : x1 < 0 → Q (some (.int (-1))) (mkH hi hl sw kp))
    (h2 : ¬ (x1 < 0) → (60) ≤ x1 → Q (some (.int (-1))) (mkH hi hl sw kp))
    (h3 : ¬ (x1 < 0) → ¬ ((60) ≤ x1) → x1 < (hi 28 1) → vp_in ((((hi 28 1) - (1)) - x1) - (((hi 28 1) - (1)) - x1) / (60) * (60)) 60)
    (h4 : ¬ (x1 < 0) → ¬ ((60) ≤ x1) → x1 < (hi 28 1) → Q (some (.int (hi 32 ((((hi 28 1) - (1)) - x1) - (((hi 28 1) - (1)) - x1) / (60) * (60)).toNatClampNeg))) (mkH hi hl sw kp))
    (h5 : ¬ (x1 < 0) → ¬ ((60) ≤ x1) → ¬ (x1 < (hi 28 1)) → Q (some (.int (-1))) (mkH hi hl sw kp))
    : cW cd_83 d Q 0 [some (.ref 28), some (.int x1)] [] (mkH hi hl sw kp) :=
  cW.run (am_in []) 21 (And.intro (fun c1 => (cQ.of (h1 c1))) (fun c2 => (And.intro (fun c3 => (cQ.of (h2 c2 c3))) (fun c4 => (And.intro (fun c5 => (And.intro (show ¬ ((60) : Int32) = 0 by decide +kernel) (And.intro (h3 c2 c4 c5) (cQ.of (h4 c2 c4 c5))))) (fun c6 => (cQ.of (h5 c2 c4 c6))))))))
theorem e_83 {x1 : Int32}
    (h1 : x1 < 0 → Q (some (.int (-1))) (mkH hi hl sw kp))
    (h2 : ¬ (x1 < 0) → (60) ≤ x1 → Q (some (.int (-1))) (mkH hi hl sw kp))
    (h3 : ¬ (x1 < 0) → ¬ ((60) ≤ x1) → x1 < (hi 28 1) → vp_in ((((hi 28 1) - (1)) - x1) - (((hi 28 1) - (1)) - x1) / (60) * (60)) 60)
    (h4 : ¬ (x1 < 0) → ¬ ((60) ≤ x1) → x1 < (hi 28 1) → Q (some (.int (hi 32 ((((hi 28 1) - (1)) - x1) - (((hi 28 1) - (1)) - x1) / (60) * (60)).toNatClampNeg))) (mkH hi hl sw kp))
    (h5 : ¬ (x1 < 0) → ¬ ((60) ≤ x1) → ¬ (x1 < (hi 28 1)) → Q (some (.int (-1))) (mkH hi hl sw kp))
    : cS (d + 1) 83 [(.ref 28), (.int x1)] (mkH hi hl sw kp) Q := cS.of rfl (k_83_0 h1 h2 h3 h4 h5)
def g_83 (hi : Nat → Nat → Int32) (x1 : Int32) : Int32 := if x1 < 0 then (-1) else (if (60) ≤ x1 then (-1) else (if x1 < (hi 28 1) then (hi 32 ((((hi 28 1) - (1)) - x1) - (((hi 28 1) - (1)) - x1) / (60) * (60)).toNatClampNeg) else ((-1))))
set_option maxRecDepth 100000 in
theorem s_83 {x1 : Int32} (o1 : ¬ (x1 < 0) → ¬ ((60) ≤ x1) → x1 < (hi 28 1) → vp_in ((((hi 28 1) - (1)) - x1) - (((hi 28 1) - (1)) - x1) / (60) * (60)) 60) (w : Q (some (.int (g_83 hi x1))) (mkH hi hl sw kp)) : cS (d + 1) 83 [(.ref 28), (.int x1)] (mkH hi hl sw kp) Q :=
  e_83 (fun c1 => by
      have e : g_83 hi x1 = (-1) := by
        unfold g_83
        rw [if_pos c1]
      rw [e] at w
      exact w) (fun c2 c3 => by
      have e : g_83 hi x1 = (-1) := by
        unfold g_83
        rw [if_neg c2, if_pos c3]
      rw [e] at w
      exact w) o1 (fun c2 c4 c5 => by
      have e : g_83 hi x1 = (hi 32 ((((hi 28 1) - (1)) - x1) - (((hi 28 1) - (1)) - x1) / (60) * (60)).toNatClampNeg) := by
        unfold g_83
        rw [if_neg c2, if_neg c4, if_pos c5]
      rw [e] at w
      exact w) (fun c2 c4 c6 => by
      have e : g_83 hi x1 = (-1) := by
        unfold g_83
        rw [if_neg c2, if_neg c4, if_neg c6]
      rw [e] at w
      exact w)
-- 85: DogDecrees$State.allBones()I
set_option maxRecDepth 100000 in
theorem k_85_0
    (h1 : cW cd_85 d Q 4 [some (.ref 28), some (.int (0)), some (.int (0))] [] (mkH hi hl sw kp))
    : cW cd_85 d Q 0 [some (.ref 28), none, none] [] (mkH hi hl sw kp) :=
  cW.run (am_in [4]) 4 (And.intro (Nat.le_of_ble_eq_true rfl) (And.intro (Nat.le_of_ble_eq_true rfl) (h1)))
theorem e_85
    (h1 : cW cd_85 d Q 4 [some (.ref 28), some (.int (0)), some (.int (0))] [] (mkH hi hl sw kp))
    : cS (d + 1) 85 [(.ref 28)] (mkH hi hl sw kp) Q := cS.of rfl (k_85_0 h1)
set_option maxRecDepth 100000 in
theorem k_85_4 {x1 : Int32} {x2 : Int32}
    (h1 : (8) ≤ x2 → Q (some (.int x1)) (mkH hi hl sw kp))
    (h2 : ¬ ((8) ≤ x2) → vp_in x2 8)
    (h3 : ¬ ((8) ≤ x2) → cW cd_85 d Q 4 [some (.ref 28), some (.int (x1 + (hi 29 x2.toNatClampNeg))), some (.int (x2 + (1)))] [] (mkH hi hl sw kp))
    : cW cd_85 d Q 4 [some (.ref 28), some (.int x1), some (.int x2)] [] (mkH hi hl sw kp) :=
  cW.run (am_in [4]) 12 (And.intro (fun c1 => (cQ.of (h1 c1))) (fun c2 => (And.intro (h2 c2) (And.intro (Nat.le_of_ble_eq_true rfl) (And.intro (Nat.le_of_ble_eq_true rfl) (h3 c2))))))
-- 87: DogDecrees$Tape.addNumber(I)V
set_option maxRecDepth 100000 in
theorem k_87_0 {x1 : Int32}
    (h1 : cW cd_87 d Q 3 [some (.ref 1), some (.int x1), some (.int (24))] [] (mkH hi hl sw kp))
    : cW cd_87 d Q 0 [some (.ref 1), some (.int x1), none] [] (mkH hi hl sw kp) :=
  cW.run (am_in [3]) 2 (And.intro (Nat.le_of_ble_eq_true rfl) (h1))
theorem e_87 {x1 : Int32}
    (h1 : cW cd_87 d Q 3 [some (.ref 1), some (.int x1), some (.int (24))] [] (mkH hi hl sw kp))
    : cS (d + 1) 87 [(.ref 1), (.int x1)] (mkH hi hl sw kp) Q := cS.of rfl (k_87_0 h1)
set_option maxRecDepth 100000 in
theorem k_87_3 {x1 : Int32} {x2 : Int32}
    (h1 : x2 < 0 → Q none (mkH hi hl sw kp))
    (h2 : ¬ (x2 < 0) → (1600) ≤ (hi 1 1) → cW cd_87 d Q 3 [some (.ref 1), some (.int x1), some (.int (x2 + (-8)))] [] (mkH hi hl sw kp))
    (h3 : ¬ (x2 < 0) → ¬ ((1600) ≤ (hi 1 1)) → vp_in (hi 1 1) 1600)
    (h4 : ¬ (x2 < 0) → ¬ ((1600) ≤ (hi 1 1)) → cW cd_87 d Q 3 [some (.ref 1), some (.int x1), some (.int (x2 + (-8)))] [] (mkH (u2 (u2 hi 2 (hi 1 1).toNatClampNeg (vp_nar .byte ((x1 >>> (x2 &&& 31)).toInt8.toInt32))) 1 1 ((hi 1 1) + (1))) hl sw kp))
    : cW cd_87 d Q 3 [some (.ref 1), some (.int x1), some (.int x2)] [] (mkH hi hl sw kp) :=
  cW.run (am_in [3]) 23 (And.intro (fun c1 => (cQ.of (h1 c1))) (fun c2 => (And.intro (fun c3 => (And.intro (Nat.le_of_ble_eq_true rfl) (h2 c2 c3))) (fun c4 => (And.intro (h3 c2 c4) (And.intro rfl (And.intro (Nat.le_of_ble_eq_true rfl) (h4 c2 c4))))))))
-- 88: DogDecrees$Tape.byteAt(I)I
set_option maxRecDepth 100000 in
theorem k_88_0 {x1 : Int32}
    (h1 : x1 < 0 → Q (some (.int (-1))) (mkH hi hl sw kp))
    (h2 : ¬ (x1 < 0) → (hi 1 1) ≤ x1 → Q (some (.int (-1))) (mkH hi hl sw kp))
    (h3 : ¬ (x1 < 0) → ¬ ((hi 1 1) ≤ x1) → x1 < (1600) → Q (some (.int ((hi 2 x1.toNatClampNeg) &&& (255)))) (mkH hi hl sw kp))
    (h4 : ¬ (x1 < 0) → ¬ ((hi 1 1) ≤ x1) → ¬ (x1 < (1600)) → Q (some (.int (-1))) (mkH hi hl sw kp))
    : cW cd_88 d Q 0 [some (.ref 1), some (.int x1)] [] (mkH hi hl sw kp) :=
  cW.run (am_in []) 16 (And.intro (fun c1 => (cQ.of (h1 c1))) (fun c2 => (And.intro (fun c3 => (cQ.of (h2 c2 c3))) (fun c4 => (And.intro (fun c5 => (And.intro (vin_a c2 c5 rfl) (cQ.of (h3 c2 c4 c5)))) (fun c6 => (cQ.of (h4 c2 c4 c6))))))))
theorem e_88 {x1 : Int32}
    (h1 : x1 < 0 → Q (some (.int (-1))) (mkH hi hl sw kp))
    (h2 : ¬ (x1 < 0) → (hi 1 1) ≤ x1 → Q (some (.int (-1))) (mkH hi hl sw kp))
    (h3 : ¬ (x1 < 0) → ¬ ((hi 1 1) ≤ x1) → x1 < (1600) → Q (some (.int ((hi 2 x1.toNatClampNeg) &&& (255)))) (mkH hi hl sw kp))
    (h4 : ¬ (x1 < 0) → ¬ ((hi 1 1) ≤ x1) → ¬ (x1 < (1600)) → Q (some (.int (-1))) (mkH hi hl sw kp))
    : cS (d + 1) 88 [(.ref 1), (.int x1)] (mkH hi hl sw kp) Q := cS.of rfl (k_88_0 h1 h2 h3 h4)
def g_88 (hi : Nat → Nat → Int32) (x1 : Int32) : Int32 := if x1 < 0 then (-1) else (if (hi 1 1) ≤ x1 then (-1) else (if x1 < (1600) then ((hi 2 x1.toNatClampNeg) &&& (255)) else ((-1))))
set_option maxRecDepth 100000 in
theorem s_88 {x1 : Int32} (w : Q (some (.int (g_88 hi x1))) (mkH hi hl sw kp)) : cS (d + 1) 88 [(.ref 1), (.int x1)] (mkH hi hl sw kp) Q :=
  e_88 (fun c1 => by
      have e : g_88 hi x1 = (-1) := by
        unfold g_88
        rw [if_pos c1]
      rw [e] at w
      exact w) (fun c2 c3 => by
      have e : g_88 hi x1 = (-1) := by
        unfold g_88
        rw [if_neg c2, if_pos c3]
      rw [e] at w
      exact w) (fun c2 c4 c5 => by
      have e : g_88 hi x1 = ((hi 2 x1.toNatClampNeg) &&& (255)) := by
        unfold g_88
        rw [if_neg c2, if_neg c4, if_pos c5]
      rw [e] at w
      exact w) (fun c2 c4 c6 => by
      have e : g_88 hi x1 = (-1) := by
        unfold g_88
        rw [if_neg c2, if_neg c4, if_neg c6]
      rw [e] at w
      exact w)
-- 104a: DogDecrees$Telling.indexOfName([JI)I
set_option maxRecDepth 100000 in
theorem k_104a_0 {x2 : Int32}
    (h1 : cW cd_104 d Q 2 [some (.ref 14), some (.ref 15), some (.int x2), some (.int (0))] [] (mkH hi hl sw kp))
    : cW cd_104 d Q 0 [some (.ref 14), some (.ref 15), some (.int x2), none] [] (mkH hi hl sw kp) :=
  cW.run (am_in [2]) 2 (And.intro (Nat.le_of_ble_eq_true rfl) (h1))
theorem e_104a {x2 : Int32}
    (h1 : cW cd_104 d Q 2 [some (.ref 14), some (.ref 15), some (.int x2), some (.int (0))] [] (mkH hi hl sw kp))
    : cS (d + 1) 104 [(.ref 14), (.ref 15), (.int x2)] (mkH hi hl sw kp) Q := cS.of rfl (k_104a_0 h1)
set_option maxRecDepth 100000 in
theorem k_104a_2 {x2 : Int32} {x3 : Int32}
    (h1 : x2 ≤ x3 → Q (some (.int (-1))) (mkH hi hl sw kp))
    (h2 : ¬ (x2 ≤ x3) → (Int32.ofNat 4) ≤ x3 → Q (some (.int (-1))) (mkH hi hl sw kp))
    (h3 : ¬ (x2 ≤ x3) → ¬ ((Int32.ofNat 4) ≤ x3) → vp_in x3 4)
    (h4 : ¬ (x2 ≤ x3) → ¬ ((Int32.ofNat 4) ≤ x3) → (lg_cmp (hl 15 x3.toNatClampNeg) (hl 3 5)) = 0 → Q (some (.int x3)) (mkH hi hl sw kp))
    (h5 : ¬ (x2 ≤ x3) → ¬ ((Int32.ofNat 4) ≤ x3) → ¬ ((lg_cmp (hl 15 x3.toNatClampNeg) (hl 3 5)) = 0) → cW cd_104 d Q 2 [some (.ref 14), some (.ref 15), some (.int x2), some (.int (x3 + (1)))] [] (mkH hi hl sw kp))
    : cW cd_104 d Q 2 [some (.ref 14), some (.ref 15), some (.int x2), some (.int x3)] [] (mkH hi hl sw kp) :=
  cW.run (am_in [2]) 17 (And.intro (fun c1 => (cQ.of (h1 c1))) (fun c2 => (And.intro (fun c3 => (cQ.of (h2 c2 c3))) (fun c4 => (And.intro (h3 c2 c4) (And.intro (fun c5 => (cQ.of (h4 c2 c4 c5))) (fun c6 => (And.intro (Nat.le_of_ble_eq_true rfl) (h5 c2 c4 c6)))))))))
-- 104b: DogDecrees$Telling.indexOfName([JI)I
set_option maxRecDepth 100000 in
theorem k_104b_0 {x2 : Int32}
    (h1 : cW cd_104 d Q 2 [some (.ref 14), some (.ref 16), some (.int x2), some (.int (0))] [] (mkH hi hl sw kp))
    : cW cd_104 d Q 0 [some (.ref 14), some (.ref 16), some (.int x2), none] [] (mkH hi hl sw kp) :=
  cW.run (am_in [2]) 2 (And.intro (Nat.le_of_ble_eq_true rfl) (h1))
theorem e_104b {x2 : Int32}
    (h1 : cW cd_104 d Q 2 [some (.ref 14), some (.ref 16), some (.int x2), some (.int (0))] [] (mkH hi hl sw kp))
    : cS (d + 1) 104 [(.ref 14), (.ref 16), (.int x2)] (mkH hi hl sw kp) Q := cS.of rfl (k_104b_0 h1)
set_option maxRecDepth 100000 in
theorem k_104b_2 {x2 : Int32} {x3 : Int32}
    (h1 : x2 ≤ x3 → Q (some (.int (-1))) (mkH hi hl sw kp))
    (h2 : ¬ (x2 ≤ x3) → (Int32.ofNat 8) ≤ x3 → Q (some (.int (-1))) (mkH hi hl sw kp))
    (h3 : ¬ (x2 ≤ x3) → ¬ ((Int32.ofNat 8) ≤ x3) → vp_in x3 8)
    (h4 : ¬ (x2 ≤ x3) → ¬ ((Int32.ofNat 8) ≤ x3) → (lg_cmp (hl 16 x3.toNatClampNeg) (hl 3 5)) = 0 → Q (some (.int x3)) (mkH hi hl sw kp))
    (h5 : ¬ (x2 ≤ x3) → ¬ ((Int32.ofNat 8) ≤ x3) → ¬ ((lg_cmp (hl 16 x3.toNatClampNeg) (hl 3 5)) = 0) → cW cd_104 d Q 2 [some (.ref 14), some (.ref 16), some (.int x2), some (.int (x3 + (1)))] [] (mkH hi hl sw kp))
    : cW cd_104 d Q 2 [some (.ref 14), some (.ref 16), some (.int x2), some (.int x3)] [] (mkH hi hl sw kp) :=
  cW.run (am_in [2]) 17 (And.intro (fun c1 => (cQ.of (h1 c1))) (fun c2 => (And.intro (fun c3 => (cQ.of (h2 c2 c3))) (fun c4 => (And.intro (h3 c2 c4) (And.intro (fun c5 => (cQ.of (h4 c2 c4 c5))) (fun c6 => (And.intro (Nat.le_of_ble_eq_true rfl) (h5 c2 c4 c6)))))))))
-- 104c: DogDecrees$Telling.indexOfName([JI)I
set_option maxRecDepth 100000 in
theorem k_104c_0 {x2 : Int32}
    (h1 : cW cd_104 d Q 2 [some (.ref 14), some (.ref 17), some (.int x2), some (.int (0))] [] (mkH hi hl sw kp))
    : cW cd_104 d Q 0 [some (.ref 14), some (.ref 17), some (.int x2), none] [] (mkH hi hl sw kp) :=
  cW.run (am_in [2]) 2 (And.intro (Nat.le_of_ble_eq_true rfl) (h1))
theorem e_104c {x2 : Int32}
    (h1 : cW cd_104 d Q 2 [some (.ref 14), some (.ref 17), some (.int x2), some (.int (0))] [] (mkH hi hl sw kp))
    : cS (d + 1) 104 [(.ref 14), (.ref 17), (.int x2)] (mkH hi hl sw kp) Q := cS.of rfl (k_104c_0 h1)
set_option maxRecDepth 100000 in
theorem k_104c_2 {x2 : Int32} {x3 : Int32}
    (h1 : x2 ≤ x3 → Q (some (.int (-1))) (mkH hi hl sw kp))
    (h2 : ¬ (x2 ≤ x3) → (Int32.ofNat 4) ≤ x3 → Q (some (.int (-1))) (mkH hi hl sw kp))
    (h3 : ¬ (x2 ≤ x3) → ¬ ((Int32.ofNat 4) ≤ x3) → vp_in x3 4)
    (h4 : ¬ (x2 ≤ x3) → ¬ ((Int32.ofNat 4) ≤ x3) → (lg_cmp (hl 17 x3.toNatClampNeg) (hl 3 5)) = 0 → Q (some (.int x3)) (mkH hi hl sw kp))
    (h5 : ¬ (x2 ≤ x3) → ¬ ((Int32.ofNat 4) ≤ x3) → ¬ ((lg_cmp (hl 17 x3.toNatClampNeg) (hl 3 5)) = 0) → cW cd_104 d Q 2 [some (.ref 14), some (.ref 17), some (.int x2), some (.int (x3 + (1)))] [] (mkH hi hl sw kp))
    : cW cd_104 d Q 2 [some (.ref 14), some (.ref 17), some (.int x2), some (.int x3)] [] (mkH hi hl sw kp) :=
  cW.run (am_in [2]) 17 (And.intro (fun c1 => (cQ.of (h1 c1))) (fun c2 => (And.intro (fun c3 => (cQ.of (h2 c2 c3))) (fun c4 => (And.intro (h3 c2 c4) (And.intro (fun c5 => (cQ.of (h4 c2 c4 c5))) (fun c6 => (And.intro (Nat.le_of_ble_eq_true rfl) (h5 c2 c4 c6)))))))))
-- 108: DogDecrees$Village.hasPlace(I)Z
set_option maxRecDepth 100000 in
theorem k_108_0 {x1 : Int32}
    (h1 : x1 < 0 → Q (some (.int (0))) (mkH hi hl sw kp))
    (h2 : ¬ (x1 < 0) → (hi 19 1) ≤ x1 → Q (some (.int (0))) (mkH hi hl sw kp))
    (h3 : ¬ (x1 < 0) → ¬ ((hi 19 1) ≤ x1) → (8) ≤ x1 → Q (some (.int (0))) (mkH hi hl sw kp))
    (h4 : ¬ (x1 < 0) → ¬ ((hi 19 1) ≤ x1) → ¬ ((8) ≤ x1) → Q (some (.int (1))) (mkH hi hl sw kp))
    : cW cd_108 d Q 0 [some (.ref 19), some (.int x1)] [] (mkH hi hl sw kp) :=
  cW.run (am_in []) 12 (And.intro (fun c1 => (And.intro (Or.inl rfl) (cQ.of (h1 c1)))) (fun c2 => (And.intro (fun c3 => (And.intro (Or.inl rfl) (cQ.of (h2 c2 c3)))) (fun c4 => (And.intro (fun c5 => (And.intro (Or.inl rfl) (cQ.of (h3 c2 c4 c5)))) (fun c6 => (And.intro (Or.inr rfl) (cQ.of (h4 c2 c4 c6)))))))))
theorem e_108 {x1 : Int32}
    (h1 : x1 < 0 → Q (some (.int (0))) (mkH hi hl sw kp))
    (h2 : ¬ (x1 < 0) → (hi 19 1) ≤ x1 → Q (some (.int (0))) (mkH hi hl sw kp))
    (h3 : ¬ (x1 < 0) → ¬ ((hi 19 1) ≤ x1) → (8) ≤ x1 → Q (some (.int (0))) (mkH hi hl sw kp))
    (h4 : ¬ (x1 < 0) → ¬ ((hi 19 1) ≤ x1) → ¬ ((8) ≤ x1) → Q (some (.int (1))) (mkH hi hl sw kp))
    : cS (d + 1) 108 [(.ref 19), (.int x1)] (mkH hi hl sw kp) Q := cS.of rfl (k_108_0 h1 h2 h3 h4)
def g_108 (hi : Nat → Nat → Int32) (x1 : Int32) : Int32 := if x1 < 0 then (0) else (if (hi 19 1) ≤ x1 then (0) else (if (8) ≤ x1 then (0) else ((1))))
theorem g_108_01 (hi : Nat → Nat → Int32) (x1 : Int32) : g_108 hi x1 = 0 ∨ g_108 hi x1 = 1 := by
  unfold g_108
  exact (ite01 (Or.inl rfl) (ite01 (Or.inl rfl) (ite01 (Or.inl rfl) (Or.inr rfl))))
set_option maxRecDepth 100000 in
theorem s_108 {x1 : Int32} (w : Q (some (.int (g_108 hi x1))) (mkH hi hl sw kp)) : cS (d + 1) 108 [(.ref 19), (.int x1)] (mkH hi hl sw kp) Q :=
  e_108 (fun c1 => by
      have e : g_108 hi x1 = (0) := by
        unfold g_108
        rw [if_pos c1]
      rw [e] at w
      exact w) (fun c2 c3 => by
      have e : g_108 hi x1 = (0) := by
        unfold g_108
        rw [if_neg c2, if_pos c3]
      rw [e] at w
      exact w) (fun c2 c4 c5 => by
      have e : g_108 hi x1 = (0) := by
        unfold g_108
        rw [if_neg c2, if_neg c4, if_pos c5]
      rw [e] at w
      exact w) (fun c2 c4 c6 => by
      have e : g_108 hi x1 = (1) := by
        unfold g_108
        rw [if_neg c2, if_neg c4, if_neg c6]
      rw [e] at w
      exact w)
-- 108d: DogDecrees$Village.hasPlace(I)Z
set_option maxRecDepth 100000 in
theorem k_108d_0 {x1 : Int32}
    (h1 : x1 < 0 → Q (some (.int (0))) (mkH hi hl sw kp))
    (h2 : ¬ (x1 < 0) → (hi 5 1) ≤ x1 → Q (some (.int (0))) (mkH hi hl sw kp))
    (h3 : ¬ (x1 < 0) → ¬ ((hi 5 1) ≤ x1) → (8) ≤ x1 → Q (some (.int (0))) (mkH hi hl sw kp))
    (h4 : ¬ (x1 < 0) → ¬ ((hi 5 1) ≤ x1) → ¬ ((8) ≤ x1) → Q (some (.int (1))) (mkH hi hl sw kp))
    : cW cd_108 d Q 0 [some (.ref 5), some (.int x1)] [] (mkH hi hl sw kp) :=
  cW.run (am_in []) 12 (And.intro (fun c1 => (And.intro (Or.inl rfl) (cQ.of (h1 c1)))) (fun c2 => (And.intro (fun c3 => (And.intro (Or.inl rfl) (cQ.of (h2 c2 c3)))) (fun c4 => (And.intro (fun c5 => (And.intro (Or.inl rfl) (cQ.of (h3 c2 c4 c5)))) (fun c6 => (And.intro (Or.inr rfl) (cQ.of (h4 c2 c4 c6)))))))))
theorem e_108d {x1 : Int32}
    (h1 : x1 < 0 → Q (some (.int (0))) (mkH hi hl sw kp))
    (h2 : ¬ (x1 < 0) → (hi 5 1) ≤ x1 → Q (some (.int (0))) (mkH hi hl sw kp))
    (h3 : ¬ (x1 < 0) → ¬ ((hi 5 1) ≤ x1) → (8) ≤ x1 → Q (some (.int (0))) (mkH hi hl sw kp))
    (h4 : ¬ (x1 < 0) → ¬ ((hi 5 1) ≤ x1) → ¬ ((8) ≤ x1) → Q (some (.int (1))) (mkH hi hl sw kp))
    : cS (d + 1) 108 [(.ref 5), (.int x1)] (mkH hi hl sw kp) Q := cS.of rfl (k_108d_0 h1 h2 h3 h4)
def g_108d (hi : Nat → Nat → Int32) (x1 : Int32) : Int32 := if x1 < 0 then (0) else (if (hi 5 1) ≤ x1 then (0) else (if (8) ≤ x1 then (0) else ((1))))
theorem g_108d_01 (hi : Nat → Nat → Int32) (x1 : Int32) : g_108d hi x1 = 0 ∨ g_108d hi x1 = 1 := by
  unfold g_108d
  exact (ite01 (Or.inl rfl) (ite01 (Or.inl rfl) (ite01 (Or.inl rfl) (Or.inr rfl))))
set_option maxRecDepth 100000 in
theorem s_108d {x1 : Int32} (w : Q (some (.int (g_108d hi x1))) (mkH hi hl sw kp)) : cS (d + 1) 108 [(.ref 5), (.int x1)] (mkH hi hl sw kp) Q :=
  e_108d (fun c1 => by
      have e : g_108d hi x1 = (0) := by
        unfold g_108d
        rw [if_pos c1]
      rw [e] at w
      exact w) (fun c2 c3 => by
      have e : g_108d hi x1 = (0) := by
        unfold g_108d
        rw [if_neg c2, if_pos c3]
      rw [e] at w
      exact w) (fun c2 c4 c5 => by
      have e : g_108d hi x1 = (0) := by
        unfold g_108d
        rw [if_neg c2, if_neg c4, if_pos c5]
      rw [e] at w
      exact w) (fun c2 c4 c6 => by
      have e : g_108d hi x1 = (1) := by
        unfold g_108d
        rw [if_neg c2, if_neg c4, if_neg c6]
      rw [e] at w
      exact w)
-- 109: DogDecrees$Village.hasCase(I)Z
set_option maxRecDepth 100000 in
theorem k_109_0 {x1 : Int32}
    (h1 : x1 < 0 → Q (some (.int (0))) (mkH hi hl sw kp))
    (h2 : ¬ (x1 < 0) → (hi 19 3) ≤ x1 → Q (some (.int (0))) (mkH hi hl sw kp))
    (h3 : ¬ (x1 < 0) → ¬ ((hi 19 3) ≤ x1) → (4) ≤ x1 → Q (some (.int (0))) (mkH hi hl sw kp))
    (h4 : ¬ (x1 < 0) → ¬ ((hi 19 3) ≤ x1) → ¬ ((4) ≤ x1) → Q (some (.int (1))) (mkH hi hl sw kp))
    : cW cd_109 d Q 0 [some (.ref 19), some (.int x1)] [] (mkH hi hl sw kp) :=
  cW.run (am_in []) 12 (And.intro (fun c1 => (And.intro (Or.inl rfl) (cQ.of (h1 c1)))) (fun c2 => (And.intro (fun c3 => (And.intro (Or.inl rfl) (cQ.of (h2 c2 c3)))) (fun c4 => (And.intro (fun c5 => (And.intro (Or.inl rfl) (cQ.of (h3 c2 c4 c5)))) (fun c6 => (And.intro (Or.inr rfl) (cQ.of (h4 c2 c4 c6)))))))))
theorem e_109 {x1 : Int32}
    (h1 : x1 < 0 → Q (some (.int (0))) (mkH hi hl sw kp))
    (h2 : ¬ (x1 < 0) → (hi 19 3) ≤ x1 → Q (some (.int (0))) (mkH hi hl sw kp))
    (h3 : ¬ (x1 < 0) → ¬ ((hi 19 3) ≤ x1) → (4) ≤ x1 → Q (some (.int (0))) (mkH hi hl sw kp))
    (h4 : ¬ (x1 < 0) → ¬ ((hi 19 3) ≤ x1) → ¬ ((4) ≤ x1) → Q (some (.int (1))) (mkH hi hl sw kp))
    : cS (d + 1) 109 [(.ref 19), (.int x1)] (mkH hi hl sw kp) Q := cS.of rfl (k_109_0 h1 h2 h3 h4)
def g_109 (hi : Nat → Nat → Int32) (x1 : Int32) : Int32 := if x1 < 0 then (0) else (if (hi 19 3) ≤ x1 then (0) else (if (4) ≤ x1 then (0) else ((1))))
theorem g_109_01 (hi : Nat → Nat → Int32) (x1 : Int32) : g_109 hi x1 = 0 ∨ g_109 hi x1 = 1 := by
  unfold g_109
  exact (ite01 (Or.inl rfl) (ite01 (Or.inl rfl) (ite01 (Or.inl rfl) (Or.inr rfl))))
set_option maxRecDepth 100000 in
theorem s_109 {x1 : Int32} (w : Q (some (.int (g_109 hi x1))) (mkH hi hl sw kp)) : cS (d + 1) 109 [(.ref 19), (.int x1)] (mkH hi hl sw kp) Q :=
  e_109 (fun c1 => by
      have e : g_109 hi x1 = (0) := by
        unfold g_109
        rw [if_pos c1]
      rw [e] at w
      exact w) (fun c2 c3 => by
      have e : g_109 hi x1 = (0) := by
        unfold g_109
        rw [if_neg c2, if_pos c3]
      rw [e] at w
      exact w) (fun c2 c4 c5 => by
      have e : g_109 hi x1 = (0) := by
        unfold g_109
        rw [if_neg c2, if_neg c4, if_pos c5]
      rw [e] at w
      exact w) (fun c2 c4 c6 => by
      have e : g_109 hi x1 = (1) := by
        unfold g_109
        rw [if_neg c2, if_neg c4, if_neg c6]
      rw [e] at w
      exact w)
-- 109d: DogDecrees$Village.hasCase(I)Z
set_option maxRecDepth 100000 in
theorem k_109d_0 {x1 : Int32}
    (h1 : x1 < 0 → Q (some (.int (0))) (mkH hi hl sw kp))
    (h2 : ¬ (x1 < 0) → (hi 5 3) ≤ x1 → Q (some (.int (0))) (mkH hi hl sw kp))
    (h3 : ¬ (x1 < 0) → ¬ ((hi 5 3) ≤ x1) → (4) ≤ x1 → Q (some (.int (0))) (mkH hi hl sw kp))
    (h4 : ¬ (x1 < 0) → ¬ ((hi 5 3) ≤ x1) → ¬ ((4) ≤ x1) → Q (some (.int (1))) (mkH hi hl sw kp))
    : cW cd_109 d Q 0 [some (.ref 5), some (.int x1)] [] (mkH hi hl sw kp) :=
  cW.run (am_in []) 12 (And.intro (fun c1 => (And.intro (Or.inl rfl) (cQ.of (h1 c1)))) (fun c2 => (And.intro (fun c3 => (And.intro (Or.inl rfl) (cQ.of (h2 c2 c3)))) (fun c4 => (And.intro (fun c5 => (And.intro (Or.inl rfl) (cQ.of (h3 c2 c4 c5)))) (fun c6 => (And.intro (Or.inr rfl) (cQ.of (h4 c2 c4 c6)))))))))
theorem e_109d {x1 : Int32}
    (h1 : x1 < 0 → Q (some (.int (0))) (mkH hi hl sw kp))
    (h2 : ¬ (x1 < 0) → (hi 5 3) ≤ x1 → Q (some (.int (0))) (mkH hi hl sw kp))
    (h3 : ¬ (x1 < 0) → ¬ ((hi 5 3) ≤ x1) → (4) ≤ x1 → Q (some (.int (0))) (mkH hi hl sw kp))
    (h4 : ¬ (x1 < 0) → ¬ ((hi 5 3) ≤ x1) → ¬ ((4) ≤ x1) → Q (some (.int (1))) (mkH hi hl sw kp))
    : cS (d + 1) 109 [(.ref 5), (.int x1)] (mkH hi hl sw kp) Q := cS.of rfl (k_109d_0 h1 h2 h3 h4)
def g_109d (hi : Nat → Nat → Int32) (x1 : Int32) : Int32 := if x1 < 0 then (0) else (if (hi 5 3) ≤ x1 then (0) else (if (4) ≤ x1 then (0) else ((1))))
theorem g_109d_01 (hi : Nat → Nat → Int32) (x1 : Int32) : g_109d hi x1 = 0 ∨ g_109d hi x1 = 1 := by
  unfold g_109d
  exact (ite01 (Or.inl rfl) (ite01 (Or.inl rfl) (ite01 (Or.inl rfl) (Or.inr rfl))))
set_option maxRecDepth 100000 in
theorem s_109d {x1 : Int32} (w : Q (some (.int (g_109d hi x1))) (mkH hi hl sw kp)) : cS (d + 1) 109 [(.ref 5), (.int x1)] (mkH hi hl sw kp) Q :=
  e_109d (fun c1 => by
      have e : g_109d hi x1 = (0) := by
        unfold g_109d
        rw [if_pos c1]
      rw [e] at w
      exact w) (fun c2 c3 => by
      have e : g_109d hi x1 = (0) := by
        unfold g_109d
        rw [if_neg c2, if_pos c3]
      rw [e] at w
      exact w) (fun c2 c4 c5 => by
      have e : g_109d hi x1 = (0) := by
        unfold g_109d
        rw [if_neg c2, if_neg c4, if_pos c5]
      rw [e] at w
      exact w) (fun c2 c4 c6 => by
      have e : g_109d hi x1 = (1) := by
        unfold g_109d
        rw [if_neg c2, if_neg c4, if_neg c6]
      rw [e] at w
      exact w)
-- 110: DogDecrees$Village.hasDeed(I)Z
set_option maxRecDepth 100000 in
theorem k_110_0 {x1 : Int32}
    (h1 : x1 < 0 → Q (some (.int (0))) (mkH hi hl sw kp))
    (h2 : ¬ (x1 < 0) → (hi 19 0) ≤ x1 → Q (some (.int (0))) (mkH hi hl sw kp))
    (h3 : ¬ (x1 < 0) → ¬ ((hi 19 0) ≤ x1) → (4) ≤ x1 → Q (some (.int (0))) (mkH hi hl sw kp))
    (h4 : ¬ (x1 < 0) → ¬ ((hi 19 0) ≤ x1) → ¬ ((4) ≤ x1) → Q (some (.int (1))) (mkH hi hl sw kp))
    : cW cd_110 d Q 0 [some (.ref 19), some (.int x1)] [] (mkH hi hl sw kp) :=
  cW.run (am_in []) 12 (And.intro (fun c1 => (And.intro (Or.inl rfl) (cQ.of (h1 c1)))) (fun c2 => (And.intro (fun c3 => (And.intro (Or.inl rfl) (cQ.of (h2 c2 c3)))) (fun c4 => (And.intro (fun c5 => (And.intro (Or.inl rfl) (cQ.of (h3 c2 c4 c5)))) (fun c6 => (And.intro (Or.inr rfl) (cQ.of (h4 c2 c4 c6)))))))))
theorem e_110 {x1 : Int32}
    (h1 : x1 < 0 → Q (some (.int (0))) (mkH hi hl sw kp))
    (h2 : ¬ (x1 < 0) → (hi 19 0) ≤ x1 → Q (some (.int (0))) (mkH hi hl sw kp))
    (h3 : ¬ (x1 < 0) → ¬ ((hi 19 0) ≤ x1) → (4) ≤ x1 → Q (some (.int (0))) (mkH hi hl sw kp))
    (h4 : ¬ (x1 < 0) → ¬ ((hi 19 0) ≤ x1) → ¬ ((4) ≤ x1) → Q (some (.int (1))) (mkH hi hl sw kp))
    : cS (d + 1) 110 [(.ref 19), (.int x1)] (mkH hi hl sw kp) Q := cS.of rfl (k_110_0 h1 h2 h3 h4)
def g_110 (hi : Nat → Nat → Int32) (x1 : Int32) : Int32 := if x1 < 0 then (0) else (if (hi 19 0) ≤ x1 then (0) else (if (4) ≤ x1 then (0) else ((1))))
theorem g_110_01 (hi : Nat → Nat → Int32) (x1 : Int32) : g_110 hi x1 = 0 ∨ g_110 hi x1 = 1 := by
  unfold g_110
  exact (ite01 (Or.inl rfl) (ite01 (Or.inl rfl) (ite01 (Or.inl rfl) (Or.inr rfl))))
set_option maxRecDepth 100000 in
theorem s_110 {x1 : Int32} (w : Q (some (.int (g_110 hi x1))) (mkH hi hl sw kp)) : cS (d + 1) 110 [(.ref 19), (.int x1)] (mkH hi hl sw kp) Q :=
  e_110 (fun c1 => by
      have e : g_110 hi x1 = (0) := by
        unfold g_110
        rw [if_pos c1]
      rw [e] at w
      exact w) (fun c2 c3 => by
      have e : g_110 hi x1 = (0) := by
        unfold g_110
        rw [if_neg c2, if_pos c3]
      rw [e] at w
      exact w) (fun c2 c4 c5 => by
      have e : g_110 hi x1 = (0) := by
        unfold g_110
        rw [if_neg c2, if_neg c4, if_pos c5]
      rw [e] at w
      exact w) (fun c2 c4 c6 => by
      have e : g_110 hi x1 = (1) := by
        unfold g_110
        rw [if_neg c2, if_neg c4, if_neg c6]
      rw [e] at w
      exact w)
-- 110d: DogDecrees$Village.hasDeed(I)Z
set_option maxRecDepth 100000 in
theorem k_110d_0 {x1 : Int32}
    (h1 : x1 < 0 → Q (some (.int (0))) (mkH hi hl sw kp))
    (h2 : ¬ (x1 < 0) → (hi 5 0) ≤ x1 → Q (some (.int (0))) (mkH hi hl sw kp))
    (h3 : ¬ (x1 < 0) → ¬ ((hi 5 0) ≤ x1) → (4) ≤ x1 → Q (some (.int (0))) (mkH hi hl sw kp))
    (h4 : ¬ (x1 < 0) → ¬ ((hi 5 0) ≤ x1) → ¬ ((4) ≤ x1) → Q (some (.int (1))) (mkH hi hl sw kp))
    : cW cd_110 d Q 0 [some (.ref 5), some (.int x1)] [] (mkH hi hl sw kp) :=
  cW.run (am_in []) 12 (And.intro (fun c1 => (And.intro (Or.inl rfl) (cQ.of (h1 c1)))) (fun c2 => (And.intro (fun c3 => (And.intro (Or.inl rfl) (cQ.of (h2 c2 c3)))) (fun c4 => (And.intro (fun c5 => (And.intro (Or.inl rfl) (cQ.of (h3 c2 c4 c5)))) (fun c6 => (And.intro (Or.inr rfl) (cQ.of (h4 c2 c4 c6)))))))))
theorem e_110d {x1 : Int32}
    (h1 : x1 < 0 → Q (some (.int (0))) (mkH hi hl sw kp))
    (h2 : ¬ (x1 < 0) → (hi 5 0) ≤ x1 → Q (some (.int (0))) (mkH hi hl sw kp))
    (h3 : ¬ (x1 < 0) → ¬ ((hi 5 0) ≤ x1) → (4) ≤ x1 → Q (some (.int (0))) (mkH hi hl sw kp))
    (h4 : ¬ (x1 < 0) → ¬ ((hi 5 0) ≤ x1) → ¬ ((4) ≤ x1) → Q (some (.int (1))) (mkH hi hl sw kp))
    : cS (d + 1) 110 [(.ref 5), (.int x1)] (mkH hi hl sw kp) Q := cS.of rfl (k_110d_0 h1 h2 h3 h4)
def g_110d (hi : Nat → Nat → Int32) (x1 : Int32) : Int32 := if x1 < 0 then (0) else (if (hi 5 0) ≤ x1 then (0) else (if (4) ≤ x1 then (0) else ((1))))
theorem g_110d_01 (hi : Nat → Nat → Int32) (x1 : Int32) : g_110d hi x1 = 0 ∨ g_110d hi x1 = 1 := by
  unfold g_110d
  exact (ite01 (Or.inl rfl) (ite01 (Or.inl rfl) (ite01 (Or.inl rfl) (Or.inr rfl))))
set_option maxRecDepth 100000 in
theorem s_110d {x1 : Int32} (w : Q (some (.int (g_110d hi x1))) (mkH hi hl sw kp)) : cS (d + 1) 110 [(.ref 5), (.int x1)] (mkH hi hl sw kp) Q :=
  e_110d (fun c1 => by
      have e : g_110d hi x1 = (0) := by
        unfold g_110d
        rw [if_pos c1]
      rw [e] at w
      exact w) (fun c2 c3 => by
      have e : g_110d hi x1 = (0) := by
        unfold g_110d
        rw [if_neg c2, if_pos c3]
      rw [e] at w
      exact w) (fun c2 c4 c5 => by
      have e : g_110d hi x1 = (0) := by
        unfold g_110d
        rw [if_neg c2, if_neg c4, if_pos c5]
      rw [e] at w
      exact w) (fun c2 c4 c6 => by
      have e : g_110d hi x1 = (1) := by
        unfold g_110d
        rw [if_neg c2, if_neg c4, if_neg c6]
      rw [e] at w
      exact w)
-- 111: DogDecrees$Village.addPlace(II)V
set_option maxRecDepth 100000 in
theorem k_111_0 {x1 : Int32} {x2 : Int32}
    (h1 : (8) ≤ (hi 5 1) → Q none (mkH hi hl sw kp))
    (h2 : ¬ ((8) ≤ (hi 5 1)) → vp_in (hi 5 1) 8)
    (h3 : ¬ ((8) ≤ (hi 5 1)) → Q none (mkH (u2 (u2 (u2 hi 6 (hi 5 1).toNatClampNeg x1) 7 (hi 5 1).toNatClampNeg x2) 5 1 ((hi 5 1) + (1))) hl sw kp))
    : cW cd_111 d Q 0 [some (.ref 5), some (.int x1), some (.int x2)] [] (mkH hi hl sw kp) :=
  cW.run (am_in []) 23 (And.intro (fun c1 => (cQ.of (h1 c1))) (fun c2 => (And.intro (h2 c2) (And.intro (h2 c2) (And.intro rfl (cQ.of (h3 c2)))))))
theorem e_111 {x1 : Int32} {x2 : Int32}
    (h1 : (8) ≤ (hi 5 1) → Q none (mkH hi hl sw kp))
    (h2 : ¬ ((8) ≤ (hi 5 1)) → vp_in (hi 5 1) 8)
    (h3 : ¬ ((8) ≤ (hi 5 1)) → Q none (mkH (u2 (u2 (u2 hi 6 (hi 5 1).toNatClampNeg x1) 7 (hi 5 1).toNatClampNeg x2) 5 1 ((hi 5 1) + (1))) hl sw kp))
    : cS (d + 1) 111 [(.ref 5), (.int x1), (.int x2)] (mkH hi hl sw kp) Q := cS.of rfl (k_111_0 h1 h2 h3)
-- 114: DogDecrees$Village.addCase(I)V
set_option maxRecDepth 100000 in
theorem k_114_0 {x1 : Int32}
    (h1 : (4) ≤ (hi 5 3) → Q none (mkH hi hl sw kp))
    (h2 : ¬ ((4) ≤ (hi 5 3)) → vp_in (hi 5 3) 4)
    (h3 : ¬ ((4) ≤ (hi 5 3)) → Q none (mkH (u2 (u2 hi 9 (hi 5 3).toNatClampNeg x1) 5 3 ((hi 5 3) + (1))) hl sw kp))
    : cW cd_114 d Q 0 [some (.ref 5), some (.int x1)] [] (mkH hi hl sw kp) :=
  cW.run (am_in []) 17 (And.intro (fun c1 => (cQ.of (h1 c1))) (fun c2 => (And.intro (h2 c2) (And.intro rfl (cQ.of (h3 c2))))))
theorem e_114 {x1 : Int32}
    (h1 : (4) ≤ (hi 5 3) → Q none (mkH hi hl sw kp))
    (h2 : ¬ ((4) ≤ (hi 5 3)) → vp_in (hi 5 3) 4)
    (h3 : ¬ ((4) ≤ (hi 5 3)) → Q none (mkH (u2 (u2 hi 9 (hi 5 3).toNatClampNeg x1) 5 3 ((hi 5 3) + (1))) hl sw kp))
    : cS (d + 1) 114 [(.ref 5), (.int x1)] (mkH hi hl sw kp) Q := cS.of rfl (k_114_0 h1 h2 h3)
-- 117: DogDecrees$Village.hourAt(I)I
set_option maxRecDepth 100000 in
theorem k_117_0 {x1 : Int32}
    (h1 : (hi 19 4) ≤ 0 → Q (some (.int (0))) (mkH hi hl sw kp))
    (h2 : ¬ ((hi 19 4) ≤ 0) → Q (some (.int (x1 - x1 / (hi 19 4) * (hi 19 4)))) (mkH hi hl sw kp))
    : cW cd_117 d Q 0 [some (.ref 19), some (.int x1)] [] (mkH hi hl sw kp) :=
  cW.run (am_in []) 9 (And.intro (fun c1 => (cQ.of (h1 c1))) (fun c2 => (And.intro (nz_of c2) (cQ.of (h2 c2)))))
theorem e_117 {x1 : Int32}
    (h1 : (hi 19 4) ≤ 0 → Q (some (.int (0))) (mkH hi hl sw kp))
    (h2 : ¬ ((hi 19 4) ≤ 0) → Q (some (.int (x1 - x1 / (hi 19 4) * (hi 19 4)))) (mkH hi hl sw kp))
    : cS (d + 1) 117 [(.ref 19), (.int x1)] (mkH hi hl sw kp) Q := cS.of rfl (k_117_0 h1 h2)
def g_117 (hi : Nat → Nat → Int32) (x1 : Int32) : Int32 := if (hi 19 4) ≤ 0 then (0) else ((x1 - x1 / (hi 19 4) * (hi 19 4)))
set_option maxRecDepth 100000 in
theorem s_117 {x1 : Int32} (w : Q (some (.int (g_117 hi x1))) (mkH hi hl sw kp)) : cS (d + 1) 117 [(.ref 19), (.int x1)] (mkH hi hl sw kp) Q :=
  e_117 (fun c1 => by
      have e : g_117 hi x1 = (0) := by
        unfold g_117
        rw [if_pos c1]
      rw [e] at w
      exact w) (fun c2 => by
      have e : g_117 hi x1 = (x1 - x1 / (hi 19 4) * (hi 19 4)) := by
        unfold g_117
        rw [if_neg c2]
      rw [e] at w
      exact w)
-- 118: DogDecrees$Village.dayAt(I)I
set_option maxRecDepth 100000 in
theorem k_118_0 {x1 : Int32}
    (h1 : (hi 19 4) ≤ 0 → Q (some (.int (0))) (mkH hi hl sw kp))
    (h2 : ¬ ((hi 19 4) ≤ 0) → Q (some (.int (x1 / (hi 19 4)))) (mkH hi hl sw kp))
    : cW cd_118 d Q 0 [some (.ref 19), some (.int x1)] [] (mkH hi hl sw kp) :=
  cW.run (am_in []) 9 (And.intro (fun c1 => (cQ.of (h1 c1))) (fun c2 => (And.intro (nz_of c2) (cQ.of (h2 c2)))))
theorem e_118 {x1 : Int32}
    (h1 : (hi 19 4) ≤ 0 → Q (some (.int (0))) (mkH hi hl sw kp))
    (h2 : ¬ ((hi 19 4) ≤ 0) → Q (some (.int (x1 / (hi 19 4)))) (mkH hi hl sw kp))
    : cS (d + 1) 118 [(.ref 19), (.int x1)] (mkH hi hl sw kp) Q := cS.of rfl (k_118_0 h1 h2)
def g_118 (hi : Nat → Nat → Int32) (x1 : Int32) : Int32 := if (hi 19 4) ≤ 0 then (0) else ((x1 / (hi 19 4)))
set_option maxRecDepth 100000 in
theorem s_118 {x1 : Int32} (w : Q (some (.int (g_118 hi x1))) (mkH hi hl sw kp)) : cS (d + 1) 118 [(.ref 19), (.int x1)] (mkH hi hl sw kp) Q :=
  e_118 (fun c1 => by
      have e : g_118 hi x1 = (0) := by
        unfold g_118
        rw [if_pos c1]
      rw [e] at w
      exact w) (fun c2 => by
      have e : g_118 hi x1 = (x1 / (hi 19 4)) := by
        unfold g_118
        rw [if_neg c2]
      rw [e] at w
      exact w)
-- 120: DogDecrees$Village.heardAt(I)I
set_option maxRecDepth 100000 in
theorem k_120_0 {x1 : Int32}
    (h1 : (hi 19 5) ≤ 0 → Q (some (.int (-1))) (mkH hi hl sw kp))
    (h2 : ¬ ((hi 19 5) ≤ 0) → (hi 19 3) ≤ 0 → Q (some (.int (-1))) (mkH hi hl sw kp))
    (h3 : ¬ ((hi 19 5) ≤ 0) → ¬ ((hi 19 3) ≤ 0) → Q (some (.int ((x1 / (hi 19 5)) - (x1 / (hi 19 5)) / (hi 19 3) * (hi 19 3)))) (mkH hi hl sw kp))
    : cW cd_120 d Q 0 [some (.ref 19), some (.int x1)] [] (mkH hi hl sw kp) :=
  cW.run (am_in []) 15 (And.intro (fun c1 => (cQ.of (h1 c1))) (fun c2 => (And.intro (fun c3 => (cQ.of (h2 c2 c3))) (fun c4 => (And.intro (nz_of c2) (And.intro (nz_of c4) (cQ.of (h3 c2 c4))))))))
theorem e_120 {x1 : Int32}
    (h1 : (hi 19 5) ≤ 0 → Q (some (.int (-1))) (mkH hi hl sw kp))
    (h2 : ¬ ((hi 19 5) ≤ 0) → (hi 19 3) ≤ 0 → Q (some (.int (-1))) (mkH hi hl sw kp))
    (h3 : ¬ ((hi 19 5) ≤ 0) → ¬ ((hi 19 3) ≤ 0) → Q (some (.int ((x1 / (hi 19 5)) - (x1 / (hi 19 5)) / (hi 19 3) * (hi 19 3)))) (mkH hi hl sw kp))
    : cS (d + 1) 120 [(.ref 19), (.int x1)] (mkH hi hl sw kp) Q := cS.of rfl (k_120_0 h1 h2 h3)
def g_120 (hi : Nat → Nat → Int32) (x1 : Int32) : Int32 := if (hi 19 5) ≤ 0 then (-1) else (if (hi 19 3) ≤ 0 then (-1) else (((x1 / (hi 19 5)) - (x1 / (hi 19 5)) / (hi 19 3) * (hi 19 3))))
set_option maxRecDepth 100000 in
theorem s_120 {x1 : Int32} (w : Q (some (.int (g_120 hi x1))) (mkH hi hl sw kp)) : cS (d + 1) 120 [(.ref 19), (.int x1)] (mkH hi hl sw kp) Q :=
  e_120 (fun c1 => by
      have e : g_120 hi x1 = (-1) := by
        unfold g_120
        rw [if_pos c1]
      rw [e] at w
      exact w) (fun c2 c3 => by
      have e : g_120 hi x1 = (-1) := by
        unfold g_120
        rw [if_neg c2, if_pos c3]
      rw [e] at w
      exact w) (fun c2 c4 => by
      have e : g_120 hi x1 = ((x1 / (hi 19 5)) - (x1 / (hi 19 5)) / (hi 19 3) * (hi 19 3)) := by
        unfold g_120
        rw [if_neg c2, if_neg c4]
      rw [e] at w
      exact w)
-- 124: DogDecrees.end(I)I
set_option maxRecDepth 100000 in
theorem k_124_0 {x1 : Int32}
    (h1 : x1 < 0 → Q (some (.int (-1))) (mkH hi hl sw kp))
    (h2 : ¬ (x1 < 0) → x1 ≤ (hi 1 1) → Q (some (.int x1)) (mkH (u2 hi 1 1 x1) hl sw kp))
    (h3 : ¬ (x1 < 0) → ¬ (x1 ≤ (hi 1 1)) → Q (some (.int (-1))) (mkH hi hl sw kp))
    : cW cd_124 d Q 0 [some (.ref 0), some (.int x1)] [] (mkH hi hl sw kp) :=
  cW.run (am_in []) 13 (And.intro (fun c1 => (cQ.of (h1 c1))) (fun c2 => (And.intro (fun c3 => (cQ.of (h2 c2 c3))) (fun c4 => (cQ.of (h3 c2 c4))))))
theorem e_124 {x1 : Int32}
    (h1 : x1 < 0 → Q (some (.int (-1))) (mkH hi hl sw kp))
    (h2 : ¬ (x1 < 0) → x1 ≤ (hi 1 1) → Q (some (.int x1)) (mkH (u2 hi 1 1 x1) hl sw kp))
    (h3 : ¬ (x1 < 0) → ¬ (x1 ≤ (hi 1 1)) → Q (some (.int (-1))) (mkH hi hl sw kp))
    : cS (d + 1) 124 [(.ref 0), (.int x1)] (mkH hi hl sw kp) Q := cS.of rfl (k_124_0 h1 h2 h3)
-- 126: DogDecrees.fault(I)I
set_option maxRecDepth 100000 in
theorem k_126_0 {x1 : Int32}
    (h1 : x1 = 0 → Q (some (.int (hi 3 7))) (mkH hi hl sw kp))
    (h2 : ¬ x1 = 0 → x1 = 1 → Q (some (.int (hi 3 8))) (mkH hi hl sw kp))
    (h3 : ¬ x1 = 0 → ¬ x1 = 1 → Q (some (.int (-1))) (mkH hi hl sw kp))
    : cW cd_126 d Q 0 [some (.ref 0), some (.int x1)] [] (mkH hi hl sw kp) :=
  cW.run (am_in []) 6 (And.intro (fun c1 => (cQ.of (h1 c1))) (fun c2 => (And.intro (fun c3 => (cQ.of (h2 c2 c3))) (fun c4 => (cQ.of (h3 c2 c4))))))
theorem e_126 {x1 : Int32}
    (h1 : x1 = 0 → Q (some (.int (hi 3 7))) (mkH hi hl sw kp))
    (h2 : ¬ x1 = 0 → x1 = 1 → Q (some (.int (hi 3 8))) (mkH hi hl sw kp))
    (h3 : ¬ x1 = 0 → ¬ x1 = 1 → Q (some (.int (-1))) (mkH hi hl sw kp))
    : cS (d + 1) 126 [(.ref 0), (.int x1)] (mkH hi hl sw kp) Q := cS.of rfl (k_126_0 h1 h2 h3)
def g_126 (hi : Nat → Nat → Int32) (x1 : Int32) : Int32 := if x1 = 0 then (hi 3 7) else (if x1 = 1 then (hi 3 8) else ((-1)))
set_option maxRecDepth 100000 in
theorem s_126 {x1 : Int32} (w : Q (some (.int (g_126 hi x1))) (mkH hi hl sw kp)) : cS (d + 1) 126 [(.ref 0), (.int x1)] (mkH hi hl sw kp) Q :=
  e_126 (fun c1 => by
      have e : g_126 hi x1 = (hi 3 7) := by
        unfold g_126
        rw [if_pos c1]
      rw [e] at w
      exact w) (fun c2 c3 => by
      have e : g_126 hi x1 = (hi 3 8) := by
        unfold g_126
        rw [if_neg c2, if_pos c3]
      rw [e] at w
      exact w) (fun c2 c4 => by
      have e : g_126 hi x1 = (-1) := by
        unfold g_126
        rw [if_neg c2, if_neg c4]
      rw [e] at w
      exact w)
-- 147: DogDecrees.lies(I)I
set_option maxRecDepth 100000 in
theorem k_147_0 {x1 : Int32}
    (h1 : x1 < 0 → Q (some (.int (-1000000))) (mkH hi hl sw kp))
    (h2 : ¬ (x1 < 0) → (hi 0 13) ≤ x1 → Q (some (.int (-1000000))) (mkH hi hl sw kp))
    (h3 : ¬ (x1 < 0) → ¬ ((hi 0 13) ≤ x1) → x1 < (8) → Q (some (.int (hi 278 x1.toNatClampNeg))) (mkH hi hl sw kp))
    (h4 : ¬ (x1 < 0) → ¬ ((hi 0 13) ≤ x1) → ¬ (x1 < (8)) → Q (some (.int (-1000000))) (mkH hi hl sw kp))
    : cW cd_147 d Q 0 [some (.ref 0), some (.int x1)] [] (mkH hi hl sw kp) :=
  cW.run (am_in []) 14 (And.intro (fun c1 => (cQ.of (h1 c1))) (fun c2 => (And.intro (fun c3 => (cQ.of (h2 c2 c3))) (fun c4 => (And.intro (fun c5 => (And.intro (vin_a c2 c5 rfl) (cQ.of (h3 c2 c4 c5)))) (fun c6 => (cQ.of (h4 c2 c4 c6))))))))
theorem e_147 {x1 : Int32}
    (h1 : x1 < 0 → Q (some (.int (-1000000))) (mkH hi hl sw kp))
    (h2 : ¬ (x1 < 0) → (hi 0 13) ≤ x1 → Q (some (.int (-1000000))) (mkH hi hl sw kp))
    (h3 : ¬ (x1 < 0) → ¬ ((hi 0 13) ≤ x1) → x1 < (8) → Q (some (.int (hi 278 x1.toNatClampNeg))) (mkH hi hl sw kp))
    (h4 : ¬ (x1 < 0) → ¬ ((hi 0 13) ≤ x1) → ¬ (x1 < (8)) → Q (some (.int (-1000000))) (mkH hi hl sw kp))
    : cS (d + 1) 147 [(.ref 0), (.int x1)] (mkH hi hl sw kp) Q := cS.of rfl (k_147_0 h1 h2 h3 h4)
def g_147 (hi : Nat → Nat → Int32) (x1 : Int32) : Int32 := if x1 < 0 then (-1000000) else (if (hi 0 13) ≤ x1 then (-1000000) else (if x1 < (8) then (hi 278 x1.toNatClampNeg) else ((-1000000))))
set_option maxRecDepth 100000 in
theorem s_147 {x1 : Int32} (w : Q (some (.int (g_147 hi x1))) (mkH hi hl sw kp)) : cS (d + 1) 147 [(.ref 0), (.int x1)] (mkH hi hl sw kp) Q :=
  e_147 (fun c1 => by
      have e : g_147 hi x1 = (-1000000) := by
        unfold g_147
        rw [if_pos c1]
      rw [e] at w
      exact w) (fun c2 c3 => by
      have e : g_147 hi x1 = (-1000000) := by
        unfold g_147
        rw [if_neg c2, if_pos c3]
      rw [e] at w
      exact w) (fun c2 c4 c5 => by
      have e : g_147 hi x1 = (hi 278 x1.toNatClampNeg) := by
        unfold g_147
        rw [if_neg c2, if_neg c4, if_pos c5]
      rw [e] at w
      exact w) (fun c2 c4 c6 => by
      have e : g_147 hi x1 = (-1000000) := by
        unfold g_147
        rw [if_neg c2, if_neg c4, if_neg c6]
      rw [e] at w
      exact w)
-- 157: DogDecrees.showLaid()V
set_option maxRecDepth 100000 in
theorem k_157_0
    (h1 : Q none (mkH (u2 (uR hi 278 (va_cpy (hi 265) (hi 278) 0 0 8)) 0 13 (hi 19 1)) hl sw kp))
    : cW cd_157 d Q 0 [some (.ref 0)] [] (mkH hi hl sw kp) :=
  cW.run (am_in []) 15 (And.intro (show ¬ (0 : Int32) < 0 ∧ ¬ (0 : Int32) < 0 ∧ ¬ (8 : Int32) < 0 ∧ 0 + 8 ≤ 8 ∧ 0 + 8 ≤ 8 by decide +kernel) (cQ.of (h1)))
theorem e_157
    (h1 : Q none (mkH (u2 (uR hi 278 (va_cpy (hi 265) (hi 278) 0 0 8)) 0 13 (hi 19 1)) hl sw kp))
    : cS (d + 1) 157 [(.ref 0)] (mkH hi hl sw kp) Q := cS.of rfl (k_157_0 h1)
-- 158: DogDecrees.within(III)Z
set_option maxRecDepth 100000 in
theorem k_158_0 {x0 : Int32} {x1 : Int32} {x2 : Int32}
    (h1 : x0 < x1 → Q (some (.int (0))) (mkH hi hl sw kp))
    (h2 : ¬ (x0 < x1) → x2 < x0 → Q (some (.int (0))) (mkH hi hl sw kp))
    (h3 : ¬ (x0 < x1) → ¬ (x2 < x0) → Q (some (.int (1))) (mkH hi hl sw kp))
    : cW cd_158 d Q 0 [some (.int x0), some (.int x1), some (.int x2)] [] (mkH hi hl sw kp) :=
  cW.run (am_in []) 9 (And.intro (fun c1 => (And.intro (Or.inl rfl) (cQ.of (h1 c1)))) (fun c2 => (And.intro (fun c3 => (And.intro (Or.inl rfl) (cQ.of (h2 c2 c3)))) (fun c4 => (And.intro (Or.inr rfl) (cQ.of (h3 c2 c4)))))))
theorem e_158 {x0 : Int32} {x1 : Int32} {x2 : Int32}
    (h1 : x0 < x1 → Q (some (.int (0))) (mkH hi hl sw kp))
    (h2 : ¬ (x0 < x1) → x2 < x0 → Q (some (.int (0))) (mkH hi hl sw kp))
    (h3 : ¬ (x0 < x1) → ¬ (x2 < x0) → Q (some (.int (1))) (mkH hi hl sw kp))
    : cS (d + 1) 158 [(.int x0), (.int x1), (.int x2)] (mkH hi hl sw kp) Q := cS.of rfl (k_158_0 h1 h2 h3)
def g_158 (x0 : Int32) (x1 : Int32) (x2 : Int32) : Int32 := if x0 < x1 then (0) else (if x2 < x0 then (0) else ((1)))
theorem g_158_01 (x0 : Int32) (x1 : Int32) (x2 : Int32) : g_158 x0 x1 x2 = 0 ∨ g_158 x0 x1 x2 = 1 := by
  unfold g_158
  exact (ite01 (Or.inl rfl) (ite01 (Or.inl rfl) (Or.inr rfl)))
set_option maxRecDepth 100000 in
theorem s_158 {x0 : Int32} {x1 : Int32} {x2 : Int32} (w : Q (some (.int (g_158 x0 x1 x2))) (mkH hi hl sw kp)) : cS (d + 1) 158 [(.int x0), (.int x1), (.int x2)] (mkH hi hl sw kp) Q :=
  e_158 (fun c1 => by
      have e : g_158 x0 x1 x2 = (0) := by
        unfold g_158
        rw [if_pos c1]
      rw [e] at w
      exact w) (fun c2 c3 => by
      have e : g_158 x0 x1 x2 = (0) := by
        unfold g_158
        rw [if_neg c2, if_pos c3]
      rw [e] at w
      exact w) (fun c2 c4 => by
      have e : g_158 x0 x1 x2 = (1) := by
        unfold g_158
        rw [if_neg c2, if_neg c4]
      rw [e] at w
      exact w)
-- 161: DogDecrees.commonDivisor(JJ)J
set_option maxRecDepth 100000 in
theorem k_161_0 {x0 : Int64} {x2 : Int64}
    (h1 : cW cd_161 d Q 3 [some (.long x0), none, some (.long x2), none, some (.int (0)), none, none] [] (mkH hi hl sw kp))
    : cW cd_161 d Q 0 [some (.long x0), none, some (.long x2), none, none, none, none] [] (mkH hi hl sw kp) :=
  cW.run (am_in [3]) 2 (And.intro (Nat.le_of_ble_eq_true rfl) (h1))
theorem e_161 {x0 : Int64} {x2 : Int64}
    (h1 : cW cd_161 d Q 3 [some (.long x0), none, some (.long x2), none, some (.int (0)), none, none] [] (mkH hi hl sw kp))
    : cS (d + 1) 161 [(.long x0), (.long x2)] (mkH hi hl sw kp) Q := cS.of rfl (k_161_0 h1)
set_option maxRecDepth 100000 in
theorem k_161_3 {x0 : Int64} {x2 : Int64} {x4 : Int32} {o5 : Option Value}
    (h1 : (200) ≤ x4 → Q (some (.long x0)) (mkH hi hl sw kp))
    (h2 : ¬ ((200) ≤ x4) → (lg_cmp x2 0) = 0 → Q (some (.long x0)) (mkH hi hl sw kp))
    (h3 : ¬ ((200) ≤ x4) → ¬ ((lg_cmp x2 0) = 0) → ¬ x2 = 0)
    (h4 : ¬ ((200) ≤ x4) → ¬ ((lg_cmp x2 0) = 0) → cW cd_161 d Q 3 [some (.long x2), none, some (.long (x0 - x0 / x2 * x2)), none, some (.int (x4 + (1))), some (.long (x0 - x0 / x2 * x2)), none] [] (mkH hi hl sw kp))
    : cW cd_161 d Q 3 [some (.long x0), none, some (.long x2), none, some (.int x4), o5, none] [] (mkH hi hl sw kp) :=
  cW.run (am_in [3]) 17 (And.intro (fun c1 => (cQ.of (h1 c1))) (fun c2 => (And.intro (fun c3 => (cQ.of (h2 c2 c3))) (fun c4 => (And.intro (h3 c2 c4) (And.intro (Nat.le_of_ble_eq_true rfl) (And.intro (Nat.le_of_ble_eq_true rfl) (And.intro (Nat.le_of_ble_eq_true rfl) (And.intro (Nat.le_of_ble_eq_true rfl) (h4 c2 c4))))))))))
-- 164: DogDecreesModel.four(I)V
set_option maxRecDepth 100000 in
theorem k_164_0 {x1 : Int32}
    (h1 : cW cd_164 d Q 3 [some (.ref 279), some (.int x1), some (.int (24))] [] (mkH hi hl sw kp))
    : cW cd_164 d Q 0 [some (.ref 279), some (.int x1), none] [] (mkH hi hl sw kp) :=
  cW.run (am_in [3]) 2 (And.intro (Nat.le_of_ble_eq_true rfl) (h1))
theorem e_164 {x1 : Int32}
    (h1 : cW cd_164 d Q 3 [some (.ref 279), some (.int x1), some (.int (24))] [] (mkH hi hl sw kp))
    : cS (d + 1) 164 [(.ref 279), (.int x1)] (mkH hi hl sw kp) Q := cS.of rfl (k_164_0 h1)
set_option maxRecDepth 100000 in
theorem k_164_3 {x1 : Int32} {x2 : Int32}
    (h1 : x2 < 0 → Q none (mkH hi hl sw kp))
    (h2 : ¬ (x2 < 0) → vp_in (hi 279 1) 1600)
    (h3 : ¬ (x2 < 0) → cW cd_164 d Q 3 [some (.ref 279), some (.int x1), some (.int (x2 + (-8)))] [] (mkH (u2 (u2 hi 280 (hi 279 1).toNatClampNeg ((x1 >>> (x2 &&& 31)) &&& (255))) 279 1 ((hi 279 1) + (1))) hl sw kp))
    : cW cd_164 d Q 3 [some (.ref 279), some (.int x1), some (.int x2)] [] (mkH hi hl sw kp) :=
  cW.run (am_in [3]) 20 (And.intro (fun c1 => (cQ.of (h1 c1))) (fun c2 => (And.intro (h2 c2) (And.intro rfl (And.intro (Nat.le_of_ble_eq_true rfl) (h3 c2))))))
-- 165: DogDecreesModel.end(I)I
set_option maxRecDepth 100000 in
theorem k_165_0 {x1 : Int32}
    (h1 : x1 < 0 → Q (some (.int (-1))) (mkH hi hl sw kp))
    (h2 : ¬ (x1 < 0) → x1 ≤ (hi 279 1) → Q (some (.int x1)) (mkH (u2 hi 279 1 x1) hl sw kp))
    (h3 : ¬ (x1 < 0) → ¬ (x1 ≤ (hi 279 1)) → Q (some (.int (-1))) (mkH hi hl sw kp))
    : cW cd_165 d Q 0 [some (.ref 279), some (.int x1)] [] (mkH hi hl sw kp) :=
  cW.run (am_in []) 11 (And.intro (fun c1 => (cQ.of (h1 c1))) (fun c2 => (And.intro (fun c3 => (cQ.of (h2 c2 c3))) (fun c4 => (cQ.of (h3 c2 c4))))))
theorem e_165 {x1 : Int32}
    (h1 : x1 < 0 → Q (some (.int (-1))) (mkH hi hl sw kp))
    (h2 : ¬ (x1 < 0) → x1 ≤ (hi 279 1) → Q (some (.int x1)) (mkH (u2 hi 279 1 x1) hl sw kp))
    (h3 : ¬ (x1 < 0) → ¬ (x1 ≤ (hi 279 1)) → Q (some (.int (-1))) (mkH hi hl sw kp))
    : cS (d + 1) 165 [(.ref 279), (.int x1)] (mkH hi hl sw kp) Q := cS.of rfl (k_165_0 h1 h2 h3)
-- 166: DogDecreesModel.here(I)I
set_option maxRecDepth 100000 in
theorem k_166_0 {x1 : Int32}
    (h1 : (hi 279 5) ≤ ((hi 279 4) + x1) → Q (some (.int (-1))) (mkH hi hl sw kp))
    (h2 : ¬ ((hi 279 5) ≤ ((hi 279 4) + x1)) → vp_in ((hi 279 4) + x1) 1600)
    (h3 : ¬ ((hi 279 5) ≤ ((hi 279 4) + x1)) → Q (some (.int (hi 280 ((hi 279 4) + x1).toNatClampNeg))) (mkH hi hl sw kp))
    : cW cd_166 d Q 0 [some (.ref 279), some (.int x1)] [] (mkH hi hl sw kp) :=
  cW.run (am_in []) 16 (And.intro (fun c1 => (cQ.of (h1 c1))) (fun c2 => (And.intro (h2 c2) (cQ.of (h3 c2)))))
theorem e_166 {x1 : Int32}
    (h1 : (hi 279 5) ≤ ((hi 279 4) + x1) → Q (some (.int (-1))) (mkH hi hl sw kp))
    (h2 : ¬ ((hi 279 5) ≤ ((hi 279 4) + x1)) → vp_in ((hi 279 4) + x1) 1600)
    (h3 : ¬ ((hi 279 5) ≤ ((hi 279 4) + x1)) → Q (some (.int (hi 280 ((hi 279 4) + x1).toNatClampNeg))) (mkH hi hl sw kp))
    : cS (d + 1) 166 [(.ref 279), (.int x1)] (mkH hi hl sw kp) Q := cS.of rfl (k_166_0 h1 h2 h3)
def g_166 (hi : Nat → Nat → Int32) (x1 : Int32) : Int32 := if (hi 279 5) ≤ ((hi 279 4) + x1) then (-1) else ((hi 280 ((hi 279 4) + x1).toNatClampNeg))
set_option maxRecDepth 100000 in
theorem s_166 {x1 : Int32} (o1 : ¬ ((hi 279 5) ≤ ((hi 279 4) + x1)) → vp_in ((hi 279 4) + x1) 1600) (w : Q (some (.int (g_166 hi x1))) (mkH hi hl sw kp)) : cS (d + 1) 166 [(.ref 279), (.int x1)] (mkH hi hl sw kp) Q :=
  e_166 (fun c1 => by
      have e : g_166 hi x1 = (-1) := by
        unfold g_166
        rw [if_pos c1]
      rw [e] at w
      exact w) o1 (fun c2 => by
      have e : g_166 hi x1 = (hi 280 ((hi 279 4) + x1).toNatClampNeg) := by
        unfold g_166
        rw [if_neg c2]
      rw [e] at w
      exact w)
end BLK
