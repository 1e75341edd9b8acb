/-! ===== blocks of methods, by program ===== -/
section BLK
variable {d : Nat} {Q : am_Q} {hi : Nat → Nat → Int32} {hl : Nat → Nat → Int64} {sw : Bool} {kp : Nat → Nat}
-- 167: DogDecreesModel.isLetter(I)Z
set_option maxRecDepth 100000 in
theorem k_167_0 {x0 : Int32}
    (h1 : x0 < (97) → Q (some (.int (0))) (mkH hi hl sw kp))
    (h2 : ¬ (x0 < (97)) → (122) < x0 → Q (some (.int (0))) (mkH hi hl sw kp))
    (h3 : ¬ (x0 < (97)) → ¬ ((122) < x0) → Q (some (.int (1))) (mkH hi hl sw kp))
    : cW cd_167 d Q 0 [some (.int x0)] [] (mkH hi hl sw kp) :=
  cW.run (am_in []) 9 (And.intro (fun c1 => (And.intro (Or.inl rfl) (cQ.of (h1 c1)))) (fun c2 => (And.intro (fun c3 => (And.intro (Or.inl rfl) (cQ.of (h2 c2 c3)))) (fun c4 => (And.intro (Or.inr rfl) (cQ.of (h3 c2 c4)))))))
theorem e_167 {x0 : Int32}
    (h1 : x0 < (97) → Q (some (.int (0))) (mkH hi hl sw kp))
    (h2 : ¬ (x0 < (97)) → (122) < x0 → Q (some (.int (0))) (mkH hi hl sw kp))
    (h3 : ¬ (x0 < (97)) → ¬ ((122) < x0) → Q (some (.int (1))) (mkH hi hl sw kp))
    : cS (d + 1) 167 [(.int x0)] (mkH hi hl sw kp) Q := cS.of rfl (k_167_0 h1 h2 h3)
def g_167 (x0 : Int32) : Int32 := if x0 < (97) then (0) else (if (122) < x0 then (0) else ((1)))
theorem g_167_01 (x0 : Int32) : g_167 x0 = 0 ∨ g_167 x0 = 1 := by
  unfold g_167
  exact (ite01 (Or.inl rfl) (ite01 (Or.inl rfl) (Or.inr rfl)))
set_option maxRecDepth 100000 in
theorem s_167 {x0 : Int32} (w : Q (some (.int (g_167 x0))) (mkH hi hl sw kp)) : cS (d + 1) 167 [(.int x0)] (mkH hi hl sw kp) Q :=
  e_167 (fun c1 => by
      have e : g_167 x0 = (0) := by
        unfold g_167
        rw [if_pos c1]
      rw [e] at w
      exact w) (fun c2 c3 => by
      have e : g_167 x0 = (0) := by
        unfold g_167
        rw [if_neg c2, if_pos c3]
      rw [e] at w
      exact w) (fun c2 c4 => by
      have e : g_167 x0 = (1) := by
        unfold g_167
        rw [if_neg c2, if_neg c4]
      rw [e] at w
      exact w)
-- 168: DogDecreesModel.isDigit(I)Z
set_option maxRecDepth 100000 in
theorem k_168_0 {x0 : Int32}
    (h1 : x0 < (48) → Q (some (.int (0))) (mkH hi hl sw kp))
    (h2 : ¬ (x0 < (48)) → (57) < x0 → Q (some (.int (0))) (mkH hi hl sw kp))
    (h3 : ¬ (x0 < (48)) → ¬ ((57) < x0) → Q (some (.int (1))) (mkH hi hl sw kp))
    : cW cd_168 d Q 0 [some (.int x0)] [] (mkH hi hl sw kp) :=
  cW.run (am_in []) 9 (And.intro (fun c1 => (And.intro (Or.inl rfl) (cQ.of (h1 c1)))) (fun c2 => (And.intro (fun c3 => (And.intro (Or.inl rfl) (cQ.of (h2 c2 c3)))) (fun c4 => (And.intro (Or.inr rfl) (cQ.of (h3 c2 c4)))))))
theorem e_168 {x0 : Int32}
    (h1 : x0 < (48) → Q (some (.int (0))) (mkH hi hl sw kp))
    (h2 : ¬ (x0 < (48)) → (57) < x0 → Q (some (.int (0))) (mkH hi hl sw kp))
    (h3 : ¬ (x0 < (48)) → ¬ ((57) < x0) → Q (some (.int (1))) (mkH hi hl sw kp))
    : cS (d + 1) 168 [(.int x0)] (mkH hi hl sw kp) Q := cS.of rfl (k_168_0 h1 h2 h3)
def g_168 (x0 : Int32) : Int32 := if x0 < (48) then (0) else (if (57) < x0 then (0) else ((1)))
theorem g_168_01 (x0 : Int32) : g_168 x0 = 0 ∨ g_168 x0 = 1 := by
  unfold g_168
  exact (ite01 (Or.inl rfl) (ite01 (Or.inl rfl) (Or.inr rfl)))
set_option maxRecDepth 100000 in
theorem s_168 {x0 : Int32} (w : Q (some (.int (g_168 x0))) (mkH hi hl sw kp)) : cS (d + 1) 168 [(.int x0)] (mkH hi hl sw kp) Q :=
  e_168 (fun c1 => by
      have e : g_168 x0 = (0) := by
        unfold g_168
        rw [if_pos c1]
      rw [e] at w
      exact w) (fun c2 c3 => by
      have e : g_168 x0 = (0) := by
        unfold g_168
        rw [if_neg c2, if_pos c3]
      rw [e] at w
      exact w) (fun c2 c4 => by
      have e : g_168 x0 = (1) := by
        unfold g_168
        rw [if_neg c2, if_neg c4]
      rw [e] at w
      exact w)
-- 169: DogDecreesModel.isSign(I)Z
set_option maxRecDepth 100000 in
theorem k_169_0 {x0 : Int32}
    (h1 : x0 = (59) → Q (some (.int (1))) (mkH hi hl sw kp))
    (h2 : ¬ (x0 = (59)) → x0 = (40) → Q (some (.int (1))) (mkH hi hl sw kp))
    (h3 : ¬ (x0 = (59)) → ¬ (x0 = (40)) → x0 = (41) → Q (some (.int (1))) (mkH hi hl sw kp))
    (h4 : ¬ (x0 = (59)) → ¬ (x0 = (40)) → ¬ (x0 = (41)) → x0 = (60) → Q (some (.int (1))) (mkH hi hl sw kp))
    (h5 : ¬ (x0 = (59)) → ¬ (x0 = (40)) → ¬ (x0 = (41)) → ¬ (x0 = (60)) → x0 = (62) → Q (some (.int (1))) (mkH hi hl sw kp))
    (h6 : ¬ (x0 = (59)) → ¬ (x0 = (40)) → ¬ (x0 = (41)) → ¬ (x0 = (60)) → ¬ (x0 = (62)) → x0 = (61) → Q (some (.int (1))) (mkH hi hl sw kp))
    (h7 : ¬ (x0 = (59)) → ¬ (x0 = (40)) → ¬ (x0 = (41)) → ¬ (x0 = (60)) → ¬ (x0 = (62)) → ¬ (x0 = (61)) → x0 = (43) → Q (some (.int (1))) (mkH hi hl sw kp))
    (h8 : ¬ (x0 = (59)) → ¬ (x0 = (40)) → ¬ (x0 = (41)) → ¬ (x0 = (60)) → ¬ (x0 = (62)) → ¬ (x0 = (61)) → ¬ (x0 = (43)) → x0 = (45) → Q (some (.int (1))) (mkH hi hl sw kp))
    (h9 : ¬ (x0 = (59)) → ¬ (x0 = (40)) → ¬ (x0 = (41)) → ¬ (x0 = (60)) → ¬ (x0 = (62)) → ¬ (x0 = (61)) → ¬ (x0 = (43)) → ¬ (x0 = (45)) → x0 = (42) → Q (some (.int (1))) (mkH hi hl sw kp))
    (h10 : ¬ (x0 = (59)) → ¬ (x0 = (40)) → ¬ (x0 = (41)) → ¬ (x0 = (60)) → ¬ (x0 = (62)) → ¬ (x0 = (61)) → ¬ (x0 = (43)) → ¬ (x0 = (45)) → ¬ (x0 = (42)) → x0 = (47) → Q (some (.int (1))) (mkH hi hl sw kp))
    (h11 : ¬ (x0 = (59)) → ¬ (x0 = (40)) → ¬ (x0 = (41)) → ¬ (x0 = (60)) → ¬ (x0 = (62)) → ¬ (x0 = (61)) → ¬ (x0 = (43)) → ¬ (x0 = (45)) → ¬ (x0 = (42)) → ¬ (x0 = (47)) → x0 = (37) → Q (some (.int (1))) (mkH hi hl sw kp))
    (h12 : ¬ (x0 = (59)) → ¬ (x0 = (40)) → ¬ (x0 = (41)) → ¬ (x0 = (60)) → ¬ (x0 = (62)) → ¬ (x0 = (61)) → ¬ (x0 = (43)) → ¬ (x0 = (45)) → ¬ (x0 = (42)) → ¬ (x0 = (47)) → ¬ (x0 = (37)) → Q (some (.int (0))) (mkH hi hl sw kp))
    : cW cd_169 d Q 0 [some (.int x0)] [] (mkH hi hl sw kp) :=
  cW.run (am_in []) 36 (And.intro (fun c1 => (And.intro (Or.inr rfl) (cQ.of (h1 c1)))) (fun c2 => (And.intro (fun c3 => (And.intro (Or.inr rfl) (cQ.of (h2 c2 c3)))) (fun c4 => (And.intro (fun c5 => (And.intro (Or.inr rfl) (cQ.of (h3 c2 c4 c5)))) (fun c6 => (And.intro (fun c7 => (And.intro (Or.inr rfl) (cQ.of (h4 c2 c4 c6 c7)))) (fun c8 => (And.intro (fun c9 => (And.intro (Or.inr rfl) (cQ.of (h5 c2 c4 c6 c8 c9)))) (fun c10 => (And.intro (fun c11 => (And.intro (Or.inr rfl) (cQ.of (h6 c2 c4 c6 c8 c10 c11)))) (fun c12 => (And.intro (fun c13 => (And.intro (Or.inr rfl) (cQ.of (h7 c2 c4 c6 c8 c10 c12 c13)))) (fun c14 => (And.intro (fun c15 => (And.intro (Or.inr rfl) (cQ.of (h8 c2 c4 c6 c8 c10 c12 c14 c15)))) (fun c16 => (And.intro (fun c17 => (And.intro (Or.inr rfl) (cQ.of (h9 c2 c4 c6 c8 c10 c12 c14 c16 c17)))) (fun c18 => (And.intro (fun c19 => (And.intro (Or.inr rfl) (cQ.of (h10 c2 c4 c6 c8 c10 c12 c14 c16 c18 c19)))) (fun c20 => (And.intro (fun c21 => (And.intro (Or.inr rfl) (cQ.of (h11 c2 c4 c6 c8 c10 c12 c14 c16 c18 c20 c21)))) (fun c22 => (And.intro (Or.inl rfl) (cQ.of (h12 c2 c4 c6 c8 c10 c12 c14 c16 c18 c20 c22)))))))))))))))))))))))))
theorem e_169 {x0 : Int32}
    (h1 : x0 = (59) → Q (some (.int (1))) (mkH hi hl sw kp))
    (h2 : ¬ (x0 = (59)) → x0 = (40) → Q (some (.int (1))) (mkH hi hl sw kp))
    (h3 : ¬ (x0 = (59)) → ¬ (x0 = (40)) → x0 = (41) → Q (some (.int (1))) (mkH hi hl sw kp))
    (h4 : ¬ (x0 = (59)) → ¬ (x0 = (40)) → ¬ (x0 = (41)) → x0 = (60) → Q (some (.int (1))) (mkH hi hl sw kp))
    (h5 : ¬ (x0 = (59)) → ¬ (x0 = (40)) → ¬ (x0 = (41)) → ¬ (x0 = (60)) → x0 = (62) → Q (some (.int (1))) (mkH hi hl sw kp))
    (h6 : ¬ (x0 = (59)) → ¬ (x0 = (40)) → ¬ (x0 = (41)) → ¬ (x0 = (60)) → ¬ (x0 = (62)) → x0 = (61) → Q (some (.int (1))) (mkH hi hl sw kp))
    (h7 : ¬ (x0 = (59)) → ¬ (x0 = (40)) → ¬ (x0 = (41)) → ¬ (x0 = (60)) → ¬ (x0 = (62)) → ¬ (x0 = (61)) → x0 = (43) → Q (some (.int (1))) (mkH hi hl sw kp))
    (h8 : ¬ (x0 = (59)) → ¬ (x0 = (40)) → ¬ (x0 = (41)) → ¬ (x0 = (60)) → ¬ (x0 = (62)) → ¬ (x0 = (61)) → ¬ (x0 = (43)) → x0 = (45) → Q (some (.int (1))) (mkH hi hl sw kp))
    (h9 : ¬ (x0 = (59)) → ¬ (x0 = (40)) → ¬ (x0 = (41)) → ¬ (x0 = (60)) → ¬ (x0 = (62)) → ¬ (x0 = (61)) → ¬ (x0 = (43)) → ¬ (x0 = (45)) → x0 = (42) → Q (some (.int (1))) (mkH hi hl sw kp))
    (h10 : ¬ (x0 = (59)) → ¬ (x0 = (40)) → ¬ (x0 = (41)) → ¬ (x0 = (60)) → ¬ (x0 = (62)) → ¬ (x0 = (61)) → ¬ (x0 = (43)) → ¬ (x0 = (45)) → ¬ (x0 = (42)) → x0 = (47) → Q (some (.int (1))) (mkH hi hl sw kp))
    (h11 : ¬ (x0 = (59)) → ¬ (x0 = (40)) → ¬ (x0 = (41)) → ¬ (x0 = (60)) → ¬ (x0 = (62)) → ¬ (x0 = (61)) → ¬ (x0 = (43)) → ¬ (x0 = (45)) → ¬ (x0 = (42)) → ¬ (x0 = (47)) → x0 = (37) → Q (some (.int (1))) (mkH hi hl sw kp))
    (h12 : ¬ (x0 = (59)) → ¬ (x0 = (40)) → ¬ (x0 = (41)) → ¬ (x0 = (60)) → ¬ (x0 = (62)) → ¬ (x0 = (61)) → ¬ (x0 = (43)) → ¬ (x0 = (45)) → ¬ (x0 = (42)) → ¬ (x0 = (47)) → ¬ (x0 = (37)) → Q (some (.int (0))) (mkH hi hl sw kp))
    : cS (d + 1) 169 [(.int x0)] (mkH hi hl sw kp) Q := cS.of rfl (k_169_0 h1 h2 h3 h4 h5 h6 h7 h8 h9 h10 h11 h12)
def g_169 (x0 : Int32) : Int32 := if x0 = (59) then (1) else (if x0 = (40) then (1) else (if x0 = (41) then (1) else (if x0 = (60) then (1) else (if x0 = (62) then (1) else (if x0 = (61) then (1) else (if x0 = (43) then (1) else (if x0 = (45) then (1) else (if x0 = (42) then (1) else (if x0 = (47) then (1) else (if x0 = (37) then (1) else ((0))))))))))))
theorem g_169_01 (x0 : Int32) : g_169 x0 = 0 ∨ g_169 x0 = 1 := by
  unfold g_169
  exact (ite01 (Or.inr rfl) (ite01 (Or.inr rfl) (ite01 (Or.inr rfl) (ite01 (Or.inr rfl) (ite01 (Or.inr rfl) (ite01 (Or.inr rfl) (ite01 (Or.inr rfl) (ite01 (Or.inr rfl) (ite01 (Or.inr rfl) (ite01 (Or.inr rfl) (ite01 (Or.inr rfl) (Or.inl rfl))))))))))))
set_option maxRecDepth 100000 in
theorem s_169 {x0 : Int32} (w : Q (some (.int (g_169 x0))) (mkH hi hl sw kp)) : cS (d + 1) 169 [(.int x0)] (mkH hi hl sw kp) Q :=
  e_169 (fun c1 => by
      have e : g_169 x0 = (1) := by
        unfold g_169
        rw [if_pos c1]
      rw [e] at w
      exact w) (fun c2 c3 => by
      have e : g_169 x0 = (1) := by
        unfold g_169
        rw [if_neg c2, if_pos c3]
      rw [e] at w
      exact w) (fun c2 c4 c5 => by
      have e : g_169 x0 = (1) := by
        unfold g_169
        rw [if_neg c2, if_neg c4, if_pos c5]
      rw [e] at w
      exact w) (fun c2 c4 c6 c7 => by
      have e : g_169 x0 = (1) := by
        unfold g_169
        rw [if_neg c2, if_neg c4, if_neg c6, if_pos c7]
      rw [e] at w
      exact w) (fun c2 c4 c6 c8 c9 => by
      have e : g_169 x0 = (1) := by
        unfold g_169
        rw [if_neg c2, if_neg c4, if_neg c6, if_neg c8, if_pos c9]
      rw [e] at w
      exact w) (fun c2 c4 c6 c8 c10 c11 => by
      have e : g_169 x0 = (1) := by
        unfold g_169
        rw [if_neg c2, if_neg c4, if_neg c6, if_neg c8, if_neg c10, if_pos c11]
      rw [e] at w
      exact w) (fun c2 c4 c6 c8 c10 c12 c13 => by
      have e : g_169 x0 = (1) := by
        unfold g_169
        rw [if_neg c2, if_neg c4, if_neg c6, if_neg c8, if_neg c10, if_neg c12, if_pos c13]
      rw [e] at w
      exact w) (fun c2 c4 c6 c8 c10 c12 c14 c15 => by
      have e : g_169 x0 = (1) := by
        unfold g_169
        rw [if_neg c2, if_neg c4, if_neg c6, if_neg c8, if_neg c10, if_neg c12, if_neg c14, if_pos c15]
      rw [e] at w
      exact w) (fun c2 c4 c6 c8 c10 c12 c14 c16 c17 => by
      have e : g_169 x0 = (1) := by
        unfold g_169
        rw [if_neg c2, if_neg c4, if_neg c6, if_neg c8, if_neg c10, if_neg c12, if_neg c14, if_neg c16, if_pos c17]
      rw [e] at w
      exact w) (fun c2 c4 c6 c8 c10 c12 c14 c16 c18 c19 => by
      have e : g_169 x0 = (1) := by
        unfold g_169
        rw [if_neg c2, if_neg c4, if_neg c6, if_neg c8, if_neg c10, if_neg c12, if_neg c14, if_neg c16, if_neg c18, if_pos c19]
      rw [e] at w
      exact w) (fun c2 c4 c6 c8 c10 c12 c14 c16 c18 c20 c21 => by
      have e : g_169 x0 = (1) := by
        unfold g_169
        rw [if_neg c2, if_neg c4, if_neg c6, if_neg c8, if_neg c10, if_neg c12, if_neg c14, if_neg c16, if_neg c18, if_neg c20, if_pos c21]
      rw [e] at w
      exact w) (fun c2 c4 c6 c8 c10 c12 c14 c16 c18 c20 c22 => by
      have e : g_169 x0 = (0) := by
        unfold g_169
        rw [if_neg c2, if_neg c4, if_neg c6, if_neg c8, if_neg c10, if_neg c12, if_neg c14, if_neg c16, if_neg c18, if_neg c20, if_neg c22]
      rw [e] at w
      exact w)
-- 171: DogDecreesModel.wrong(I)V
set_option maxRecDepth 100000 in
theorem k_171_0 {x1 : Int32}
    (h1 : (hi 279 2) ≤ 0 → (hi 279 6) = (3) → Q none (mkH (u2 (u2 hi 279 2 (1)) 279 3 (hi 279 7)) hl sw kp))
    (h2 : (hi 279 2) ≤ 0 → ¬ ((hi 279 6) = (3)) → Q none (mkH (u2 (u2 hi 279 2 x1) 279 3 (hi 279 7)) hl sw kp))
    (h3 : ¬ ((hi 279 2) ≤ 0) → Q none (mkH hi hl sw kp))
    : cW cd_171 d Q 0 [some (.ref 279), some (.int x1)] [] (mkH hi hl sw kp) :=
  cW.run (am_in []) 16 (And.intro (fun c1 => (And.intro (fun c2 => (cQ.of (h1 c1 c2))) (fun c3 => (cQ.of (h2 c1 c3))))) (fun c4 => (cQ.of (h3 c4))))
theorem e_171 {x1 : Int32}
    (h1 : (hi 279 2) ≤ 0 → (hi 279 6) = (3) → Q none (mkH (u2 (u2 hi 279 2 (1)) 279 3 (hi 279 7)) hl sw kp))
    (h2 : (hi 279 2) ≤ 0 → ¬ ((hi 279 6) = (3)) → Q none (mkH (u2 (u2 hi 279 2 x1) 279 3 (hi 279 7)) hl sw kp))
    (h3 : ¬ ((hi 279 2) ≤ 0) → Q none (mkH hi hl sw kp))
    : cS (d + 1) 171 [(.ref 279), (.int x1)] (mkH hi hl sw kp) Q := cS.of rfl (k_171_0 h1 h2 h3)
-- 172: DogDecreesModel.isWord(J)Z
set_option maxRecDepth 100000 in
theorem k_172_0 {x1 : Int64}
    (h1 : (hi 279 6) = (1) → (lg_cmp (hl 279 9) x1) = 0 → Q (some (.int (1))) (mkH hi hl sw kp))
    (h2 : (hi 279 6) = (1) → ¬ ((lg_cmp (hl 279 9) x1) = 0) → Q (some (.int (0))) (mkH hi hl sw kp))
    (h3 : ¬ ((hi 279 6) = (1)) → Q (some (.int (0))) (mkH hi hl sw kp))
    : cW cd_172 d Q 0 [some (.ref 279), some (.long x1), none] [] (mkH hi hl sw kp) :=
  cW.run (am_in []) 12 (And.intro (fun c1 => (And.intro (fun c2 => (And.intro (Or.inr rfl) (cQ.of (h1 c1 c2)))) (fun c3 => (And.intro (Or.inl rfl) (cQ.of (h2 c1 c3)))))) (fun c4 => (And.intro (Or.inl rfl) (cQ.of (h3 c4)))))
theorem e_172 {x1 : Int64}
    (h1 : (hi 279 6) = (1) → (lg_cmp (hl 279 9) x1) = 0 → Q (some (.int (1))) (mkH hi hl sw kp))
    (h2 : (hi 279 6) = (1) → ¬ ((lg_cmp (hl 279 9) x1) = 0) → Q (some (.int (0))) (mkH hi hl sw kp))
    (h3 : ¬ ((hi 279 6) = (1)) → Q (some (.int (0))) (mkH hi hl sw kp))
    : cS (d + 1) 172 [(.ref 279), (.long x1)] (mkH hi hl sw kp) Q := cS.of rfl (k_172_0 h1 h2 h3)
def g_172 (hi : Nat → Nat → Int32) (hl : Nat → Nat → Int64) (x1 : Int64) : Int32 := if (hi 279 6) = (1) then if (lg_cmp (hl 279 9) x1) = 0 then (1) else ((0)) else ((0))
theorem g_172_01 (hi : Nat → Nat → Int32) (hl : Nat → Nat → Int64) (x1 : Int64) : g_172 hi hl x1 = 0 ∨ g_172 hi hl x1 = 1 := by
  unfold g_172
  exact (ite01 (ite01 (Or.inr rfl) (Or.inl rfl)) (Or.inl rfl))
set_option maxRecDepth 100000 in
theorem s_172 {x1 : Int64} (w : Q (some (.int (g_172 hi hl x1))) (mkH hi hl sw kp)) : cS (d + 1) 172 [(.ref 279), (.long x1)] (mkH hi hl sw kp) Q :=
  e_172 (fun c1 c2 => by
      have e : g_172 hi hl x1 = (1) := by
        unfold g_172
        rw [if_pos c1, if_pos c2]
      rw [e] at w
      exact w) (fun c1 c3 => by
      have e : g_172 hi hl x1 = (0) := by
        unfold g_172
        rw [if_pos c1, if_neg c3]
      rw [e] at w
      exact w) (fun c4 => by
      have e : g_172 hi hl x1 = (0) := by
        unfold g_172
        rw [if_neg c4]
      rw [e] at w
      exact w)
-- 173: DogDecreesModel.isOwn()Z
set_option maxRecDepth 100000 in
theorem k_173_0
    (h1 : (lg_cmp (hl 279 9) (1684366692)) = 0 → Q (some (.int (1))) (mkH hi hl sw kp))
    (h2 : ¬ ((lg_cmp (hl 279 9) (1684366692)) = 0) → (lg_cmp (hl 279 9) (482854658917)) = 0 → Q (some (.int (1))) (mkH hi hl sw kp))
    (h3 : ¬ ((lg_cmp (hl 279 9) (1684366692)) = 0) → ¬ ((lg_cmp (hl 279 9) (482854658917)) = 0) → (lg_cmp (hl 279 9) (495756602476)) = 0 → Q (some (.int (1))) (mkH hi hl sw kp))
    (h4 : ¬ ((lg_cmp (hl 279 9) (1684366692)) = 0) → ¬ ((lg_cmp (hl 279 9) (482854658917)) = 0) → ¬ ((lg_cmp (hl 279 9) (495756602476)) = 0) → (lg_cmp (hl 279 9) (1685022067)) = 0 → Q (some (.int (1))) (mkH hi hl sw kp))
    (h5 : ¬ ((lg_cmp (hl 279 9) (1684366692)) = 0) → ¬ ((lg_cmp (hl 279 9) (482854658917)) = 0) → ¬ ((lg_cmp (hl 279 9) (495756602476)) = 0) → ¬ ((lg_cmp (hl 279 9) (1685022067)) = 0) → (lg_cmp (hl 279 9) (1885434984)) = 0 → Q (some (.int (1))) (mkH hi hl sw kp))
    (h6 : ¬ ((lg_cmp (hl 279 9) (1684366692)) = 0) → ¬ ((lg_cmp (hl 279 9) (482854658917)) = 0) → ¬ ((lg_cmp (hl 279 9) (495756602476)) = 0) → ¬ ((lg_cmp (hl 279 9) (1685022067)) = 0) → ¬ ((lg_cmp (hl 279 9) (1885434984)) = 0) → (lg_cmp (hl 279 9) (29807)) = 0 → Q (some (.int (1))) (mkH hi hl sw kp))
    (h7 : ¬ ((lg_cmp (hl 279 9) (1684366692)) = 0) → ¬ ((lg_cmp (hl 279 9) (482854658917)) = 0) → ¬ ((lg_cmp (hl 279 9) (495756602476)) = 0) → ¬ ((lg_cmp (hl 279 9) (1685022067)) = 0) → ¬ ((lg_cmp (hl 279 9) (1885434984)) = 0) → ¬ ((lg_cmp (hl 279 9) (29807)) = 0) → (lg_cmp (hl 279 9) (1667330917)) = 0 → Q (some (.int (1))) (mkH hi hl sw kp))
    (h8 : ¬ ((lg_cmp (hl 279 9) (1684366692)) = 0) → ¬ ((lg_cmp (hl 279 9) (482854658917)) = 0) → ¬ ((lg_cmp (hl 279 9) (495756602476)) = 0) → ¬ ((lg_cmp (hl 279 9) (1685022067)) = 0) → ¬ ((lg_cmp (hl 279 9) (1885434984)) = 0) → ¬ ((lg_cmp (hl 279 9) (29807)) = 0) → ¬ ((lg_cmp (hl 279 9) (1667330917)) = 0) → (lg_cmp (hl 279 9) (6447474)) = 0 → Q (some (.int (1))) (mkH hi hl sw kp))
    (h9 : ¬ ((lg_cmp (hl 279 9) (1684366692)) = 0) → ¬ ((lg_cmp (hl 279 9) (482854658917)) = 0) → ¬ ((lg_cmp (hl 279 9) (495756602476)) = 0) → ¬ ((lg_cmp (hl 279 9) (1685022067)) = 0) → ¬ ((lg_cmp (hl 279 9) (1885434984)) = 0) → ¬ ((lg_cmp (hl 279 9) (29807)) = 0) → ¬ ((lg_cmp (hl 279 9) (1667330917)) = 0) → ¬ ((lg_cmp (hl 279 9) (6447474)) = 0) → (lg_cmp (hl 279 9) (2003330414)) = 0 → Q (some (.int (1))) (mkH hi hl sw kp))
    (h10 : ¬ ((lg_cmp (hl 279 9) (1684366692)) = 0) → ¬ ((lg_cmp (hl 279 9) (482854658917)) = 0) → ¬ ((lg_cmp (hl 279 9) (495756602476)) = 0) → ¬ ((lg_cmp (hl 279 9) (1685022067)) = 0) → ¬ ((lg_cmp (hl 279 9) (1885434984)) = 0) → ¬ ((lg_cmp (hl 279 9) (29807)) = 0) → ¬ ((lg_cmp (hl 279 9) (1667330917)) = 0) → ¬ ((lg_cmp (hl 279 9) (6447474)) = 0) → ¬ ((lg_cmp (hl 279 9) (2003330414)) = 0) → (lg_cmp (hl 279 9) (1886743660)) = 0 → Q (some (.int (1))) (mkH hi hl sw kp))
    (h11 : ¬ ((lg_cmp (hl 279 9) (1684366692)) = 0) → ¬ ((lg_cmp (hl 279 9) (482854658917)) = 0) → ¬ ((lg_cmp (hl 279 9) (495756602476)) = 0) → ¬ ((lg_cmp (hl 279 9) (1685022067)) = 0) → ¬ ((lg_cmp (hl 279 9) (1885434984)) = 0) → ¬ ((lg_cmp (hl 279 9) (29807)) = 0) → ¬ ((lg_cmp (hl 279 9) (1667330917)) = 0) → ¬ ((lg_cmp (hl 279 9) (6447474)) = 0) → ¬ ((lg_cmp (hl 279 9) (2003330414)) = 0) → ¬ ((lg_cmp (hl 279 9) (1886743660)) = 0) → (lg_cmp (hl 279 9) (6578553)) = 0 → Q (some (.int (1))) (mkH hi hl sw kp))
    (h12 : ¬ ((lg_cmp (hl 279 9) (1684366692)) = 0) → ¬ ((lg_cmp (hl 279 9) (482854658917)) = 0) → ¬ ((lg_cmp (hl 279 9) (495756602476)) = 0) → ¬ ((lg_cmp (hl 279 9) (1685022067)) = 0) → ¬ ((lg_cmp (hl 279 9) (1885434984)) = 0) → ¬ ((lg_cmp (hl 279 9) (29807)) = 0) → ¬ ((lg_cmp (hl 279 9) (1667330917)) = 0) → ¬ ((lg_cmp (hl 279 9) (6447474)) = 0) → ¬ ((lg_cmp (hl 279 9) (2003330414)) = 0) → ¬ ((lg_cmp (hl 279 9) (1886743660)) = 0) → ¬ ((lg_cmp (hl 279 9) (6578553)) = 0) → (lg_cmp (hl 279 9) (448377483891)) = 0 → Q (some (.int (1))) (mkH hi hl sw kp))
    (h13 : ¬ ((lg_cmp (hl 279 9) (1684366692)) = 0) → ¬ ((lg_cmp (hl 279 9) (482854658917)) = 0) → ¬ ((lg_cmp (hl 279 9) (495756602476)) = 0) → ¬ ((lg_cmp (hl 279 9) (1685022067)) = 0) → ¬ ((lg_cmp (hl 279 9) (1885434984)) = 0) → ¬ ((lg_cmp (hl 279 9) (29807)) = 0) → ¬ ((lg_cmp (hl 279 9) (1667330917)) = 0) → ¬ ((lg_cmp (hl 279 9) (6447474)) = 0) → ¬ ((lg_cmp (hl 279 9) (2003330414)) = 0) → ¬ ((lg_cmp (hl 279 9) (1886743660)) = 0) → ¬ ((lg_cmp (hl 279 9) (6578553)) = 0) → ¬ ((lg_cmp (hl 279 9) (448377483891)) = 0) → (lg_cmp (hl 279 9) (495873782388)) = 0 → Q (some (.int (1))) (mkH hi hl sw kp))
    (h14 : ¬ ((lg_cmp (hl 279 9) (1684366692)) = 0) → ¬ ((lg_cmp (hl 279 9) (482854658917)) = 0) → ¬ ((lg_cmp (hl 279 9) (495756602476)) = 0) → ¬ ((lg_cmp (hl 279 9) (1685022067)) = 0) → ¬ ((lg_cmp (hl 279 9) (1885434984)) = 0) → ¬ ((lg_cmp (hl 279 9) (29807)) = 0) → ¬ ((lg_cmp (hl 279 9) (1667330917)) = 0) → ¬ ((lg_cmp (hl 279 9) (6447474)) = 0) → ¬ ((lg_cmp (hl 279 9) (2003330414)) = 0) → ¬ ((lg_cmp (hl 279 9) (1886743660)) = 0) → ¬ ((lg_cmp (hl 279 9) (6578553)) = 0) → ¬ ((lg_cmp (hl 279 9) (448377483891)) = 0) → ¬ ((lg_cmp (hl 279 9) (495873782388)) = 0) → (lg_cmp (hl 279 9) (6383461)) = 0 → Q (some (.int (1))) (mkH hi hl sw kp))
    (h15 : ¬ ((lg_cmp (hl 279 9) (1684366692)) = 0) → ¬ ((lg_cmp (hl 279 9) (482854658917)) = 0) → ¬ ((lg_cmp (hl 279 9) (495756602476)) = 0) → ¬ ((lg_cmp (hl 279 9) (1685022067)) = 0) → ¬ ((lg_cmp (hl 279 9) (1885434984)) = 0) → ¬ ((lg_cmp (hl 279 9) (29807)) = 0) → ¬ ((lg_cmp (hl 279 9) (1667330917)) = 0) → ¬ ((lg_cmp (hl 279 9) (6447474)) = 0) → ¬ ((lg_cmp (hl 279 9) (2003330414)) = 0) → ¬ ((lg_cmp (hl 279 9) (1886743660)) = 0) → ¬ ((lg_cmp (hl 279 9) (6578553)) = 0) → ¬ ((lg_cmp (hl 279 9) (448377483891)) = 0) → ¬ ((lg_cmp (hl 279 9) (495873782388)) = 0) → ¬ ((lg_cmp (hl 279 9) (6383461)) = 0) → (lg_cmp (hl 279 9) (1685217655)) = 0 → Q (some (.int (1))) (mkH hi hl sw kp))
    (h16 : ¬ ((lg_cmp (hl 279 9) (1684366692)) = 0) → ¬ ((lg_cmp (hl 279 9) (482854658917)) = 0) → ¬ ((lg_cmp (hl 279 9) (495756602476)) = 0) → ¬ ((lg_cmp (hl 279 9) (1685022067)) = 0) → ¬ ((lg_cmp (hl 279 9) (1885434984)) = 0) → ¬ ((lg_cmp (hl 279 9) (29807)) = 0) → ¬ ((lg_cmp (hl 279 9) (1667330917)) = 0) → ¬ ((lg_cmp (hl 279 9) (6447474)) = 0) → ¬ ((lg_cmp (hl 279 9) (2003330414)) = 0) → ¬ ((lg_cmp (hl 279 9) (1886743660)) = 0) → ¬ ((lg_cmp (hl 279 9) (6578553)) = 0) → ¬ ((lg_cmp (hl 279 9) (448377483891)) = 0) → ¬ ((lg_cmp (hl 279 9) (495873782388)) = 0) → ¬ ((lg_cmp (hl 279 9) (6383461)) = 0) → ¬ ((lg_cmp (hl 279 9) (1685217655)) = 0) → (lg_cmp (hl 279 9) (422776300915)) = 0 → Q (some (.int (1))) (mkH hi hl sw kp))
    (h17 : ¬ ((lg_cmp (hl 279 9) (1684366692)) = 0) → ¬ ((lg_cmp (hl 279 9) (482854658917)) = 0) → ¬ ((lg_cmp (hl 279 9) (495756602476)) = 0) → ¬ ((lg_cmp (hl 279 9) (1685022067)) = 0) → ¬ ((lg_cmp (hl 279 9) (1885434984)) = 0) → ¬ ((lg_cmp (hl 279 9) (29807)) = 0) → ¬ ((lg_cmp (hl 279 9) (1667330917)) = 0) → ¬ ((lg_cmp (hl 279 9) (6447474)) = 0) → ¬ ((lg_cmp (hl 279 9) (2003330414)) = 0) → ¬ ((lg_cmp (hl 279 9) (1886743660)) = 0) → ¬ ((lg_cmp (hl 279 9) (6578553)) = 0) → ¬ ((lg_cmp (hl 279 9) (448377483891)) = 0) → ¬ ((lg_cmp (hl 279 9) (495873782388)) = 0) → ¬ ((lg_cmp (hl 279 9) (6383461)) = 0) → ¬ ((lg_cmp (hl 279 9) (1685217655)) = 0) → ¬ ((lg_cmp (hl 279 9) (422776300915)) = 0) → (lg_cmp (hl 279 9) (1752135026)) = 0 → Q (some (.int (1))) (mkH hi hl sw kp))
    (h18 : ¬ ((lg_cmp (hl 279 9) (1684366692)) = 0) → ¬ ((lg_cmp (hl 279 9) (482854658917)) = 0) → ¬ ((lg_cmp (hl 279 9) (495756602476)) = 0) → ¬ ((lg_cmp (hl 279 9) (1685022067)) = 0) → ¬ ((lg_cmp (hl 279 9) (1885434984)) = 0) → ¬ ((lg_cmp (hl 279 9) (29807)) = 0) → ¬ ((lg_cmp (hl 279 9) (1667330917)) = 0) → ¬ ((lg_cmp (hl 279 9) (6447474)) = 0) → ¬ ((lg_cmp (hl 279 9) (2003330414)) = 0) → ¬ ((lg_cmp (hl 279 9) (1886743660)) = 0) → ¬ ((lg_cmp (hl 279 9) (6578553)) = 0) → ¬ ((lg_cmp (hl 279 9) (448377483891)) = 0) → ¬ ((lg_cmp (hl 279 9) (495873782388)) = 0) → ¬ ((lg_cmp (hl 279 9) (6383461)) = 0) → ¬ ((lg_cmp (hl 279 9) (1685217655)) = 0) → ¬ ((lg_cmp (hl 279 9) (422776300915)) = 0) → ¬ ((lg_cmp (hl 279 9) (1752135026)) = 0) → (lg_cmp (hl 279 9) (1751478885)) = 0 → Q (some (.int (1))) (mkH hi hl sw kp))
    (h19 : ¬ ((lg_cmp (hl 279 9) (1684366692)) = 0) → ¬ ((lg_cmp (hl 279 9) (482854658917)) = 0) → ¬ ((lg_cmp (hl 279 9) (495756602476)) = 0) → ¬ ((lg_cmp (hl 279 9) (1685022067)) = 0) → ¬ ((lg_cmp (hl 279 9) (1885434984)) = 0) → ¬ ((lg_cmp (hl 279 9) (29807)) = 0) → ¬ ((lg_cmp (hl 279 9) (1667330917)) = 0) → ¬ ((lg_cmp (hl 279 9) (6447474)) = 0) → ¬ ((lg_cmp (hl 279 9) (2003330414)) = 0) → ¬ ((lg_cmp (hl 279 9) (1886743660)) = 0) → ¬ ((lg_cmp (hl 279 9) (6578553)) = 0) → ¬ ((lg_cmp (hl 279 9) (448377483891)) = 0) → ¬ ((lg_cmp (hl 279 9) (495873782388)) = 0) → ¬ ((lg_cmp (hl 279 9) (6383461)) = 0) → ¬ ((lg_cmp (hl 279 9) (1685217655)) = 0) → ¬ ((lg_cmp (hl 279 9) (422776300915)) = 0) → ¬ ((lg_cmp (hl 279 9) (1752135026)) = 0) → ¬ ((lg_cmp (hl 279 9) (1751478885)) = 0) → (lg_cmp (hl 279 9) (6385252)) = 0 → Q (some (.int (1))) (mkH hi hl sw kp))
    (h20 : ¬ ((lg_cmp (hl 279 9) (1684366692)) = 0) → ¬ ((lg_cmp (hl 279 9) (482854658917)) = 0) → ¬ ((lg_cmp (hl 279 9) (495756602476)) = 0) → ¬ ((lg_cmp (hl 279 9) (1685022067)) = 0) → ¬ ((lg_cmp (hl 279 9) (1885434984)) = 0) → ¬ ((lg_cmp (hl 279 9) (29807)) = 0) → ¬ ((lg_cmp (hl 279 9) (1667330917)) = 0) → ¬ ((lg_cmp (hl 279 9) (6447474)) = 0) → ¬ ((lg_cmp (hl 279 9) (2003330414)) = 0) → ¬ ((lg_cmp (hl 279 9) (1886743660)) = 0) → ¬ ((lg_cmp (hl 279 9) (6578553)) = 0) → ¬ ((lg_cmp (hl 279 9) (448377483891)) = 0) → ¬ ((lg_cmp (hl 279 9) (495873782388)) = 0) → ¬ ((lg_cmp (hl 279 9) (6383461)) = 0) → ¬ ((lg_cmp (hl 279 9) (1685217655)) = 0) → ¬ ((lg_cmp (hl 279 9) (422776300915)) = 0) → ¬ ((lg_cmp (hl 279 9) (1752135026)) = 0) → ¬ ((lg_cmp (hl 279 9) (1751478885)) = 0) → ¬ ((lg_cmp (hl 279 9) (6385252)) = 0) → (lg_cmp (hl 279 9) (28530)) = 0 → Q (some (.int (1))) (mkH hi hl sw kp))
    (h21 : ¬ ((lg_cmp (hl 279 9) (1684366692)) = 0) → ¬ ((lg_cmp (hl 279 9) (482854658917)) = 0) → ¬ ((lg_cmp (hl 279 9) (495756602476)) = 0) → ¬ ((lg_cmp (hl 279 9) (1685022067)) = 0) → ¬ ((lg_cmp (hl 279 9) (1885434984)) = 0) → ¬ ((lg_cmp (hl 279 9) (29807)) = 0) → ¬ ((lg_cmp (hl 279 9) (1667330917)) = 0) → ¬ ((lg_cmp (hl 279 9) (6447474)) = 0) → ¬ ((lg_cmp (hl 279 9) (2003330414)) = 0) → ¬ ((lg_cmp (hl 279 9) (1886743660)) = 0) → ¬ ((lg_cmp (hl 279 9) (6578553)) = 0) → ¬ ((lg_cmp (hl 279 9) (448377483891)) = 0) → ¬ ((lg_cmp (hl 279 9) (495873782388)) = 0) → ¬ ((lg_cmp (hl 279 9) (6383461)) = 0) → ¬ ((lg_cmp (hl 279 9) (1685217655)) = 0) → ¬ ((lg_cmp (hl 279 9) (422776300915)) = 0) → ¬ ((lg_cmp (hl 279 9) (1752135026)) = 0) → ¬ ((lg_cmp (hl 279 9) (1751478885)) = 0) → ¬ ((lg_cmp (hl 279 9) (6385252)) = 0) → ¬ ((lg_cmp (hl 279 9) (28530)) = 0) → (lg_cmp (hl 279 9) (7237492)) = 0 → Q (some (.int (1))) (mkH hi hl sw kp))
    (h22 : ¬ ((lg_cmp (hl 279 9) (1684366692)) = 0) → ¬ ((lg_cmp (hl 279 9) (482854658917)) = 0) → ¬ ((lg_cmp (hl 279 9) (495756602476)) = 0) → ¬ ((lg_cmp (hl 279 9) (1685022067)) = 0) → ¬ ((lg_cmp (hl 279 9) (1885434984)) = 0) → ¬ ((lg_cmp (hl 279 9) (29807)) = 0) → ¬ ((lg_cmp (hl 279 9) (1667330917)) = 0) → ¬ ((lg_cmp (hl 279 9) (6447474)) = 0) → ¬ ((lg_cmp (hl 279 9) (2003330414)) = 0) → ¬ ((lg_cmp (hl 279 9) (1886743660)) = 0) → ¬ ((lg_cmp (hl 279 9) (6578553)) = 0) → ¬ ((lg_cmp (hl 279 9) (448377483891)) = 0) → ¬ ((lg_cmp (hl 279 9) (495873782388)) = 0) → ¬ ((lg_cmp (hl 279 9) (6383461)) = 0) → ¬ ((lg_cmp (hl 279 9) (1685217655)) = 0) → ¬ ((lg_cmp (hl 279 9) (422776300915)) = 0) → ¬ ((lg_cmp (hl 279 9) (1752135026)) = 0) → ¬ ((lg_cmp (hl 279 9) (1751478885)) = 0) → ¬ ((lg_cmp (hl 279 9) (6385252)) = 0) → ¬ ((lg_cmp (hl 279 9) (28530)) = 0) → ¬ ((lg_cmp (hl 279 9) (7237492)) = 0) → Q (some (.int (0))) (mkH hi hl sw kp))
    : cW cd_173 d Q 0 [some (.ref 279)] [] (mkH hi hl sw kp) :=
  cW.run (am_in []) 108 (And.intro (fun c1 => (And.intro (Or.inr rfl) (cQ.of (h1 c1)))) (fun c2 => (And.intro (fun c3 => (And.intro (Or.inr rfl) (cQ.of (h2 c2 c3)))) (fun c4 => (And.intro (fun c5 => (And.intro (Or.inr rfl) (cQ.of (h3 c2 c4 c5)))) (fun c6 => (And.intro (fun c7 => (And.intro (Or.inr rfl) (cQ.of (h4 c2 c4 c6 c7)))) (fun c8 => (And.intro (fun c9 => (And.intro (Or.inr rfl) (cQ.of (h5 c2 c4 c6 c8 c9)))) (fun c10 => (And.intro (fun c11 => (And.intro (Or.inr rfl) (cQ.of (h6 c2 c4 c6 c8 c10 c11)))) (fun c12 => (And.intro (fun c13 => (And.intro (Or.inr rfl) (cQ.of (h7 c2 c4 c6 c8 c10 c12 c13)))) (fun c14 => (And.intro (fun c15 => (And.intro (Or.inr rfl) (cQ.of (h8 c2 c4 c6 c8 c10 c12 c14 c15)))) (fun c16 => (And.intro (fun c17 => (And.intro (Or.inr rfl) (cQ.of (h9 c2 c4 c6 c8 c10 c12 c14 c16 c17)))) (fun c18 => (And.intro (fun c19 => (And.intro (Or.inr rfl) (cQ.of (h10 c2 c4 c6 c8 c10 c12 c14 c16 c18 c19)))) (fun c20 => (And.intro (fun c21 => (And.intro (Or.inr rfl) (cQ.of (h11 c2 c4 c6 c8 c10 c12 c14 c16 c18 c20 c21)))) (fun c22 => (And.intro (fun c23 => (And.intro (Or.inr rfl) (cQ.of (h12 c2 c4 c6 c8 c10 c12 c14 c16 c18 c20 c22 c23)))) (fun c24 => (And.intro (fun c25 => (And.intro (Or.inr rfl) (cQ.of (h13 c2 c4 c6 c8 c10 c12 c14 c16 c18 c20 c22 c24 c25)))) (fun c26 => (And.intro (fun c27 => (And.intro (Or.inr rfl) (cQ.of (h14 c2 c4 c6 c8 c10 c12 c14 c16 c18 c20 c22 c24 c26 c27)))) (fun c28 => (And.intro (fun c29 => (And.intro (Or.inr rfl) (cQ.of (h15 c2 c4 c6 c8 c10 c12 c14 c16 c18 c20 c22 c24 c26 c28 c29)))) (fun c30 => (And.intro (fun c31 => (And.intro (Or.inr rfl) (cQ.of (h16 c2 c4 c6 c8 c10 c12 c14 c16 c18 c20 c22 c24 c26 c28 c30 c31)))) (fun c32 => (And.intro (fun c33 => (And.intro (Or.inr rfl) (cQ.of (h17 c2 c4 c6 c8 c10 c12 c14 c16 c18 c20 c22 c24 c26 c28 c30 c32 c33)))) (fun c34 => (And.intro (fun c35 => (And.intro (Or.inr rfl) (cQ.of (h18 c2 c4 c6 c8 c10 c12 c14 c16 c18 c20 c22 c24 c26 c28 c30 c32 c34 c35)))) (fun c36 => (And.intro (fun c37 => (And.intro (Or.inr rfl) (cQ.of (h19 c2 c4 c6 c8 c10 c12 c14 c16 c18 c20 c22 c24 c26 c28 c30 c32 c34 c36 c37)))) (fun c38 => (And.intro (fun c39 => (And.intro (Or.inr rfl) (cQ.of (h20 c2 c4 c6 c8 c10 c12 c14 c16 c18 c20 c22 c24 c26 c28 c30 c32 c34 c36 c38 c39)))) (fun c40 => (And.intro (fun c41 => (And.intro (Or.inr rfl) (cQ.of (h21 c2 c4 c6 c8 c10 c12 c14 c16 c18 c20 c22 c24 c26 c28 c30 c32 c34 c36 c38 c40 c41)))) (fun c42 => (And.intro (Or.inl rfl) (cQ.of (h22 c2 c4 c6 c8 c10 c12 c14 c16 c18 c20 c22 c24 c26 c28 c30 c32 c34 c36 c38 c40 c42)))))))))))))))))))))))))))))))))))))))))))))
theorem e_173
    (h1 : (lg_cmp (hl 279 9) (1684366692)) = 0 → Q (some (.int (1))) (mkH hi hl sw kp))
    (h2 : ¬ ((lg_cmp (hl 279 9) (1684366692)) = 0) → (lg_cmp (hl 279 9) (482854658917)) = 0 → Q (some (.int (1))) (mkH hi hl sw kp))
    (h3 : ¬ ((lg_cmp (hl 279 9) (1684366692)) = 0) → ¬ ((lg_cmp (hl 279 9) (482854658917)) = 0) → (lg_cmp (hl 279 9) (495756602476)) = 0 → Q (some (.int (1))) (mkH hi hl sw kp))
    (h4 : ¬ ((lg_cmp (hl 279 9) (1684366692)) = 0) → ¬ ((lg_cmp (hl 279 9) (482854658917)) = 0) → ¬ ((lg_cmp (hl 279 9) (495756602476)) = 0) → (lg_cmp (hl 279 9) (1685022067)) = 0 → Q (some (.int (1))) (mkH hi hl sw kp))
    (h5 : ¬ ((lg_cmp (hl 279 9) (1684366692)) = 0) → ¬ ((lg_cmp (hl 279 9) (482854658917)) = 0) → ¬ ((lg_cmp (hl 279 9) (495756602476)) = 0) → ¬ ((lg_cmp (hl 279 9) (1685022067)) = 0) → (lg_cmp (hl 279 9) (1885434984)) = 0 → Q (some (.int (1))) (mkH hi hl sw kp))
    (h6 : ¬ ((lg_cmp (hl 279 9) (1684366692)) = 0) → ¬ ((lg_cmp (hl 279 9) (482854658917)) = 0) → ¬ ((lg_cmp (hl 279 9) (495756602476)) = 0) → ¬ ((lg_cmp (hl 279 9) (1685022067)) = 0) → ¬ ((lg_cmp (hl 279 9) (1885434984)) = 0) → (lg_cmp (hl 279 9) (29807)) = 0 → Q (some (.int (1))) (mkH hi hl sw kp))
    (h7 : ¬ ((lg_cmp (hl 279 9) (1684366692)) = 0) → ¬ ((lg_cmp (hl 279 9) (482854658917)) = 0) → ¬ ((lg_cmp (hl 279 9) (495756602476)) = 0) → ¬ ((lg_cmp (hl 279 9) (1685022067)) = 0) → ¬ ((lg_cmp (hl 279 9) (1885434984)) = 0) → ¬ ((lg_cmp (hl 279 9) (29807)) = 0) → (lg_cmp (hl 279 9) (1667330917)) = 0 → Q (some (.int (1))) (mkH hi hl sw kp))
    (h8 : ¬ ((lg_cmp (hl 279 9) (1684366692)) = 0) → ¬ ((lg_cmp (hl 279 9) (482854658917)) = 0) → ¬ ((lg_cmp (hl 279 9) (495756602476)) = 0) → ¬ ((lg_cmp (hl 279 9) (1685022067)) = 0) → ¬ ((lg_cmp (hl 279 9) (1885434984)) = 0) → ¬ ((lg_cmp (hl 279 9) (29807)) = 0) → ¬ ((lg_cmp (hl 279 9) (1667330917)) = 0) → (lg_cmp (hl 279 9) (6447474)) = 0 → Q (some (.int (1))) (mkH hi hl sw kp))
    (h9 : ¬ ((lg_cmp (hl 279 9) (1684366692)) = 0) → ¬ ((lg_cmp (hl 279 9) (482854658917)) = 0) → ¬ ((lg_cmp (hl 279 9) (495756602476)) = 0) → ¬ ((lg_cmp (hl 279 9) (1685022067)) = 0) → ¬ ((lg_cmp (hl 279 9) (1885434984)) = 0) → ¬ ((lg_cmp (hl 279 9) (29807)) = 0) → ¬ ((lg_cmp (hl 279 9) (1667330917)) = 0) → ¬ ((lg_cmp (hl 279 9) (6447474)) = 0) → (lg_cmp (hl 279 9) (2003330414)) = 0 → Q (some (.int (1))) (mkH hi hl sw kp))
    (h10 : ¬ ((lg_cmp (hl 279 9) (1684366692)) = 0) → ¬ ((lg_cmp (hl 279 9) (482854658917)) = 0) → ¬ ((lg_cmp (hl 279 9) (495756602476)) = 0) → ¬ ((lg_cmp (hl 279 9) (1685022067)) = 0) → ¬ ((lg_cmp (hl 279 9) (1885434984)) = 0) → ¬ ((lg_cmp (hl 279 9) (29807)) = 0) → ¬ ((lg_cmp (hl 279 9) (1667330917)) = 0) → ¬ ((lg_cmp (hl 279 9) (6447474)) = 0) → ¬ ((lg_cmp (hl 279 9) (2003330414)) = 0) → (lg_cmp (hl 279 9) (1886743660)) = 0 → Q (some (.int (1))) (mkH hi hl sw kp))
    (h11 : ¬ ((lg_cmp (hl 279 9) (1684366692)) = 0) → ¬ ((lg_cmp (hl 279 9) (482854658917)) = 0) → ¬ ((lg_cmp (hl 279 9) (495756602476)) = 0) → ¬ ((lg_cmp (hl 279 9) (1685022067)) = 0) → ¬ ((lg_cmp (hl 279 9) (1885434984)) = 0) → ¬ ((lg_cmp (hl 279 9) (29807)) = 0) → ¬ ((lg_cmp (hl 279 9) (1667330917)) = 0) → ¬ ((lg_cmp (hl 279 9) (6447474)) = 0) → ¬ ((lg_cmp (hl 279 9) (2003330414)) = 0) → ¬ ((lg_cmp (hl 279 9) (1886743660)) = 0) → (lg_cmp (hl 279 9) (6578553)) = 0 → Q (some (.int (1))) (mkH hi hl sw kp))
    (h12 : ¬ ((lg_cmp (hl 279 9) (1684366692)) = 0) → ¬ ((lg_cmp (hl 279 9) (482854658917)) = 0) → ¬ ((lg_cmp (hl 279 9) (495756602476)) = 0) → ¬ ((lg_cmp (hl 279 9) (1685022067)) = 0) → ¬ ((lg_cmp (hl 279 9) (1885434984)) = 0) → ¬ ((lg_cmp (hl 279 9) (29807)) = 0) → ¬ ((lg_cmp (hl 279 9) (1667330917)) = 0) → ¬ ((lg_cmp (hl 279 9) (6447474)) = 0) → ¬ ((lg_cmp (hl 279 9) (2003330414)) = 0) → ¬ ((lg_cmp (hl 279 9) (1886743660)) = 0) → ¬ ((lg_cmp (hl 279 9) (6578553)) = 0) → (lg_cmp (hl 279 9) (448377483891)) = 0 → Q (some (.int (1))) (mkH hi hl sw kp))
    (h13 : ¬ ((lg_cmp (hl 279 9) (1684366692)) = 0) → ¬ ((lg_cmp (hl 279 9) (482854658917)) = 0) → ¬ ((lg_cmp (hl 279 9) (495756602476)) = 0) → ¬ ((lg_cmp (hl 279 9) (1685022067)) = 0) → ¬ ((lg_cmp (hl 279 9) (1885434984)) = 0) → ¬ ((lg_cmp (hl 279 9) (29807)) = 0) → ¬ ((lg_cmp (hl 279 9) (1667330917)) = 0) → ¬ ((lg_cmp (hl 279 9) (6447474)) = 0) → ¬ ((lg_cmp (hl 279 9) (2003330414)) = 0) → ¬ ((lg_cmp (hl 279 9) (1886743660)) = 0) → ¬ ((lg_cmp (hl 279 9) (6578553)) = 0) → ¬ ((lg_cmp (hl 279 9) (448377483891)) = 0) → (lg_cmp (hl 279 9) (495873782388)) = 0 → Q (some (.int (1))) (mkH hi hl sw kp))
    (h14 : ¬ ((lg_cmp (hl 279 9) (1684366692)) = 0) → ¬ ((lg_cmp (hl 279 9) (482854658917)) = 0) → ¬ ((lg_cmp (hl 279 9) (495756602476)) = 0) → ¬ ((lg_cmp (hl 279 9) (1685022067)) = 0) → ¬ ((lg_cmp (hl 279 9) (1885434984)) = 0) → ¬ ((lg_cmp (hl 279 9) (29807)) = 0) → ¬ ((lg_cmp (hl 279 9) (1667330917)) = 0) → ¬ ((lg_cmp (hl 279 9) (6447474)) = 0) → ¬ ((lg_cmp (hl 279 9) (2003330414)) = 0) → ¬ ((lg_cmp (hl 279 9) (1886743660)) = 0) → ¬ ((lg_cmp (hl 279 9) (6578553)) = 0) → ¬ ((lg_cmp (hl 279 9) (448377483891)) = 0) → ¬ ((lg_cmp (hl 279 9) (495873782388)) = 0) → (lg_cmp (hl 279 9) (6383461)) = 0 → Q (some (.int (1))) (mkH hi hl sw kp))
    (h15 : ¬ ((lg_cmp (hl 279 9) (1684366692)) = 0) → ¬ ((lg_cmp (hl 279 9) (482854658917)) = 0) → ¬ ((lg_cmp (hl 279 9) (495756602476)) = 0) → ¬ ((lg_cmp (hl 279 9) (1685022067)) = 0) → ¬ ((lg_cmp (hl 279 9) (1885434984)) = 0) → ¬ ((lg_cmp (hl 279 9) (29807)) = 0) → ¬ ((lg_cmp (hl 279 9) (1667330917)) = 0) → ¬ ((lg_cmp (hl 279 9) (6447474)) = 0) → ¬ ((lg_cmp (hl 279 9) (2003330414)) = 0) → ¬ ((lg_cmp (hl 279 9) (1886743660)) = 0) → ¬ ((lg_cmp (hl 279 9) (6578553)) = 0) → ¬ ((lg_cmp (hl 279 9) (448377483891)) = 0) → ¬ ((lg_cmp (hl 279 9) (495873782388)) = 0) → ¬ ((lg_cmp (hl 279 9) (6383461)) = 0) → (lg_cmp (hl 279 9) (1685217655)) = 0 → Q (some (.int (1))) (mkH hi hl sw kp))
    (h16 : ¬ ((lg_cmp (hl 279 9) (1684366692)) = 0) → ¬ ((lg_cmp (hl 279 9) (482854658917)) = 0) → ¬ ((lg_cmp (hl 279 9) (495756602476)) = 0) → ¬ ((lg_cmp (hl 279 9) (1685022067)) = 0) → ¬ ((lg_cmp (hl 279 9) (1885434984)) = 0) → ¬ ((lg_cmp (hl 279 9) (29807)) = 0) → ¬ ((lg_cmp (hl 279 9) (1667330917)) = 0) → ¬ ((lg_cmp (hl 279 9) (6447474)) = 0) → ¬ ((lg_cmp (hl 279 9) (2003330414)) = 0) → ¬ ((lg_cmp (hl 279 9) (1886743660)) = 0) → ¬ ((lg_cmp (hl 279 9) (6578553)) = 0) → ¬ ((lg_cmp (hl 279 9) (448377483891)) = 0) → ¬ ((lg_cmp (hl 279 9) (495873782388)) = 0) → ¬ ((lg_cmp (hl 279 9) (6383461)) = 0) → ¬ ((lg_cmp (hl 279 9) (1685217655)) = 0) → (lg_cmp (hl 279 9) (422776300915)) = 0 → Q (some (.int (1))) (mkH hi hl sw kp))
    (h17 : ¬ ((lg_cmp (hl 279 9) (1684366692)) = 0) → ¬ ((lg_cmp (hl 279 9) (482854658917)) = 0) → ¬ ((lg_cmp (hl 279 9) (495756602476)) = 0) → ¬ ((lg_cmp (hl 279 9) (1685022067)) = 0) → ¬ ((lg_cmp (hl 279 9) (1885434984)) = 0) → ¬ ((lg_cmp (hl 279 9) (29807)) = 0) → ¬ ((lg_cmp (hl 279 9) (1667330917)) = 0) → ¬ ((lg_cmp (hl 279 9) (6447474)) = 0) → ¬ ((lg_cmp (hl 279 9) (2003330414)) = 0) → ¬ ((lg_cmp (hl 279 9) (1886743660)) = 0) → ¬ ((lg_cmp (hl 279 9) (6578553)) = 0) → ¬ ((lg_cmp (hl 279 9) (448377483891)) = 0) → ¬ ((lg_cmp (hl 279 9) (495873782388)) = 0) → ¬ ((lg_cmp (hl 279 9) (6383461)) = 0) → ¬ ((lg_cmp (hl 279 9) (1685217655)) = 0) → ¬ ((lg_cmp (hl 279 9) (422776300915)) = 0) → (lg_cmp (hl 279 9) (1752135026)) = 0 → Q (some (.int (1))) (mkH hi hl sw kp))
    (h18 : ¬ ((lg_cmp (hl 279 9) (1684366692)) = 0) → ¬ ((lg_cmp (hl 279 9) (482854658917)) = 0) → ¬ ((lg_cmp (hl 279 9) (495756602476)) = 0) → ¬ ((lg_cmp (hl 279 9) (1685022067)) = 0) → ¬ ((lg_cmp (hl 279 9) (1885434984)) = 0) → ¬ ((lg_cmp (hl 279 9) (29807)) = 0) → ¬ ((lg_cmp (hl 279 9) (1667330917)) = 0) → ¬ ((lg_cmp (hl 279 9) (6447474)) = 0) → ¬ ((lg_cmp (hl 279 9) (2003330414)) = 0) → ¬ ((lg_cmp (hl 279 9) (1886743660)) = 0) → ¬ ((lg_cmp (hl 279 9) (6578553)) = 0) → ¬ ((lg_cmp (hl 279 9) (448377483891)) = 0) → ¬ ((lg_cmp (hl 279 9) (495873782388)) = 0) → ¬ ((lg_cmp (hl 279 9) (6383461)) = 0) → ¬ ((lg_cmp (hl 279 9) (1685217655)) = 0) → ¬ ((lg_cmp (hl 279 9) (422776300915)) = 0) → ¬ ((lg_cmp (hl 279 9) (1752135026)) = 0) → (lg_cmp (hl 279 9) (1751478885)) = 0 → Q (some (.int (1))) (mkH hi hl sw kp))
    (h19 : ¬ ((lg_cmp (hl 279 9) (1684366692)) = 0) → ¬ ((lg_cmp (hl 279 9) (482854658917)) = 0) → ¬ ((lg_cmp (hl 279 9) (495756602476)) = 0) → ¬ ((lg_cmp (hl 279 9) (1685022067)) = 0) → ¬ ((lg_cmp (hl 279 9) (1885434984)) = 0) → ¬ ((lg_cmp (hl 279 9) (29807)) = 0) → ¬ ((lg_cmp (hl 279 9) (1667330917)) = 0) → ¬ ((lg_cmp (hl 279 9) (6447474)) = 0) → ¬ ((lg_cmp (hl 279 9) (2003330414)) = 0) → ¬ ((lg_cmp (hl 279 9) (1886743660)) = 0) → ¬ ((lg_cmp (hl 279 9) (6578553)) = 0) → ¬ ((lg_cmp (hl 279 9) (448377483891)) = 0) → ¬ ((lg_cmp (hl 279 9) (495873782388)) = 0) → ¬ ((lg_cmp (hl 279 9) (6383461)) = 0) → ¬ ((lg_cmp (hl 279 9) (1685217655)) = 0) → ¬ ((lg_cmp (hl 279 9) (422776300915)) = 0) → ¬ ((lg_cmp (hl 279 9) (1752135026)) = 0) → ¬ ((lg_cmp (hl 279 9) (1751478885)) = 0) → (lg_cmp (hl 279 9) (6385252)) = 0 → Q (some (.int (1))) (mkH hi hl sw kp))
    (h20 : ¬ ((lg_cmp (hl 279 9) (1684366692)) = 0) → ¬ ((lg_cmp (hl 279 9) (482854658917)) = 0) → ¬ ((lg_cmp (hl 279 9) (495756602476)) = 0) → ¬ ((lg_cmp (hl 279 9) (1685022067)) = 0) → ¬ ((lg_cmp (hl 279 9) (1885434984)) = 0) → ¬ ((lg_cmp (hl 279 9) (29807)) = 0) → ¬ ((lg_cmp (hl 279 9) (1667330917)) = 0) → ¬ ((lg_cmp (hl 279 9) (6447474)) = 0) → ¬ ((lg_cmp (hl 279 9) (2003330414)) = 0) → ¬ ((lg_cmp (hl 279 9) (1886743660)) = 0) → ¬ ((lg_cmp (hl 279 9) (6578553)) = 0) → ¬ ((lg_cmp (hl 279 9) (448377483891)) = 0) → ¬ ((lg_cmp (hl 279 9) (495873782388)) = 0) → ¬ ((lg_cmp (hl 279 9) (6383461)) = 0) → ¬ ((lg_cmp (hl 279 9) (1685217655)) = 0) → ¬ ((lg_cmp (hl 279 9) (422776300915)) = 0) → ¬ ((lg_cmp (hl 279 9) (1752135026)) = 0) → ¬ ((lg_cmp (hl 279 9) (1751478885)) = 0) → ¬ ((lg_cmp (hl 279 9) (6385252)) = 0) → (lg_cmp (hl 279 9) (28530)) = 0 → Q (some (.int (1))) (mkH hi hl sw kp))
    (h21 : ¬ ((lg_cmp (hl 279 9) (1684366692)) = 0) → ¬ ((lg_cmp (hl 279 9) (482854658917)) = 0) → ¬ ((lg_cmp (hl 279 9) (495756602476)) = 0) → ¬ ((lg_cmp (hl 279 9) (1685022067)) = 0) → ¬ ((lg_cmp (hl 279 9) (1885434984)) = 0) → ¬ ((lg_cmp (hl 279 9) (29807)) = 0) → ¬ ((lg_cmp (hl 279 9) (1667330917)) = 0) → ¬ ((lg_cmp (hl 279 9) (6447474)) = 0) → ¬ ((lg_cmp (hl 279 9) (2003330414)) = 0) → ¬ ((lg_cmp (hl 279 9) (1886743660)) = 0) → ¬ ((lg_cmp (hl 279 9) (6578553)) = 0) → ¬ ((lg_cmp (hl 279 9) (448377483891)) = 0) → ¬ ((lg_cmp (hl 279 9) (495873782388)) = 0) → ¬ ((lg_cmp (hl 279 9) (6383461)) = 0) → ¬ ((lg_cmp (hl 279 9) (1685217655)) = 0) → ¬ ((lg_cmp (hl 279 9) (422776300915)) = 0) → ¬ ((lg_cmp (hl 279 9) (1752135026)) = 0) → ¬ ((lg_cmp (hl 279 9) (1751478885)) = 0) → ¬ ((lg_cmp (hl 279 9) (6385252)) = 0) → ¬ ((lg_cmp (hl 279 9) (28530)) = 0) → (lg_cmp (hl 279 9) (7237492)) = 0 → Q (some (.int (1))) (mkH hi hl sw kp))
    (h22 : ¬ ((lg_cmp (hl 279 9) (1684366692)) = 0) → ¬ ((lg_cmp (hl 279 9) (482854658917)) = 0) → ¬ ((lg_cmp (hl 279 9) (495756602476)) = 0) → ¬ ((lg_cmp (hl 279 9) (1685022067)) = 0) → ¬ ((lg_cmp (hl 279 9) (1885434984)) = 0) → ¬ ((lg_cmp (hl 279 9) (29807)) = 0) → ¬ ((lg_cmp (hl 279 9) (1667330917)) = 0) → ¬ ((lg_cmp (hl 279 9) (6447474)) = 0) → ¬ ((lg_cmp (hl 279 9) (2003330414)) = 0) → ¬ ((lg_cmp (hl 279 9) (1886743660)) = 0) → ¬ ((lg_cmp (hl 279 9) (6578553)) = 0) → ¬ ((lg_cmp (hl 279 9) (448377483891)) = 0) → ¬ ((lg_cmp (hl 279 9) (495873782388)) = 0) → ¬ ((lg_cmp (hl 279 9) (6383461)) = 0) → ¬ ((lg_cmp (hl 279 9) (1685217655)) = 0) → ¬ ((lg_cmp (hl 279 9) (422776300915)) = 0) → ¬ ((lg_cmp (hl 279 9) (1752135026)) = 0) → ¬ ((lg_cmp (hl 279 9) (1751478885)) = 0) → ¬ ((lg_cmp (hl 279 9) (6385252)) = 0) → ¬ ((lg_cmp (hl 279 9) (28530)) = 0) → ¬ ((lg_cmp (hl 279 9) (7237492)) = 0) → Q (some (.int (0))) (mkH hi hl sw kp))
    : cS (d + 1) 173 [(.ref 279)] (mkH hi hl sw kp) Q := cS.of rfl (k_173_0 h1 h2 h3 h4 h5 h6 h7 h8 h9 h10 h11 h12 h13 h14 h15 h16 h17 h18 h19 h20 h21 h22)
def g_173 (hl : Nat → Nat → Int64) : Int32 := if (lg_cmp (hl 279 9) (1684366692)) = 0 then (1) else (if (lg_cmp (hl 279 9) (482854658917)) = 0 then (1) else (if (lg_cmp (hl 279 9) (495756602476)) = 0 then (1) else (if (lg_cmp (hl 279 9) (1685022067)) = 0 then (1) else (if (lg_cmp (hl 279 9) (1885434984)) = 0 then (1) else (if (lg_cmp (hl 279 9) (29807)) = 0 then (1) else (if (lg_cmp (hl 279 9) (1667330917)) = 0 then (1) else (if (lg_cmp (hl 279 9) (6447474)) = 0 then (1) else (if (lg_cmp (hl 279 9) (2003330414)) = 0 then (1) else (if (lg_cmp (hl 279 9) (1886743660)) = 0 then (1) else (if (lg_cmp (hl 279 9) (6578553)) = 0 then (1) else (if (lg_cmp (hl 279 9) (448377483891)) = 0 then (1) else (if (lg_cmp (hl 279 9) (495873782388)) = 0 then (1) else (if (lg_cmp (hl 279 9) (6383461)) = 0 then (1) else (if (lg_cmp (hl 279 9) (1685217655)) = 0 then (1) else (if (lg_cmp (hl 279 9) (422776300915)) = 0 then (1) else (if (lg_cmp (hl 279 9) (1752135026)) = 0 then (1) else (if (lg_cmp (hl 279 9) (1751478885)) = 0 then (1) else (if (lg_cmp (hl 279 9) (6385252)) = 0 then (1) else (if (lg_cmp (hl 279 9) (28530)) = 0 then (1) else (if (lg_cmp (hl 279 9) (7237492)) = 0 then (1) else ((0))))))))))))))))))))))
theorem g_173_01 (hl : Nat → Nat → Int64) : g_173 hl = 0 ∨ g_173 hl = 1 := by
  unfold g_173
  exact (ite01 (Or.inr rfl) (ite01 (Or.inr rfl) (ite01 (Or.inr rfl) (ite01 (Or.inr rfl) (ite01 (Or.inr rfl) (ite01 (Or.inr rfl) (ite01 (Or.inr rfl) (ite01 (Or.inr rfl) (ite01 (Or.inr rfl) (ite01 (Or.inr rfl) (ite01 (Or.inr rfl) (ite01 (Or.inr rfl) (ite01 (Or.inr rfl) (ite01 (Or.inr rfl) (ite01 (Or.inr rfl) (ite01 (Or.inr rfl) (ite01 (Or.inr rfl) (ite01 (Or.inr rfl) (ite01 (Or.inr rfl) (ite01 (Or.inr rfl) (ite01 (Or.inr rfl) (Or.inl rfl))))))))))))))))))))))
set_option maxRecDepth 100000 in
theorem s_173 (w : Q (some (.int (g_173 hl))) (mkH hi hl sw kp)) : cS (d + 1) 173 [(.ref 279)] (mkH hi hl sw kp) Q :=
  e_173 (fun c1 => by
      have e : g_173 hl = (1) := by
        unfold g_173
        rw [if_pos c1]
      rw [e] at w
      exact w) (fun c2 c3 => by
      have e : g_173 hl = (1) := by
        unfold g_173
        rw [if_neg c2, if_pos c3]
      rw [e] at w
      exact w) (fun c2 c4 c5 => by
      have e : g_173 hl = (1) := by
        unfold g_173
        rw [if_neg c2, if_neg c4, if_pos c5]
      rw [e] at w
      exact w) (fun c2 c4 c6 c7 => by
      have e : g_173 hl = (1) := by
        unfold g_173
        rw [if_neg c2, if_neg c4, if_neg c6, if_pos c7]
      rw [e] at w
      exact w) (fun c2 c4 c6 c8 c9 => by
      have e : g_173 hl = (1) := by
        unfold g_173
        rw [if_neg c2, if_neg c4, if_neg c6, if_neg c8, if_pos c9]
      rw [e] at w
      exact w) (fun c2 c4 c6 c8 c10 c11 => by
      have e : g_173 hl = (1) := by
        unfold g_173
        rw [if_neg c2, if_neg c4, if_neg c6, if_neg c8, if_neg c10, if_pos c11]
      rw [e] at w
      exact w) (fun c2 c4 c6 c8 c10 c12 c13 => by
      have e : g_173 hl = (1) := by
        unfold g_173
        rw [if_neg c2, if_neg c4, if_neg c6, if_neg c8, if_neg c10, if_neg c12, if_pos c13]
      rw [e] at w
      exact w) (fun c2 c4 c6 c8 c10 c12 c14 c15 => by
      have e : g_173 hl = (1) := by
        unfold g_173
        rw [if_neg c2, if_neg c4, if_neg c6, if_neg c8, if_neg c10, if_neg c12, if_neg c14, if_pos c15]
      rw [e] at w
      exact w) (fun c2 c4 c6 c8 c10 c12 c14 c16 c17 => by
      have e : g_173 hl = (1) := by
        unfold g_173
        rw [if_neg c2, if_neg c4, if_neg c6, if_neg c8, if_neg c10, if_neg c12, if_neg c14, if_neg c16, if_pos c17]
      rw [e] at w
      exact w) (fun c2 c4 c6 c8 c10 c12 c14 c16 c18 c19 => by
      have e : g_173 hl = (1) := by
        unfold g_173
        rw [if_neg c2, if_neg c4, if_neg c6, if_neg c8, if_neg c10, if_neg c12, if_neg c14, if_neg c16, if_neg c18, if_pos c19]
      rw [e] at w
      exact w) (fun c2 c4 c6 c8 c10 c12 c14 c16 c18 c20 c21 => by
      have e : g_173 hl = (1) := by
        unfold g_173
        rw [if_neg c2, if_neg c4, if_neg c6, if_neg c8, if_neg c10, if_neg c12, if_neg c14, if_neg c16, if_neg c18, if_neg c20, if_pos c21]
      rw [e] at w
      exact w) (fun c2 c4 c6 c8 c10 c12 c14 c16 c18 c20 c22 c23 => by
      have e : g_173 hl = (1) := by
        unfold g_173
        rw [if_neg c2, if_neg c4, if_neg c6, if_neg c8, if_neg c10, if_neg c12, if_neg c14, if_neg c16, if_neg c18, if_neg c20, if_neg c22, if_pos c23]
      rw [e] at w
      exact w) (fun c2 c4 c6 c8 c10 c12 c14 c16 c18 c20 c22 c24 c25 => by
      have e : g_173 hl = (1) := by
        unfold g_173
        rw [if_neg c2, if_neg c4, if_neg c6, if_neg c8, if_neg c10, if_neg c12, if_neg c14, if_neg c16, if_neg c18, if_neg c20, if_neg c22, if_neg c24, if_pos c25]
      rw [e] at w
      exact w) (fun c2 c4 c6 c8 c10 c12 c14 c16 c18 c20 c22 c24 c26 c27 => by
      have e : g_173 hl = (1) := by
        unfold g_173
        rw [if_neg c2, if_neg c4, if_neg c6, if_neg c8, if_neg c10, if_neg c12, if_neg c14, if_neg c16, if_neg c18, if_neg c20, if_neg c22, if_neg c24, if_neg c26, if_pos c27]
      rw [e] at w
      exact w) (fun c2 c4 c6 c8 c10 c12 c14 c16 c18 c20 c22 c24 c26 c28 c29 => by
      have e : g_173 hl = (1) := by
        unfold g_173
        rw [if_neg c2, if_neg c4, if_neg c6, if_neg c8, if_neg c10, if_neg c12, if_neg c14, if_neg c16, if_neg c18, if_neg c20, if_neg c22, if_neg c24, if_neg c26, if_neg c28, if_pos c29]
      rw [e] at w
      exact w) (fun c2 c4 c6 c8 c10 c12 c14 c16 c18 c20 c22 c24 c26 c28 c30 c31 => by
      have e : g_173 hl = (1) := by
        unfold g_173
        rw [if_neg c2, if_neg c4, if_neg c6, if_neg c8, if_neg c10, if_neg c12, if_neg c14, if_neg c16, if_neg c18, if_neg c20, if_neg c22, if_neg c24, if_neg c26, if_neg c28, if_neg c30, if_pos c31]
      rw [e] at w
      exact w) (fun c2 c4 c6 c8 c10 c12 c14 c16 c18 c20 c22 c24 c26 c28 c30 c32 c33 => by
      have e : g_173 hl = (1) := by
        unfold g_173
        rw [if_neg c2, if_neg c4, if_neg c6, if_neg c8, if_neg c10, if_neg c12, if_neg c14, if_neg c16, if_neg c18, if_neg c20, if_neg c22, if_neg c24, if_neg c26, if_neg c28, if_neg c30, if_neg c32, if_pos c33]
      rw [e] at w
      exact w) (fun c2 c4 c6 c8 c10 c12 c14 c16 c18 c20 c22 c24 c26 c28 c30 c32 c34 c35 => by
      have e : g_173 hl = (1) := by
        unfold g_173
        rw [if_neg c2, if_neg c4, if_neg c6, if_neg c8, if_neg c10, if_neg c12, if_neg c14, if_neg c16, if_neg c18, if_neg c20, if_neg c22, if_neg c24, if_neg c26, if_neg c28, if_neg c30, if_neg c32, if_neg c34, if_pos c35]
      rw [e] at w
      exact w) (fun c2 c4 c6 c8 c10 c12 c14 c16 c18 c20 c22 c24 c26 c28 c30 c32 c34 c36 c37 => by
      have e : g_173 hl = (1) := by
        unfold g_173
        rw [if_neg c2, if_neg c4, if_neg c6, if_neg c8, if_neg c10, if_neg c12, if_neg c14, if_neg c16, if_neg c18, if_neg c20, if_neg c22, if_neg c24, if_neg c26, if_neg c28, if_neg c30, if_neg c32, if_neg c34, if_neg c36, if_pos c37]
      rw [e] at w
      exact w) (fun c2 c4 c6 c8 c10 c12 c14 c16 c18 c20 c22 c24 c26 c28 c30 c32 c34 c36 c38 c39 => by
      have e : g_173 hl = (1) := by
        unfold g_173
        rw [if_neg c2, if_neg c4, if_neg c6, if_neg c8, if_neg c10, if_neg c12, if_neg c14, if_neg c16, if_neg c18, if_neg c20, if_neg c22, if_neg c24, if_neg c26, if_neg c28, if_neg c30, if_neg c32, if_neg c34, if_neg c36, if_neg c38, if_pos c39]
      rw [e] at w
      exact w) (fun c2 c4 c6 c8 c10 c12 c14 c16 c18 c20 c22 c24 c26 c28 c30 c32 c34 c36 c38 c40 c41 => by
      have e : g_173 hl = (1) := by
        unfold g_173
        rw [if_neg c2, if_neg c4, if_neg c6, if_neg c8, if_neg c10, if_neg c12, if_neg c14, if_neg c16, if_neg c18, if_neg c20, if_neg c22, if_neg c24, if_neg c26, if_neg c28, if_neg c30, if_neg c32, if_neg c34, if_neg c36, if_neg c38, if_neg c40, if_pos c41]
      rw [e] at w
      exact w) (fun c2 c4 c6 c8 c10 c12 c14 c16 c18 c20 c22 c24 c26 c28 c30 c32 c34 c36 c38 c40 c42 => by
      have e : g_173 hl = (0) := by
        unfold g_173
        rw [if_neg c2, if_neg c4, if_neg c6, if_neg c8, if_neg c10, if_neg c12, if_neg c14, if_neg c16, if_neg c18, if_neg c20, if_neg c22, if_neg c24, if_neg c26, if_neg c28, if_neg c30, if_neg c32, if_neg c34, if_neg c36, if_neg c38, if_neg c40, if_neg c42]
      rw [e] at w
      exact w)
-- 178: DogDecreesModel.find(II)I
set_option maxRecDepth 100000 in
theorem k_178_0 {x1 : Int32} {x2 : Int32}
    (h1 : cW cd_178 d Q 5 [some (.ref 279), some (.int x1), some (.int x2), some (.int (-1)), some (.int (0))] [] (mkH hi hl sw kp))
    : cW cd_178 d Q 0 [some (.ref 279), some (.int x1), some (.int x2), none, none] [] (mkH hi hl sw kp) :=
  cW.run (am_in [5]) 4 (And.intro (Nat.le_of_ble_eq_true rfl) (And.intro (Nat.le_of_ble_eq_true rfl) (h1)))
theorem e_178 {x1 : Int32} {x2 : Int32}
    (h1 : cW cd_178 d Q 5 [some (.ref 279), some (.int x1), some (.int x2), some (.int (-1)), some (.int (0))] [] (mkH hi hl sw kp))
    : cS (d + 1) 178 [(.ref 279), (.int x1), (.int x2)] (mkH hi hl sw kp) Q := cS.of rfl (k_178_0 h1)
set_option maxRecDepth 100000 in
theorem k_178_5 {x1 : Int32} {x2 : Int32} {x3 : Int32} {x4 : Int32}
    (h1 : x2 ≤ x4 → Q (some (.int x3)) (mkH hi hl sw kp))
    (h2 : ¬ (x2 ≤ x4) → vp_in (x1 + x4) 16)
    (h3 : ¬ (x2 ≤ x4) → (lg_cmp (hl 281 (x1 + x4).toNatClampNeg) (hl 279 9)) = 0 → cW cd_178 d Q 5 [some (.ref 279), some (.int x1), some (.int x2), some (.int x4), some (.int (x4 + (1)))] [] (mkH hi hl sw kp))
    (h4 : ¬ (x2 ≤ x4) → ¬ ((lg_cmp (hl 281 (x1 + x4).toNatClampNeg) (hl 279 9)) = 0) → cW cd_178 d Q 5 [some (.ref 279), some (.int x1), some (.int x2), some (.int x3), some (.int (x4 + (1)))] [] (mkH hi hl sw kp))
    : cW cd_178 d Q 5 [some (.ref 279), some (.int x1), some (.int x2), some (.int x3), some (.int x4)] [] (mkH hi hl sw kp) :=
  cW.run (am_in [5]) 18 (And.intro (fun c1 => (cQ.of (h1 c1))) (fun c2 => (And.intro (h2 c2) (And.intro (fun c3 => (And.intro (Nat.le_of_ble_eq_true rfl) (And.intro (Nat.le_of_ble_eq_true rfl) (h3 c2 c3)))) (fun c4 => (And.intro (Nat.le_of_ble_eq_true rfl) (And.intro (Nat.le_of_ble_eq_true rfl) (h4 c2 c4))))))))
-- 181: DogDecreesModel.add(II)V
set_option maxRecDepth 100000 in
theorem k_181_0 {x1 : Int32} {x2 : Int32}
    (h1 : vp_in (hi 279 17) 320)
    (h2 : Q none (mkH (u2 (u2 (u2 hi 282 (hi 279 17).toNatClampNeg x1) 283 (hi 279 17).toNatClampNeg x2) 279 17 ((hi 279 17) + (1))) hl sw kp))
    : cW cd_181 d Q 0 [some (.ref 279), some (.int x1), some (.int x2)] [] (mkH hi hl sw kp) :=
  cW.run (am_in []) 19 (And.intro (h1) (And.intro (h1) (And.intro rfl (cQ.of (h2)))))
theorem e_181 {x1 : Int32} {x2 : Int32}
    (h1 : vp_in (hi 279 17) 320)
    (h2 : Q none (mkH (u2 (u2 (u2 hi 282 (hi 279 17).toNatClampNeg x1) 283 (hi 279 17).toNatClampNeg x2) 279 17 ((hi 279 17) + (1))) hl sw kp))
    : cS (d + 1) 181 [(.ref 279), (.int x1), (.int x2)] (mkH hi hl sw kp) Q := cS.of rfl (k_181_0 h1 h2)
-- 182: DogDecreesModel.tight(I)I
set_option maxRecDepth 100000 in
theorem k_182_0 {x0 : Int32}
    (h1 : x0 = 21 → Q (some (.int (3))) (mkH hi hl sw kp))
    (h2 : ¬ x0 = 21 → x0 = 38 → Q (some (.int (2))) (mkH hi hl sw kp))
    (h3 : ¬ x0 = 21 → ¬ x0 = 38 → x0 = 43 → Q (some (.int (5))) (mkH hi hl sw kp))
    (h4 : ¬ x0 = 21 → ¬ x0 = 38 → ¬ x0 = 43 → x0 = 45 → Q (some (.int (5))) (mkH hi hl sw kp))
    (h5 : ¬ x0 = 21 → ¬ x0 = 38 → ¬ x0 = 43 → ¬ x0 = 45 → x0 = 60 → Q (some (.int (4))) (mkH hi hl sw kp))
    (h6 : ¬ x0 = 21 → ¬ x0 = 38 → ¬ x0 = 43 → ¬ x0 = 45 → ¬ x0 = 60 → x0 = 61 → Q (some (.int (4))) (mkH hi hl sw kp))
    (h7 : ¬ x0 = 21 → ¬ x0 = 38 → ¬ x0 = 43 → ¬ x0 = 45 → ¬ x0 = 60 → ¬ x0 = 61 → x0 = 62 → Q (some (.int (4))) (mkH hi hl sw kp))
    (h8 : ¬ x0 = 21 → ¬ x0 = 38 → ¬ x0 = 43 → ¬ x0 = 45 → ¬ x0 = 60 → ¬ x0 = 61 → ¬ x0 = 62 → x0 = 124 → Q (some (.int (1))) (mkH hi hl sw kp))
    (h9 : ¬ x0 = 21 → ¬ x0 = 38 → ¬ x0 = 43 → ¬ x0 = 45 → ¬ x0 = 60 → ¬ x0 = 61 → ¬ x0 = 62 → ¬ x0 = 124 → Q (some (.int (6))) (mkH hi hl sw kp))
    : cW cd_182 d Q 0 [some (.int x0)] [] (mkH hi hl sw kp) :=
  cW.run (am_in []) 4 (And.intro (fun c1 => (cQ.of (h1 c1))) (fun c2 => (And.intro (fun c3 => (cQ.of (h2 c2 c3))) (fun c4 => (And.intro (fun c5 => (cQ.of (h3 c2 c4 c5))) (fun c6 => (And.intro (fun c7 => (cQ.of (h4 c2 c4 c6 c7))) (fun c8 => (And.intro (fun c9 => (cQ.of (h5 c2 c4 c6 c8 c9))) (fun c10 => (And.intro (fun c11 => (cQ.of (h6 c2 c4 c6 c8 c10 c11))) (fun c12 => (And.intro (fun c13 => (cQ.of (h7 c2 c4 c6 c8 c10 c12 c13))) (fun c14 => (And.intro (fun c15 => (cQ.of (h8 c2 c4 c6 c8 c10 c12 c14 c15))) (fun c16 => (cQ.of (h9 c2 c4 c6 c8 c10 c12 c14 c16))))))))))))))))))
theorem e_182 {x0 : Int32}
    (h1 : x0 = 21 → Q (some (.int (3))) (mkH hi hl sw kp))
    (h2 : ¬ x0 = 21 → x0 = 38 → Q (some (.int (2))) (mkH hi hl sw kp))
    (h3 : ¬ x0 = 21 → ¬ x0 = 38 → x0 = 43 → Q (some (.int (5))) (mkH hi hl sw kp))
    (h4 : ¬ x0 = 21 → ¬ x0 = 38 → ¬ x0 = 43 → x0 = 45 → Q (some (.int (5))) (mkH hi hl sw kp))
    (h5 : ¬ x0 = 21 → ¬ x0 = 38 → ¬ x0 = 43 → ¬ x0 = 45 → x0 = 60 → Q (some (.int (4))) (mkH hi hl sw kp))
    (h6 : ¬ x0 = 21 → ¬ x0 = 38 → ¬ x0 = 43 → ¬ x0 = 45 → ¬ x0 = 60 → x0 = 61 → Q (some (.int (4))) (mkH hi hl sw kp))
    (h7 : ¬ x0 = 21 → ¬ x0 = 38 → ¬ x0 = 43 → ¬ x0 = 45 → ¬ x0 = 60 → ¬ x0 = 61 → x0 = 62 → Q (some (.int (4))) (mkH hi hl sw kp))
    (h8 : ¬ x0 = 21 → ¬ x0 = 38 → ¬ x0 = 43 → ¬ x0 = 45 → ¬ x0 = 60 → ¬ x0 = 61 → ¬ x0 = 62 → x0 = 124 → Q (some (.int (1))) (mkH hi hl sw kp))
    (h9 : ¬ x0 = 21 → ¬ x0 = 38 → ¬ x0 = 43 → ¬ x0 = 45 → ¬ x0 = 60 → ¬ x0 = 61 → ¬ x0 = 62 → ¬ x0 = 124 → Q (some (.int (6))) (mkH hi hl sw kp))
    : cS (d + 1) 182 [(.int x0)] (mkH hi hl sw kp) Q := cS.of rfl (k_182_0 h1 h2 h3 h4 h5 h6 h7 h8 h9)
def g_182 (x0 : Int32) : Int32 := if x0 = 21 then (3) else (if x0 = 38 then (2) else (if x0 = 43 then (5) else (if x0 = 45 then (5) else (if x0 = 60 then (4) else (if x0 = 61 then (4) else (if x0 = 62 then (4) else (if x0 = 124 then (1) else ((6)))))))))
set_option maxRecDepth 100000 in
theorem s_182 {x0 : Int32} (w : Q (some (.int (g_182 x0))) (mkH hi hl sw kp)) : cS (d + 1) 182 [(.int x0)] (mkH hi hl sw kp) Q :=
  e_182 (fun c1 => by
      have e : g_182 x0 = (3) := by
        unfold g_182
        rw [if_pos c1]
      rw [e] at w
      exact w) (fun c2 c3 => by
      have e : g_182 x0 = (2) := by
        unfold g_182
        rw [if_neg c2, if_pos c3]
      rw [e] at w
      exact w) (fun c2 c4 c5 => by
      have e : g_182 x0 = (5) := by
        unfold g_182
        rw [if_neg c2, if_neg c4, if_pos c5]
      rw [e] at w
      exact w) (fun c2 c4 c6 c7 => by
      have e : g_182 x0 = (5) := by
        unfold g_182
        rw [if_neg c2, if_neg c4, if_neg c6, if_pos c7]
      rw [e] at w
      exact w) (fun c2 c4 c6 c8 c9 => by
      have e : g_182 x0 = (4) := by
        unfold g_182
        rw [if_neg c2, if_neg c4, if_neg c6, if_neg c8, if_pos c9]
      rw [e] at w
      exact w) (fun c2 c4 c6 c8 c10 c11 => by
      have e : g_182 x0 = (4) := by
        unfold g_182
        rw [if_neg c2, if_neg c4, if_neg c6, if_neg c8, if_neg c10, if_pos c11]
      rw [e] at w
      exact w) (fun c2 c4 c6 c8 c10 c12 c13 => by
      have e : g_182 x0 = (4) := by
        unfold g_182
        rw [if_neg c2, if_neg c4, if_neg c6, if_neg c8, if_neg c10, if_neg c12, if_pos c13]
      rw [e] at w
      exact w) (fun c2 c4 c6 c8 c10 c12 c14 c15 => by
      have e : g_182 x0 = (1) := by
        unfold g_182
        rw [if_neg c2, if_neg c4, if_neg c6, if_neg c8, if_neg c10, if_neg c12, if_neg c14, if_pos c15]
      rw [e] at w
      exact w) (fun c2 c4 c6 c8 c10 c12 c14 c16 => by
      have e : g_182 x0 = (6) := by
        unfold g_182
        rw [if_neg c2, if_neg c4, if_neg c6, if_neg c8, if_neg c10, if_neg c12, if_neg c14, if_neg c16]
      rw [e] at w
      exact w)
-- 186: DogDecreesModel.asked()I
set_option maxRecDepth 100000 in
theorem k_186_0
    (h1 : (hi 279 6) = (1) → (lg_cmp (hl 279 9) (495756602476)) = 0 → Q (some (.int (0))) (mkH hi hl sw kp))
    (h2 : (hi 279 6) = (1) → ¬ ((lg_cmp (hl 279 9) (495756602476)) = 0) → (lg_cmp (hl 279 9) (422776300915)) = 0 → Q (some (.int (1))) (mkH hi hl sw kp))
    (h3 : (hi 279 6) = (1) → ¬ ((lg_cmp (hl 279 9) (495756602476)) = 0) → ¬ ((lg_cmp (hl 279 9) (422776300915)) = 0) → (lg_cmp (hl 279 9) (1752135026)) = 0 → Q (some (.int (2))) (mkH hi hl sw kp))
    (h4 : (hi 279 6) = (1) → ¬ ((lg_cmp (hl 279 9) (495756602476)) = 0) → ¬ ((lg_cmp (hl 279 9) (422776300915)) = 0) → ¬ ((lg_cmp (hl 279 9) (1752135026)) = 0) → (lg_cmp (hl 279 9) (6383461)) = 0 → Q (some (.int (3))) (mkH hi hl sw kp))
    (h5 : (hi 279 6) = (1) → ¬ ((lg_cmp (hl 279 9) (495756602476)) = 0) → ¬ ((lg_cmp (hl 279 9) (422776300915)) = 0) → ¬ ((lg_cmp (hl 279 9) (1752135026)) = 0) → ¬ ((lg_cmp (hl 279 9) (6383461)) = 0) → (lg_cmp (hl 279 9) (1751478885)) = 0 → Q (some (.int (4))) (mkH hi hl sw kp))
    (h6 : (hi 279 6) = (1) → ¬ ((lg_cmp (hl 279 9) (495756602476)) = 0) → ¬ ((lg_cmp (hl 279 9) (422776300915)) = 0) → ¬ ((lg_cmp (hl 279 9) (1752135026)) = 0) → ¬ ((lg_cmp (hl 279 9) (6383461)) = 0) → ¬ ((lg_cmp (hl 279 9) (1751478885)) = 0) → Q (some (.int (-1))) (mkH hi hl sw kp))
    (h7 : ¬ ((hi 279 6) = (1)) → Q (some (.int (-1))) (mkH hi hl sw kp))
    : cW cd_186 d Q 0 [some (.ref 279)] [] (mkH hi hl sw kp) :=
  cW.run (am_in []) 32 (And.intro (fun c1 => (And.intro (fun c2 => (cQ.of (h1 c1 c2))) (fun c3 => (And.intro (fun c4 => (cQ.of (h2 c1 c3 c4))) (fun c5 => (And.intro (fun c6 => (cQ.of (h3 c1 c3 c5 c6))) (fun c7 => (And.intro (fun c8 => (cQ.of (h4 c1 c3 c5 c7 c8))) (fun c9 => (And.intro (fun c10 => (cQ.of (h5 c1 c3 c5 c7 c9 c10))) (fun c11 => (cQ.of (h6 c1 c3 c5 c7 c9 c11))))))))))))) (fun c12 => (cQ.of (h7 c12))))
theorem e_186
    (h1 : (hi 279 6) = (1) → (lg_cmp (hl 279 9) (495756602476)) = 0 → Q (some (.int (0))) (mkH hi hl sw kp))
    (h2 : (hi 279 6) = (1) → ¬ ((lg_cmp (hl 279 9) (495756602476)) = 0) → (lg_cmp (hl 279 9) (422776300915)) = 0 → Q (some (.int (1))) (mkH hi hl sw kp))
    (h3 : (hi 279 6) = (1) → ¬ ((lg_cmp (hl 279 9) (495756602476)) = 0) → ¬ ((lg_cmp (hl 279 9) (422776300915)) = 0) → (lg_cmp (hl 279 9) (1752135026)) = 0 → Q (some (.int (2))) (mkH hi hl sw kp))
    (h4 : (hi 279 6) = (1) → ¬ ((lg_cmp (hl 279 9) (495756602476)) = 0) → ¬ ((lg_cmp (hl 279 9) (422776300915)) = 0) → ¬ ((lg_cmp (hl 279 9) (1752135026)) = 0) → (lg_cmp (hl 279 9) (6383461)) = 0 → Q (some (.int (3))) (mkH hi hl sw kp))
    (h5 : (hi 279 6) = (1) → ¬ ((lg_cmp (hl 279 9) (495756602476)) = 0) → ¬ ((lg_cmp (hl 279 9) (422776300915)) = 0) → ¬ ((lg_cmp (hl 279 9) (1752135026)) = 0) → ¬ ((lg_cmp (hl 279 9) (6383461)) = 0) → (lg_cmp (hl 279 9) (1751478885)) = 0 → Q (some (.int (4))) (mkH hi hl sw kp))
    (h6 : (hi 279 6) = (1) → ¬ ((lg_cmp (hl 279 9) (495756602476)) = 0) → ¬ ((lg_cmp (hl 279 9) (422776300915)) = 0) → ¬ ((lg_cmp (hl 279 9) (1752135026)) = 0) → ¬ ((lg_cmp (hl 279 9) (6383461)) = 0) → ¬ ((lg_cmp (hl 279 9) (1751478885)) = 0) → Q (some (.int (-1))) (mkH hi hl sw kp))
    (h7 : ¬ ((hi 279 6) = (1)) → Q (some (.int (-1))) (mkH hi hl sw kp))
    : cS (d + 1) 186 [(.ref 279)] (mkH hi hl sw kp) Q := cS.of rfl (k_186_0 h1 h2 h3 h4 h5 h6 h7)
def g_186 (hi : Nat → Nat → Int32) (hl : Nat → Nat → Int64) : Int32 := if (hi 279 6) = (1) then if (lg_cmp (hl 279 9) (495756602476)) = 0 then (0) else (if (lg_cmp (hl 279 9) (422776300915)) = 0 then (1) else (if (lg_cmp (hl 279 9) (1752135026)) = 0 then (2) else (if (lg_cmp (hl 279 9) (6383461)) = 0 then (3) else (if (lg_cmp (hl 279 9) (1751478885)) = 0 then (4) else ((-1)))))) else ((-1))
set_option maxRecDepth 100000 in
theorem s_186 (w : Q (some (.int (g_186 hi hl))) (mkH hi hl sw kp)) : cS (d + 1) 186 [(.ref 279)] (mkH hi hl sw kp) Q :=
  e_186 (fun c1 c2 => by
      have e : g_186 hi hl = (0) := by
        unfold g_186
        rw [if_pos c1, if_pos c2]
      rw [e] at w
      exact w) (fun c1 c3 c4 => by
      have e : g_186 hi hl = (1) := by
        unfold g_186
        rw [if_pos c1, if_neg c3, if_pos c4]
      rw [e] at w
      exact w) (fun c1 c3 c5 c6 => by
      have e : g_186 hi hl = (2) := by
        unfold g_186
        rw [if_pos c1, if_neg c3, if_neg c5, if_pos c6]
      rw [e] at w
      exact w) (fun c1 c3 c5 c7 c8 => by
      have e : g_186 hi hl = (3) := by
        unfold g_186
        rw [if_pos c1, if_neg c3, if_neg c5, if_neg c7, if_pos c8]
      rw [e] at w
      exact w) (fun c1 c3 c5 c7 c9 c10 => by
      have e : g_186 hi hl = (4) := by
        unfold g_186
        rw [if_pos c1, if_neg c3, if_neg c5, if_neg c7, if_neg c9, if_pos c10]
      rw [e] at w
      exact w) (fun c1 c3 c5 c7 c9 c11 => by
      have e : g_186 hi hl = (-1) := by
        unfold g_186
        rw [if_pos c1, if_neg c3, if_neg c5, if_neg c7, if_neg c9, if_neg c11]
      rw [e] at w
      exact w) (fun c12 => by
      have e : g_186 hi hl = (-1) := by
        unfold g_186
        rw [if_neg c12]
      rw [e] at w
      exact w)
-- 187: DogDecreesModel.isFull()Z
set_option maxRecDepth 100000 in
theorem k_187_0
    (h1 : (hi 279 20) = (60) → Q (some (.int (1))) (mkH hi hl sw kp))
    (h2 : ¬ ((hi 279 20) = (60)) → (hi 279 22) = (30) → Q (some (.int (1))) (mkH hi hl sw kp))
    (h3 : ¬ ((hi 279 20) = (60)) → ¬ ((hi 279 22) = (30)) → Q (some (.int (0))) (mkH hi hl sw kp))
    : cW cd_187 d Q 0 [some (.ref 279)] [] (mkH hi hl sw kp) :=
  cW.run (am_in []) 11 (And.intro (fun c1 => (And.intro (Or.inr rfl) (cQ.of (h1 c1)))) (fun c2 => (And.intro (fun c3 => (And.intro (Or.inr rfl) (cQ.of (h2 c2 c3)))) (fun c4 => (And.intro (Or.inl rfl) (cQ.of (h3 c2 c4)))))))
theorem e_187
    (h1 : (hi 279 20) = (60) → Q (some (.int (1))) (mkH hi hl sw kp))
    (h2 : ¬ ((hi 279 20) = (60)) → (hi 279 22) = (30) → Q (some (.int (1))) (mkH hi hl sw kp))
    (h3 : ¬ ((hi 279 20) = (60)) → ¬ ((hi 279 22) = (30)) → Q (some (.int (0))) (mkH hi hl sw kp))
    : cS (d + 1) 187 [(.ref 279)] (mkH hi hl sw kp) Q := cS.of rfl (k_187_0 h1 h2 h3)
def g_187 (hi : Nat → Nat → Int32) : Int32 := if (hi 279 20) = (60) then (1) else (if (hi 279 22) = (30) then (1) else ((0)))
theorem g_187_01 (hi : Nat → Nat → Int32) : g_187 hi = 0 ∨ g_187 hi = 1 := by
  unfold g_187
  exact (ite01 (Or.inr rfl) (ite01 (Or.inr rfl) (Or.inl rfl)))
set_option maxRecDepth 100000 in
theorem s_187 (w : Q (some (.int (g_187 hi))) (mkH hi hl sw kp)) : cS (d + 1) 187 [(.ref 279)] (mkH hi hl sw kp) Q :=
  e_187 (fun c1 => by
      have e : g_187 hi = (1) := by
        unfold g_187
        rw [if_pos c1]
      rw [e] at w
      exact w) (fun c2 c3 => by
      have e : g_187 hi = (1) := by
        unfold g_187
        rw [if_neg c2, if_pos c3]
      rw [e] at w
      exact w) (fun c2 c4 => by
      have e : g_187 hi = (0) := by
        unfold g_187
        rw [if_neg c2, if_neg c4]
      rw [e] at w
      exact w)
-- 188: DogDecreesModel.countUnit()V
set_option maxRecDepth 100000 in
theorem k_188_0
    (h1 : Q none (mkH (u2 (u2 hi 279 20 ((hi 279 20) + (1))) 279 22 ((hi 279 22) + (1))) hl sw kp))
    : cW cd_188 d Q 0 [some (.ref 279)] [] (mkH hi hl sw kp) :=
  cW.run (am_in []) 13 (And.intro rfl (And.intro rfl (cQ.of (h1))))
theorem e_188
    (h1 : Q none (mkH (u2 (u2 hi 279 20 ((hi 279 20) + (1))) 279 22 ((hi 279 22) + (1))) hl sw kp))
    : cS (d + 1) 188 [(.ref 279)] (mkH hi hl sw kp) Q := cS.of rfl (k_188_0 h1)
-- 192: DogDecreesModel.hasBracket()Z
set_option maxRecDepth 100000 in
theorem k_192_0
    (h1 : cW cd_192 d Q 4 [some (.ref 279), some (.int (0)), some (.int (0))] [] (mkH hi hl sw kp))
    : cW cd_192 d Q 0 [some (.ref 279), none, none] [] (mkH hi hl sw kp) :=
  cW.run (am_in [4]) 4 (And.intro (Nat.le_of_ble_eq_true rfl) (And.intro (Nat.le_of_ble_eq_true rfl) (h1)))
theorem e_192
    (h1 : cW cd_192 d Q 4 [some (.ref 279), some (.int (0)), some (.int (0))] [] (mkH hi hl sw kp))
    : cS (d + 1) 192 [(.ref 279)] (mkH hi hl sw kp) Q := cS.of rfl (k_192_0 h1)
set_option maxRecDepth 100000 in
theorem k_192_4 {x1 : Int32} {x2 : Int32}
    (h1 : (hi 279 19) ≤ x2 → x1 = 0 ∨ x1 = 1)
    (h2 : (hi 279 19) ≤ x2 → Q (some (.int x1)) (mkH hi hl sw kp))
    (h3 : ¬ ((hi 279 19) ≤ x2) → x1 = 0 → vp_in x2 160)
    (h4 : ¬ ((hi 279 19) ≤ x2) → x1 = 0 → (hi 286 x2.toNatClampNeg) = (20) → cW cd_192 d Q 4 [some (.ref 279), some (.int (1)), some (.int (x2 + (1)))] [] (mkH hi hl sw kp))
    (h5 : ¬ ((hi 279 19) ≤ x2) → x1 = 0 → ¬ ((hi 286 x2.toNatClampNeg) = (20)) → cW cd_192 d Q 4 [some (.ref 279), some (.int (0)), some (.int (x2 + (1)))] [] (mkH hi hl sw kp))
    (h6 : ¬ ((hi 279 19) ≤ x2) → ¬ (x1 = 0) → cW cd_192 d Q 4 [some (.ref 279), some (.int (1)), some (.int (x2 + (1)))] [] (mkH hi hl sw kp))
    : cW cd_192 d Q 4 [some (.ref 279), some (.int x1), some (.int x2)] [] (mkH hi hl sw kp) :=
  cW.run (am_in [4]) 17 (And.intro (fun c1 => (And.intro (h1 c1) (cQ.of (h2 c1)))) (fun c2 => (And.intro (fun c3 => (And.intro (h3 c2 c3) (And.intro (fun c4 => (And.intro (Nat.le_of_ble_eq_true rfl) (And.intro (Nat.le_of_ble_eq_true rfl) (h4 c2 c3 c4)))) (fun c5 => (And.intro (Nat.le_of_ble_eq_true rfl) (And.intro (Nat.le_of_ble_eq_true rfl) (h5 c2 c3 c5))))))) (fun c6 => (And.intro (Nat.le_of_ble_eq_true rfl) (And.intro (Nat.le_of_ble_eq_true rfl) (h6 c2 c6)))))))
-- 194: DogDecreesModel.truth(Z)I
set_option maxRecDepth 100000 in
theorem k_194_0 {x0 : Int32}
    (h1 : x0 = 0 → Q (some (.int (0))) (mkH hi hl sw kp))
    (h2 : ¬ (x0 = 0) → Q (some (.int (1))) (mkH hi hl sw kp))
    : cW cd_194 d Q 0 [some (.int x0)] [] (mkH hi hl sw kp) :=
  cW.run (am_in []) 5 (And.intro (fun c1 => (cQ.of (h1 c1))) (fun c2 => (cQ.of (h2 c2))))
theorem e_194 {x0 : Int32}
    (h1 : x0 = 0 → Q (some (.int (0))) (mkH hi hl sw kp))
    (h2 : ¬ (x0 = 0) → Q (some (.int (1))) (mkH hi hl sw kp))
    : cS (d + 1) 194 [(.int x0)] (mkH hi hl sw kp) Q := cS.of rfl (k_194_0 h1 h2)
def g_194 (x0 : Int32) : Int32 := if x0 = 0 then (0) else ((1))
set_option maxRecDepth 100000 in
theorem s_194 {x0 : Int32} (w : Q (some (.int (g_194 x0))) (mkH hi hl sw kp)) : cS (d + 1) 194 [(.int x0)] (mkH hi hl sw kp) Q :=
  e_194 (fun c1 => by
      have e : g_194 x0 = (0) := by
        unfold g_194
        rw [if_pos c1]
      rw [e] at w
      exact w) (fun c2 => by
      have e : g_194 x0 = (1) := by
        unfold g_194
        rw [if_neg c2]
      rw [e] at w
      exact w)
-- 206: DogDecreesModel.fault(I)I
set_option maxRecDepth 100000 in
theorem k_206_0 {x1 : Int32}
    (h1 : x1 = 0 → Q (some (.int (hi 279 2))) (mkH hi hl sw kp))
    (h2 : ¬ (x1 = 0) → x1 = (1) → Q (some (.int (hi 279 3))) (mkH hi hl sw kp))
    (h3 : ¬ (x1 = 0) → ¬ (x1 = (1)) → Q (some (.int (-1))) (mkH hi hl sw kp))
    : cW cd_206 d Q 0 [some (.ref 279), some (.int x1)] [] (mkH hi hl sw kp) :=
  cW.run (am_in []) 9 (And.intro (fun c1 => (cQ.of (h1 c1))) (fun c2 => (And.intro (fun c3 => (cQ.of (h2 c2 c3))) (fun c4 => (cQ.of (h3 c2 c4))))))
theorem e_206 {x1 : Int32}
    (h1 : x1 = 0 → Q (some (.int (hi 279 2))) (mkH hi hl sw kp))
    (h2 : ¬ (x1 = 0) → x1 = (1) → Q (some (.int (hi 279 3))) (mkH hi hl sw kp))
    (h3 : ¬ (x1 = 0) → ¬ (x1 = (1)) → Q (some (.int (-1))) (mkH hi hl sw kp))
    : cS (d + 1) 206 [(.ref 279), (.int x1)] (mkH hi hl sw kp) Q := cS.of rfl (k_206_0 h1 h2 h3)
def g_206 (hi : Nat → Nat → Int32) (x1 : Int32) : Int32 := if x1 = 0 then (hi 279 2) else (if x1 = (1) then (hi 279 3) else ((-1)))
set_option maxRecDepth 100000 in
theorem s_206 {x1 : Int32} (w : Q (some (.int (g_206 hi x1))) (mkH hi hl sw kp)) : cS (d + 1) 206 [(.ref 279), (.int x1)] (mkH hi hl sw kp) Q :=
  e_206 (fun c1 => by
      have e : g_206 hi x1 = (hi 279 2) := by
        unfold g_206
        rw [if_pos c1]
      rw [e] at w
      exact w) (fun c2 c3 => by
      have e : g_206 hi x1 = (hi 279 3) := by
        unfold g_206
        rw [if_neg c2, if_pos c3]
      rw [e] at w
      exact w) (fun c2 c4 => by
      have e : g_206 hi x1 = (-1) := by
        unfold g_206
        rw [if_neg c2, if_neg c4]
      rw [e] at w
      exact w)
-- 207: DogDecreesModel.isIn(III)Z
set_option maxRecDepth 100000 in
theorem k_207_0 {x0 : Int32} {x1 : Int32} {x2 : Int32}
    (h1 : x0 < x1 → Q (some (.int (0))) (mkH hi hl sw kp))
    (h2 : ¬ (x0 < x1) → x2 < x0 → Q (some (.int (0))) (mkH hi hl sw kp))
    (h3 : ¬ (x0 < x1) → ¬ (x2 < x0) → Q (some (.int (1))) (mkH hi hl sw kp))
    : cW cd_207 d Q 0 [some (.int x0), some (.int x1), some (.int x2)] [] (mkH hi hl sw kp) :=
  cW.run (am_in []) 9 (And.intro (fun c1 => (And.intro (Or.inl rfl) (cQ.of (h1 c1)))) (fun c2 => (And.intro (fun c3 => (And.intro (Or.inl rfl) (cQ.of (h2 c2 c3)))) (fun c4 => (And.intro (Or.inr rfl) (cQ.of (h3 c2 c4)))))))
theorem e_207 {x0 : Int32} {x1 : Int32} {x2 : Int32}
    (h1 : x0 < x1 → Q (some (.int (0))) (mkH hi hl sw kp))
    (h2 : ¬ (x0 < x1) → x2 < x0 → Q (some (.int (0))) (mkH hi hl sw kp))
    (h3 : ¬ (x0 < x1) → ¬ (x2 < x0) → Q (some (.int (1))) (mkH hi hl sw kp))
    : cS (d + 1) 207 [(.int x0), (.int x1), (.int x2)] (mkH hi hl sw kp) Q := cS.of rfl (k_207_0 h1 h2 h3)
def g_207 (x0 : Int32) (x1 : Int32) (x2 : Int32) : Int32 := if x0 < x1 then (0) else (if x2 < x0 then (0) else ((1)))
theorem g_207_01 (x0 : Int32) (x1 : Int32) (x2 : Int32) : g_207 x0 x1 x2 = 0 ∨ g_207 x0 x1 x2 = 1 := by
  unfold g_207
  exact (ite01 (Or.inl rfl) (ite01 (Or.inl rfl) (Or.inr rfl)))
set_option maxRecDepth 100000 in
theorem s_207 {x0 : Int32} {x1 : Int32} {x2 : Int32} (w : Q (some (.int (g_207 x0 x1 x2))) (mkH hi hl sw kp)) : cS (d + 1) 207 [(.int x0), (.int x1), (.int x2)] (mkH hi hl sw kp) Q :=
  e_207 (fun c1 => by
      have e : g_207 x0 x1 x2 = (0) := by
        unfold g_207
        rw [if_pos c1]
      rw [e] at w
      exact w) (fun c2 c3 => by
      have e : g_207 x0 x1 x2 = (0) := by
        unfold g_207
        rw [if_neg c2, if_pos c3]
      rw [e] at w
      exact w) (fun c2 c4 => by
      have e : g_207 x0 x1 x2 = (1) := by
        unfold g_207
        rw [if_neg c2, if_neg c4]
      rw [e] at w
      exact w)
-- 211: DogDecreesModel.load()V
set_option maxRecDepth 100000 in
theorem k_211_0
    (h1 : cW cd_211 d Q 2 [some (.ref 279), some (.int (0))] [] (mkH hi hl sw kp))
    : cW cd_211 d Q 0 [some (.ref 279), none] [] (mkH hi hl sw kp) :=
  cW.run (am_in [2]) 2 (And.intro (Nat.le_of_ble_eq_true rfl) (h1))
theorem e_211
    (h1 : cW cd_211 d Q 2 [some (.ref 279), some (.int (0))] [] (mkH hi hl sw kp))
    : cS (d + 1) 211 [(.ref 279)] (mkH hi hl sw kp) Q := cS.of rfl (k_211_0 h1)
set_option maxRecDepth 100000 in
theorem k_211_2 {x1 : Int32}
    (h1 : (8) ≤ x1 → Q none (mkH (u2 (u2 hi 279 61 (hi 299 17)) 279 62 (hi 299 18)) hl sw kp))
    (h2 : ¬ ((8) ≤ x1) → vp_in ((0) + x1) 82)
    (h3 : ¬ ((8) ≤ x1) → vp_in x1 8)
    (h4 : ¬ ((8) ≤ x1) → cW cd_211 d Q 2 [some (.ref 279), some (.int (x1 + (1)))] [] (mkH (u2 hi 300 x1.toNatClampNeg (hi 299 ((0) + x1).toNatClampNeg)) hl sw kp))
    : cW cd_211 d Q 2 [some (.ref 279), some (.int x1)] [] (mkH hi hl sw kp) :=
  cW.run (am_in [2]) 16 (And.intro (fun c1 => (And.intro (show vp_in 17 82 from vin_l (by decide +kernel)) (And.intro (show vp_in 18 82 from vin_l (by decide +kernel)) (cQ.of (h1 c1))))) (fun c2 => (And.intro (h2 c2) (And.intro (h3 c2) (And.intro (Nat.le_of_ble_eq_true rfl) (h4 c2))))))
-- 212: DogDecreesModel.tick()V
set_option maxRecDepth 100000 in
theorem k_212_0
    (h1 : ¬ (hi 279 50) = 0)
    (h2 : (((hi 279 61) + (1)) - ((hi 279 61) + (1)) / (hi 279 50) * (hi 279 50)) ≤ 0 → cW cd_212 d Q 25 [some (.ref 279), some (.int (0))] [] (mkH (u2 hi 279 61 ((hi 279 61) + (1))) hl sw kp))
    (h3 : ¬ ((((hi 279 61) + (1)) - ((hi 279 61) + (1)) / (hi 279 50) * (hi 279 50)) ≤ 0) → Q none (mkH (u2 hi 279 61 ((hi 279 61) + (1))) hl sw kp))
    : cW cd_212 d Q 0 [some (.ref 279), none] [] (mkH hi hl sw kp) :=
  cW.run (am_in [25]) 14 (And.intro rfl (And.intro (h1) (And.intro (fun c1 => (And.intro (Nat.le_of_ble_eq_true rfl) (h2 c1))) (fun c2 => (cQ.of (h3 c2))))))
theorem e_212
    (h1 : ¬ (hi 279 50) = 0)
    (h2 : (((hi 279 61) + (1)) - ((hi 279 61) + (1)) / (hi 279 50) * (hi 279 50)) ≤ 0 → cW cd_212 d Q 25 [some (.ref 279), some (.int (0))] [] (mkH (u2 hi 279 61 ((hi 279 61) + (1))) hl sw kp))
    (h3 : ¬ ((((hi 279 61) + (1)) - ((hi 279 61) + (1)) / (hi 279 50) * (hi 279 50)) ≤ 0) → Q none (mkH (u2 hi 279 61 ((hi 279 61) + (1))) hl sw kp))
    : cS (d + 1) 212 [(.ref 279)] (mkH hi hl sw kp) Q := cS.of rfl (k_212_0 h1 h2 h3)
set_option maxRecDepth 100000 in
theorem k_212_25 {x1 : Int32}
    (h1 : (8) ≤ x1 → (99) ≤ (hi 279 62) → Q none (mkH hi hl sw kp))
    (h2 : (8) ≤ x1 → ¬ ((99) ≤ (hi 279 62)) → Q none (mkH (u2 hi 279 62 ((hi 279 62) + (1))) hl sw kp))
    (h3 : ¬ ((8) ≤ x1) → vp_in x1 8)
    (h4 : ¬ ((8) ≤ x1) → cW cd_212 d Q 25 [some (.ref 279), some (.int (x1 + (1)))] [] (mkH (u2 hi 300 x1.toNatClampNeg (0)) hl sw kp))
    : cW cd_212 d Q 25 [some (.ref 279), some (.int x1)] [] (mkH hi hl sw kp) :=
  cW.run (am_in [25]) 14 (And.intro (fun c1 => (And.intro (fun c2 => (cQ.of (h1 c1 c2))) (fun c3 => (And.intro rfl (cQ.of (h2 c1 c3)))))) (fun c4 => (And.intro (h3 c4) (And.intro (Nat.le_of_ble_eq_true rfl) (h4 c4)))))
-- 214: DogDecreesModel.canGo(II)Z
set_option maxRecDepth 100000 in
theorem k_214_0 {x1 : Int32} {x2 : Int32}
    (h1 : x1 = x2 → Q (some (.int (1))) (mkH hi hl sw kp))
    (h2 : ¬ (x1 = x2) → vp_in x1 8)
    (h3 : ¬ (x1 = x2) → (((hi 296 x1.toNatClampNeg) >>> (x2 &&& 31)) &&& (1)) = (1) → Q (some (.int (1))) (mkH hi hl sw kp))
    (h4 : ¬ (x1 = x2) → ¬ ((((hi 296 x1.toNatClampNeg) >>> (x2 &&& 31)) &&& (1)) = (1)) → Q (some (.int (0))) (mkH hi hl sw kp))
    : cW cd_214 d Q 0 [some (.ref 279), some (.int x1), some (.int x2)] [] (mkH hi hl sw kp) :=
  cW.run (am_in []) 16 (And.intro (fun c1 => (And.intro (Or.inr rfl) (cQ.of (h1 c1)))) (fun c2 => (And.intro (h2 c2) (And.intro (fun c3 => (And.intro (Or.inr rfl) (cQ.of (h3 c2 c3)))) (fun c4 => (And.intro (Or.inl rfl) (cQ.of (h4 c2 c4))))))))
theorem e_214 {x1 : Int32} {x2 : Int32}
    (h1 : x1 = x2 → Q (some (.int (1))) (mkH hi hl sw kp))
    (h2 : ¬ (x1 = x2) → vp_in x1 8)
    (h3 : ¬ (x1 = x2) → (((hi 296 x1.toNatClampNeg) >>> (x2 &&& 31)) &&& (1)) = (1) → Q (some (.int (1))) (mkH hi hl sw kp))
    (h4 : ¬ (x1 = x2) → ¬ ((((hi 296 x1.toNatClampNeg) >>> (x2 &&& 31)) &&& (1)) = (1)) → Q (some (.int (0))) (mkH hi hl sw kp))
    : cS (d + 1) 214 [(.ref 279), (.int x1), (.int x2)] (mkH hi hl sw kp) Q := cS.of rfl (k_214_0 h1 h2 h3 h4)
def g_214 (hi : Nat → Nat → Int32) (x1 : Int32) (x2 : Int32) : Int32 := if x1 = x2 then (1) else (if (((hi 296 x1.toNatClampNeg) >>> (x2 &&& 31)) &&& (1)) = (1) then (1) else ((0)))
theorem g_214_01 (hi : Nat → Nat → Int32) (x1 : Int32) (x2 : Int32) : g_214 hi x1 x2 = 0 ∨ g_214 hi x1 x2 = 1 := by
  unfold g_214
  exact (ite01 (Or.inr rfl) (ite01 (Or.inr rfl) (Or.inl rfl)))
set_option maxRecDepth 100000 in
theorem s_214 {x1 : Int32} {x2 : Int32} (o1 : ¬ (x1 = x2) → vp_in x1 8) (w : Q (some (.int (g_214 hi x1 x2))) (mkH hi hl sw kp)) : cS (d + 1) 214 [(.ref 279), (.int x1), (.int x2)] (mkH hi hl sw kp) Q :=
  e_214 (fun c1 => by
      have e : g_214 hi x1 x2 = (1) := by
        unfold g_214
        rw [if_pos c1]
      rw [e] at w
      exact w) o1 (fun c2 c3 => by
      have e : g_214 hi x1 x2 = (1) := by
        unfold g_214
        rw [if_neg c2, if_pos c3]
      rw [e] at w
      exact w) (fun c2 c4 => by
      have e : g_214 hi x1 x2 = (0) := by
        unfold g_214
        rw [if_neg c2, if_neg c4]
      rw [e] at w
      exact w)
-- 216: DogDecreesModel.goalOf(III)I
set_option maxRecDepth 100000 in
theorem k_216_0 {x1 : Int32} {x2 : Int32} {x3 : Int32}
    (h1 : x3 = 0 → Q (some (.int x1)) (mkH hi hl sw kp))
    (h2 : ¬ (x3 = 0) → cW cd_216 d Q 20 [some (.ref 279), some (.int x1), some (.int x2), some (.int x3), some (.int ((x2 * x3) / (60))), some (.int (0)), some (.int (0))] [] (mkH hi hl sw kp))
    : cW cd_216 d Q 0 [some (.ref 279), some (.int x1), some (.int x2), some (.int x3), none, none, none] [] (mkH hi hl sw kp) :=
  cW.run (am_in [20]) 12 (And.intro (fun c1 => (cQ.of (h1 c1))) (fun c2 => (And.intro (show ¬ ((60) : Int32) = 0 by decide +kernel) (And.intro (Nat.le_of_ble_eq_true rfl) (And.intro (Nat.le_of_ble_eq_true rfl) (And.intro (Nat.le_of_ble_eq_true rfl) (h2 c2)))))))
theorem e_216 {x1 : Int32} {x2 : Int32} {x3 : Int32}
    (h1 : x3 = 0 → Q (some (.int x1)) (mkH hi hl sw kp))
    (h2 : ¬ (x3 = 0) → cW cd_216 d Q 20 [some (.ref 279), some (.int x1), some (.int x2), some (.int x3), some (.int ((x2 * x3) / (60))), some (.int (0)), some (.int (0))] [] (mkH hi hl sw kp))
    : cS (d + 1) 216 [(.ref 279), (.int x1), (.int x2), (.int x3)] (mkH hi hl sw kp) Q := cS.of rfl (k_216_0 h1 h2)
set_option maxRecDepth 100000 in
theorem k_216_20 {x1 : Int32} {x2 : Int32} {x3 : Int32} {x4 : Int32} {x5 : Int32} {x6 : Int32}
    (h1 : (hi 279 46) ≤ x6 → Q (some (.int x1)) (mkH hi hl sw kp))
    (h2 : ¬ ((hi 279 46) ≤ x6) → vp_in x6 8)
    (h3 : ¬ ((hi 279 46) ≤ x6) → (x5 + (hi 301 x6.toNatClampNeg)) ≤ x4 → cW cd_216 d Q 20 [some (.ref 279), some (.int x1), some (.int x2), some (.int x3), some (.int x4), some (.int (x5 + (hi 301 x6.toNatClampNeg))), some (.int (x6 + (1)))] [] (mkH hi hl sw kp))
    (h4 : ¬ ((hi 279 46) ≤ x6) → ¬ ((x5 + (hi 301 x6.toNatClampNeg)) ≤ x4) → Q (some (.int x6)) (mkH hi hl sw kp))
    : cW cd_216 d Q 20 [some (.ref 279), some (.int x1), some (.int x2), some (.int x3), some (.int x4), some (.int x5), some (.int x6)] [] (mkH hi hl sw kp) :=
  cW.run (am_in [20]) 16 (And.intro (fun c1 => (cQ.of (h1 c1))) (fun c2 => (And.intro (h2 c2) (And.intro (Nat.le_of_ble_eq_true rfl) (And.intro (fun c3 => (And.intro (Nat.le_of_ble_eq_true rfl) (h3 c2 c3))) (fun c4 => (cQ.of (h4 c2 c4))))))))
-- 218: DogDecreesModel.heardAt(I)I
set_option maxRecDepth 100000 in
theorem k_218_0 {x1 : Int32}
    (h1 : (hi 279 48) = 0 → Q (some (.int (-1))) (mkH hi hl sw kp))
    (h2 : ¬ ((hi 279 48) = 0) → ¬ (hi 279 51) = 0)
    (h3 : ¬ ((hi 279 48) = 0) → ¬ (hi 279 48) = 0)
    (h4 : ¬ ((hi 279 48) = 0) → Q (some (.int ((x1 / (hi 279 51)) - (x1 / (hi 279 51)) / (hi 279 48) * (hi 279 48)))) (mkH hi hl sw kp))
    : cW cd_218 d Q 0 [some (.ref 279), some (.int x1)] [] (mkH hi hl sw kp) :=
  cW.run (am_in []) 11 (And.intro (fun c1 => (cQ.of (h1 c1))) (fun c2 => (And.intro (h2 c2) (And.intro (h3 c2) (cQ.of (h4 c2))))))
theorem e_218 {x1 : Int32}
    (h1 : (hi 279 48) = 0 → Q (some (.int (-1))) (mkH hi hl sw kp))
    (h2 : ¬ ((hi 279 48) = 0) → ¬ (hi 279 51) = 0)
    (h3 : ¬ ((hi 279 48) = 0) → ¬ (hi 279 48) = 0)
    (h4 : ¬ ((hi 279 48) = 0) → Q (some (.int ((x1 / (hi 279 51)) - (x1 / (hi 279 51)) / (hi 279 48) * (hi 279 48)))) (mkH hi hl sw kp))
    : cS (d + 1) 218 [(.ref 279), (.int x1)] (mkH hi hl sw kp) Q := cS.of rfl (k_218_0 h1 h2 h3 h4)
def g_218 (hi : Nat → Nat → Int32) (x1 : Int32) : Int32 := if (hi 279 48) = 0 then (-1) else (((x1 / (hi 279 51)) - (x1 / (hi 279 51)) / (hi 279 48) * (hi 279 48)))
set_option maxRecDepth 100000 in
theorem s_218 {x1 : Int32} (o1 : ¬ ((hi 279 48) = 0) → ¬ (hi 279 51) = 0) (o2 : ¬ ((hi 279 48) = 0) → ¬ (hi 279 48) = 0) (w : Q (some (.int (g_218 hi x1))) (mkH hi hl sw kp)) : cS (d + 1) 218 [(.ref 279), (.int x1)] (mkH hi hl sw kp) Q :=
  e_218 (fun c1 => by
      have e : g_218 hi x1 = (-1) := by
        unfold g_218
        rw [if_pos c1]
      rw [e] at w
      exact w) o1 o2 (fun c2 => by
      have e : g_218 hi x1 = ((x1 / (hi 279 51)) - (x1 / (hi 279 51)) / (hi 279 48) * (hi 279 48)) := by
        unfold g_218
        rw [if_neg c2]
      rw [e] at w
      exact w)
-- 223: DogDecreesModel.act()V
set_option maxRecDepth 100000 in
theorem k_223_0
    (h1 : (hi 279 66) = (40) → cW cd_223 d Q 11 [some (.ref 279), some (.int (0))] [] (mkH hi hl sw kp))
    (h2 : ¬ ((hi 279 66) = (40)) → cW cd_223 d Q 51 [some (.ref 279), some (.int (0))] [] (mkH hi hl sw kp))
    : cW cd_223 d Q 0 [some (.ref 279), none] [] (mkH hi hl sw kp) :=
  cW.run (am_in [11, 51]) 6 (And.intro (fun c1 => (And.intro (Nat.le_of_ble_eq_true rfl) (h1 c1))) (fun c2 => (And.intro (Nat.le_of_ble_eq_true rfl) (h2 c2))))
theorem e_223
    (h1 : (hi 279 66) = (40) → cW cd_223 d Q 11 [some (.ref 279), some (.int (0))] [] (mkH hi hl sw kp))
    (h2 : ¬ ((hi 279 66) = (40)) → cW cd_223 d Q 51 [some (.ref 279), some (.int (0))] [] (mkH hi hl sw kp))
    : cS (d + 1) 223 [(.ref 279)] (mkH hi hl sw kp) Q := cS.of rfl (k_223_0 h1 h2)
set_option maxRecDepth 100000 in
theorem k_223_11 {x1 : Int32}
    (h1 : (3198) ≤ x1 → cW cd_223 d Q 51 [some (.ref 279), some (.int (0))] [] (mkH (u2 hi 279 66 ((hi 279 66) - (1))) hl sw kp))
    (h2 : ¬ ((3198) ≤ x1) → vp_in ((82) + x1) 3280)
    (h3 : ¬ ((3198) ≤ x1) → vp_in x1 3280)
    (h4 : ¬ ((3198) ≤ x1) → cW cd_223 d Q 11 [some (.ref 279), some (.int (x1 + (1)))] [] (mkH (u2 hi 303 x1.toNatClampNeg (hi 303 ((82) + x1).toNatClampNeg)) hl sw kp))
    : cW cd_223 d Q 11 [some (.ref 279), some (.int x1)] [] (mkH hi hl sw kp) :=
  cW.run (am_in [11, 51]) 15 (And.intro (fun c1 => (And.intro rfl (And.intro (Nat.le_of_ble_eq_true rfl) (h1 c1)))) (fun c2 => (And.intro (h2 c2) (And.intro (h3 c2) (And.intro (Nat.le_of_ble_eq_true rfl) (h4 c2))))))
set_option maxRecDepth 100000 in
theorem k_223_51 {x1 : Int32}
    (h1 : (81) ≤ x1 → Q none (mkH (u2 (u2 hi 279 66 ((hi 279 66) + (1))) 279 67 (0)) hl sw kp))
    (h2 : ¬ ((81) ≤ x1) → vp_in x1 82)
    (h3 : ¬ ((81) ≤ x1) → vp_in (((82) * (hi 279 66)) + x1) 3280)
    (h4 : ¬ ((81) ≤ x1) → cW cd_223 d Q 51 [some (.ref 279), some (.int (x1 + (1)))] [] (mkH (u2 hi 303 (((82) * (hi 279 66)) + x1).toNatClampNeg (hi 299 x1.toNatClampNeg)) hl sw kp))
    : cW cd_223 d Q 51 [some (.ref 279), some (.int x1)] [] (mkH hi hl sw kp) :=
  cW.run (am_in [11, 51]) 18 (And.intro (fun c1 => (And.intro rfl (cQ.of (h1 c1)))) (fun c2 => (And.intro (h2 c2) (And.intro (h3 c2) (And.intro (Nat.le_of_ble_eq_true rfl) (h4 c2))))))
-- 224: DogDecreesModel.exchange(I)V
set_option maxRecDepth 100000 in
theorem k_224_0 {x1 : Int32}
    (h1 : cW cd_224 d Q 2 [some (.ref 279), some (.int x1), some (.int (0)), none] [] (mkH hi hl sw kp))
    : cW cd_224 d Q 0 [some (.ref 279), some (.int x1), none, none] [] (mkH hi hl sw kp) :=
  cW.run (am_in [2]) 2 (And.intro (Nat.le_of_ble_eq_true rfl) (h1))
theorem e_224 {x1 : Int32}
    (h1 : cW cd_224 d Q 2 [some (.ref 279), some (.int x1), some (.int (0)), none] [] (mkH hi hl sw kp))
    : cS (d + 1) 224 [(.ref 279), (.int x1)] (mkH hi hl sw kp) Q := cS.of rfl (k_224_0 h1)
set_option maxRecDepth 100000 in
theorem k_224_2 {x1 : Int32} {x2 : Int32} {o3 : Option Value}
    (h1 : (81) ≤ x2 → Q none (mkH hi hl sw kp))
    (h2 : ¬ ((81) ≤ x2) → vp_in (x1 + x2) 3280)
    (h3 : ¬ ((81) ≤ x2) → vp_in x2 82)
    (h4 : ¬ ((81) ≤ x2) → cW cd_224 d Q 2 [some (.ref 279), some (.int x1), some (.int (x2 + (1))), some (.int (hi 303 (x1 + x2).toNatClampNeg))] [] (mkH (u2 (u2 hi 303 (x1 + x2).toNatClampNeg (hi 299 x2.toNatClampNeg)) 299 x2.toNatClampNeg (hi 303 (x1 + x2).toNatClampNeg)) hl sw kp))
    : cW cd_224 d Q 2 [some (.ref 279), some (.int x1), some (.int x2), o3] [] (mkH hi hl sw kp) :=
  cW.run (am_in [2]) 27 (And.intro (fun c1 => (cQ.of (h1 c1))) (fun c2 => (And.intro (h2 c2) (And.intro (Nat.le_of_ble_eq_true rfl) (And.intro (h3 c2) (And.intro (h2 c2) (And.intro (h3 c2) (And.intro (Nat.le_of_ble_eq_true rfl) (h4 c2)))))))))
-- 226: DogDecreesModel.walkTo(I)V
set_option maxRecDepth 100000 in
theorem k_226_0 {x1 : Int32}
    (h1 : (hi 299 20) = (60) → cW cd_226 d Q 14 [some (.ref 279), some (.int x1), some (.int (1))] [] (mkH hi hl sw kp))
    (h2 : ¬ ((hi 299 20) = (60)) → vp_in ((21) + (hi 299 20)) 82)
    (h3 : ¬ ((hi 299 20) = (60)) → Q none (mkH (u2 (u2 hi 299 ((21) + (hi 299 20)).toNatClampNeg x1) 299 20 (((u2 hi 299 ((21) + (hi 299 20)).toNatClampNeg x1) 299 20) + (1))) hl sw kp))
    : cW cd_226 d Q 0 [some (.ref 279), some (.int x1), none] [] (mkH hi hl sw kp) :=
  cW.run (am_in [14]) 25 (And.intro (show vp_in 20 82 from vin_l (by decide +kernel)) (And.intro (fun c1 => (And.intro (Nat.le_of_ble_eq_true rfl) (h1 c1))) (fun c2 => (And.intro (show vp_in 20 82 from vin_l (by decide +kernel)) (And.intro (h2 c2) (And.intro rfl (And.intro rfl (And.intro (show vp_in 20 82 from vin_l (by decide +kernel)) (And.intro (show vp_in 20 82 from vin_l (by decide +kernel)) (cQ.of (h3 c2)))))))))))
theorem e_226 {x1 : Int32}
    (h1 : (hi 299 20) = (60) → cW cd_226 d Q 14 [some (.ref 279), some (.int x1), some (.int (1))] [] (mkH hi hl sw kp))
    (h2 : ¬ ((hi 299 20) = (60)) → vp_in ((21) + (hi 299 20)) 82)
    (h3 : ¬ ((hi 299 20) = (60)) → Q none (mkH (u2 (u2 hi 299 ((21) + (hi 299 20)).toNatClampNeg x1) 299 20 (((u2 hi 299 ((21) + (hi 299 20)).toNatClampNeg x1) 299 20) + (1))) hl sw kp))
    : cS (d + 1) 226 [(.ref 279), (.int x1)] (mkH hi hl sw kp) Q := cS.of rfl (k_226_0 h1 h2 h3)
set_option maxRecDepth 100000 in
theorem k_226_14 {x1 : Int32} {x2 : Int32}
    (h1 : (60) ≤ x2 → vp_in ((21) + ((hi 299 20) - (1))) 82)
    (h2 : (60) ≤ x2 → Q none (mkH (u2 (u2 (u2 hi 299 20 ((hi 299 20) - (1))) 299 ((21) + ((hi 299 20) - (1))).toNatClampNeg x1) 299 20 (((u2 (u2 hi 299 20 ((hi 299 20) - (1))) 299 ((21) + ((hi 299 20) - (1))).toNatClampNeg x1) 299 20) + (1))) hl sw kp))
    (h3 : ¬ ((60) ≤ x2) → vp_in ((21) + x2) 82)
    (h4 : ¬ ((60) ≤ x2) → vp_in (((21) + x2) - (1)) 82)
    (h5 : ¬ ((60) ≤ x2) → cW cd_226 d Q 14 [some (.ref 279), some (.int x1), some (.int (x2 + (1)))] [] (mkH (u2 hi 299 (((21) + x2) - (1)).toNatClampNeg (hi 299 ((21) + x2).toNatClampNeg)) hl sw kp))
    : cW cd_226 d Q 14 [some (.ref 279), some (.int x1), some (.int x2)] [] (mkH hi hl sw kp) :=
  cW.run (am_in [14]) 30 (And.intro (fun c1 => (And.intro rfl (And.intro rfl (And.intro (show vp_in 20 82 from vin_l (by decide +kernel)) (And.intro (show vp_in 20 82 from vin_l (by decide +kernel)) (And.intro (show vp_in 20 82 from vin_l (by decide +kernel)) (And.intro (h1 c1) (And.intro rfl (And.intro rfl (And.intro (show vp_in 20 82 from vin_l (by decide +kernel)) (And.intro (show vp_in 20 82 from vin_l (by decide +kernel)) (cQ.of (h2 c1))))))))))))) (fun c2 => (And.intro (h3 c2) (And.intro (h4 c2) (And.intro (Nat.le_of_ble_eq_true rfl) (h5 c2))))))
-- 234: DogDecreesModel.allOf(I)J
set_option maxRecDepth 100000 in
theorem k_234_0 {x0 : Int32}
    (h1 : cW cd_234 d Q 4 [some (.int x0), some (.long 1), none, some (.int (0))] [] (mkH hi hl sw kp))
    : cW cd_234 d Q 0 [some (.int x0), none, none, none] [] (mkH hi hl sw kp) :=
  cW.run (am_in [4]) 4 (And.intro (Nat.le_of_ble_eq_true rfl) (And.intro (Nat.le_of_ble_eq_true rfl) (h1)))
theorem e_234 {x0 : Int32}
    (h1 : cW cd_234 d Q 4 [some (.int x0), some (.long 1), none, some (.int (0))] [] (mkH hi hl sw kp))
    : cS (d + 1) 234 [(.int x0)] (mkH hi hl sw kp) Q := cS.of rfl (k_234_0 h1)
set_option maxRecDepth 100000 in
theorem k_234_4 {x0 : Int32} {x1 : Int64} {x3 : Int32}
    (h1 : x0 ≤ x3 → Q (some (.long x1)) (mkH hi hl sw kp))
    (h2 : ¬ (x0 ≤ x3) → cW cd_234 d Q 4 [some (.int x0), some (.long (x1 * (60))), none, some (.int (x3 + (1)))] [] (mkH hi hl sw kp))
    : cW cd_234 d Q 4 [some (.int x0), some (.long x1), none, some (.int x3)] [] (mkH hi hl sw kp) :=
  cW.run (am_in [4]) 9 (And.intro (fun c1 => (cQ.of (h1 c1))) (fun c2 => (And.intro (Nat.le_of_ble_eq_true rfl) (And.intro (Nat.le_of_ble_eq_true rfl) (h2 c2)))))
-- 235: DogDecreesModel.common(JJ)J
set_option maxRecDepth 100000 in
theorem k_235_0 {x0 : Int64} {x2 : Int64}
    (h1 : cW cd_235 d Q 6 [some (.long x0), none, some (.long x2), none, some (.long x0), none, some (.long x2), none, none, none] [] (mkH hi hl sw kp))
    : cW cd_235 d Q 0 [some (.long x0), none, some (.long x2), none, none, none, none, none, none, none] [] (mkH hi hl sw kp) :=
  cW.run (am_in [6]) 4 (And.intro (Nat.le_of_ble_eq_true rfl) (And.intro (Nat.le_of_ble_eq_true rfl) (h1)))
theorem e_235 {x0 : Int64} {x2 : Int64}
    (h1 : cW cd_235 d Q 6 [some (.long x0), none, some (.long x2), none, some (.long x0), none, some (.long x2), none, none, none] [] (mkH hi hl sw kp))
    : cS (d + 1) 235 [(.long x0), (.long x2)] (mkH hi hl sw kp) Q := cS.of rfl (k_235_0 h1)
set_option maxRecDepth 100000 in
theorem k_235_6 {x0 : Int64} {x2 : Int64} {x4 : Int64} {x6 : Int64} {o8 : Option Value}
    (h1 : (lg_cmp x6 0) ≤ 0 → Q (some (.long x4)) (mkH hi hl sw kp))
    (h2 : ¬ ((lg_cmp x6 0) ≤ 0) → ¬ x6 = 0)
    (h3 : ¬ ((lg_cmp x6 0) ≤ 0) → cW cd_235 d Q 6 [some (.long x0), none, some (.long x2), none, some (.long x6), none, some (.long (x4 - x4 / x6 * x6)), none, some (.long (x4 - x4 / x6 * x6)), none] [] (mkH hi hl sw kp))
    : cW cd_235 d Q 6 [some (.long x0), none, some (.long x2), none, some (.long x4), none, some (.long x6), none, o8, none] [] (mkH hi hl sw kp) :=
  cW.run (am_in [6]) 13 (And.intro (fun c1 => (cQ.of (h1 c1))) (fun c2 => (And.intro (h2 c2) (And.intro (Nat.le_of_ble_eq_true rfl) (And.intro (Nat.le_of_ble_eq_true rfl) (And.intro (Nat.le_of_ble_eq_true rfl) (h3 c2)))))))
-- 239: DogDecreesModel.scoreBy(III)I
set_option maxRecDepth 100000 in
theorem k_239_0 {x1 : Int32} {x2 : Int32} {x3 : Int32}
    (h1 : vp_in x3 8)
    (h2 : vp_in (((4) * (hi 295 x3.toNatClampNeg)) + x1) 16)
    (h3 : vp_in x1 4)
    (h4 : ((x2 - (15)) + (hi 298 (((4) * (hi 295 x3.toNatClampNeg)) + x1).toNatClampNeg)) < (hi 297 x1.toNatClampNeg) → (-(hi 297 x1.toNatClampNeg)) < ((x2 - (15)) + (hi 298 (((4) * (hi 295 x3.toNatClampNeg)) + x1).toNatClampNeg)) → Q (some (.int (((x2 - (15)) + (hi 298 (((4) * (hi 295 x3.toNatClampNeg)) + x1).toNatClampNeg)) + (15)))) (mkH hi hl sw kp))
    (h5 : ((x2 - (15)) + (hi 298 (((4) * (hi 295 x3.toNatClampNeg)) + x1).toNatClampNeg)) < (hi 297 x1.toNatClampNeg) → ¬ ((-(hi 297 x1.toNatClampNeg)) < ((x2 - (15)) + (hi 298 (((4) * (hi 295 x3.toNatClampNeg)) + x1).toNatClampNeg))) → Q (some (.int (-1))) (mkH hi hl sw kp))
    (h6 : ¬ (((x2 - (15)) + (hi 298 (((4) * (hi 295 x3.toNatClampNeg)) + x1).toNatClampNeg)) < (hi 297 x1.toNatClampNeg)) → Q (some (.int (31))) (mkH hi hl sw kp))
    : cW cd_239 d Q 0 [some (.ref 279), some (.int x1), some (.int x2), some (.int x3), none] [] (mkH hi hl sw kp) :=
  cW.run (am_in []) 33 (And.intro (h1) (And.intro (h2) (And.intro (Nat.le_of_ble_eq_true rfl) (And.intro (h3) (And.intro (fun c1 => (And.intro (h3) (And.intro (fun c2 => (cQ.of (h4 c1 c2))) (fun c3 => (cQ.of (h5 c1 c3)))))) (fun c4 => (cQ.of (h6 c4))))))))
theorem e_239 {x1 : Int32} {x2 : Int32} {x3 : Int32}
    (h1 : vp_in x3 8)
    (h2 : vp_in (((4) * (hi 295 x3.toNatClampNeg)) + x1) 16)
    (h3 : vp_in x1 4)
    (h4 : ((x2 - (15)) + (hi 298 (((4) * (hi 295 x3.toNatClampNeg)) + x1).toNatClampNeg)) < (hi 297 x1.toNatClampNeg) → (-(hi 297 x1.toNatClampNeg)) < ((x2 - (15)) + (hi 298 (((4) * (hi 295 x3.toNatClampNeg)) + x1).toNatClampNeg)) → Q (some (.int (((x2 - (15)) + (hi 298 (((4) * (hi 295 x3.toNatClampNeg)) + x1).toNatClampNeg)) + (15)))) (mkH hi hl sw kp))
    (h5 : ((x2 - (15)) + (hi 298 (((4) * (hi 295 x3.toNatClampNeg)) + x1).toNatClampNeg)) < (hi 297 x1.toNatClampNeg) → ¬ ((-(hi 297 x1.toNatClampNeg)) < ((x2 - (15)) + (hi 298 (((4) * (hi 295 x3.toNatClampNeg)) + x1).toNatClampNeg))) → Q (some (.int (-1))) (mkH hi hl sw kp))
    (h6 : ¬ (((x2 - (15)) + (hi 298 (((4) * (hi 295 x3.toNatClampNeg)) + x1).toNatClampNeg)) < (hi 297 x1.toNatClampNeg)) → Q (some (.int (31))) (mkH hi hl sw kp))
    : cS (d + 1) 239 [(.ref 279), (.int x1), (.int x2), (.int x3)] (mkH hi hl sw kp) Q := cS.of rfl (k_239_0 h1 h2 h3 h4 h5 h6)
def g_239 (hi : Nat → Nat → Int32) (x1 : Int32) (x2 : Int32) (x3 : Int32) : Int32 := if ((x2 - (15)) + (hi 298 (((4) * (hi 295 x3.toNatClampNeg)) + x1).toNatClampNeg)) < (hi 297 x1.toNatClampNeg) then if (-(hi 297 x1.toNatClampNeg)) < ((x2 - (15)) + (hi 298 (((4) * (hi 295 x3.toNatClampNeg)) + x1).toNatClampNeg)) then (((x2 - (15)) + (hi 298 (((4) * (hi 295 x3.toNatClampNeg)) + x1).toNatClampNeg)) + (15)) else ((-1)) else ((31))
set_option maxRecDepth 100000 in
theorem s_239 {x1 : Int32} {x2 : Int32} {x3 : Int32} (o1 : vp_in x3 8) (o2 : vp_in (((4) * (hi 295 x3.toNatClampNeg)) + x1) 16) (o3 : vp_in x1 4) (w : Q (some (.int (g_239 hi x1 x2 x3))) (mkH hi hl sw kp)) : cS (d + 1) 239 [(.ref 279), (.int x1), (.int x2), (.int x3)] (mkH hi hl sw kp) Q :=
  e_239 o1 o2 o3 (fun c1 c2 => by
      have e : g_239 hi x1 x2 x3 = (((x2 - (15)) + (hi 298 (((4) * (hi 295 x3.toNatClampNeg)) + x1).toNatClampNeg)) + (15)) := by
        unfold g_239
        rw [if_pos c1, if_pos c2]
      rw [e] at w
      exact w) (fun c1 c3 => by
      have e : g_239 hi x1 x2 x3 = (-1) := by
        unfold g_239
        rw [if_pos c1, if_neg c3]
      rw [e] at w
      exact w) (fun c4 => by
      have e : g_239 hi x1 x2 x3 = (31) := by
        unfold g_239
        rw [if_neg c4]
      rw [e] at w
      exact w)
-- 241: DogDecreesModel.beginScores(II)V
set_option maxRecDepth 100000 in
theorem k_241_0 {x1 : Int32} {x2 : Int32}
    (h1 : cW cd_241 d Q 24 [some (.ref 279), some (.int x1), some (.int x2), some (.int (0))] [] (mkH (u2 (u2 hi 279 61 (hi 299 17)) 279 62 (hi 299 18)) hl sw kp))
    : cW cd_241 d Q 0 [some (.ref 279), some (.int x1), some (.int x2), none] [] (mkH hi hl sw kp) :=
  cW.run (am_in [24]) 14 (And.intro (show vp_in 17 82 from vin_l (by decide +kernel)) (And.intro (show vp_in 18 82 from vin_l (by decide +kernel)) (And.intro (Nat.le_of_ble_eq_true rfl) (h1))))
theorem e_241 {x1 : Int32} {x2 : Int32}
    (h1 : cW cd_241 d Q 24 [some (.ref 279), some (.int x1), some (.int x2), some (.int (0))] [] (mkH (u2 (u2 hi 279 61 (hi 299 17)) 279 62 (hi 299 18)) hl sw kp))
    : cS (d + 1) 241 [(.ref 279), (.int x1), (.int x2)] (mkH hi hl sw kp) Q := cS.of rfl (k_241_0 h1)
set_option maxRecDepth 100000 in
theorem k_241_24 {x1 : Int32} {x2 : Int32} {x3 : Int32}
    (h1 : (256) ≤ x3 → vp_in ((12) + x1) 82)
    (h2 : (256) ≤ x3 → x2 < 0 → Q none (mkH hi hl sw kp))
    (h3 : (256) ≤ x3 → ¬ (x2 < 0) → (2) ≤ (hi 299 ((12) + x1).toNatClampNeg) → Q none (mkH hi hl sw kp))
    (h4 : (256) ≤ x3 → ¬ (x2 < 0) → ¬ ((2) ≤ (hi 299 ((12) + x1).toNatClampNeg)) → (hi 299 ((12) + x1).toNatClampNeg) = (1) → vp_in (((32) * x2) + (31)) 256)
    (h5 : (256) ≤ x3 → ¬ (x2 < 0) → ¬ ((2) ≤ (hi 299 ((12) + x1).toNatClampNeg)) → (hi 299 ((12) + x1).toNatClampNeg) = (1) → Q none (mkH hi (u2 hl 306 (((32) * x2) + (31)).toNatClampNeg 1) sw kp))
    (h6 : (256) ≤ x3 → ¬ (x2 < 0) → ¬ ((2) ≤ (hi 299 ((12) + x1).toNatClampNeg)) → ¬ ((hi 299 ((12) + x1).toNatClampNeg) = (1)) → vp_in ((8) + x1) 82)
    (h7 : (256) ≤ x3 → ¬ (x2 < 0) → ¬ ((2) ≤ (hi 299 ((12) + x1).toNatClampNeg)) → ¬ ((hi 299 ((12) + x1).toNatClampNeg) = (1)) → vp_in (((32) * x2) + ((hi 299 ((8) + x1).toNatClampNeg) + (15))) 256)
    (h8 : (256) ≤ x3 → ¬ (x2 < 0) → ¬ ((2) ≤ (hi 299 ((12) + x1).toNatClampNeg)) → ¬ ((hi 299 ((12) + x1).toNatClampNeg) = (1)) → Q none (mkH hi (u2 hl 306 (((32) * x2) + ((hi 299 ((8) + x1).toNatClampNeg) + (15))).toNatClampNeg 1) sw kp))
    (h9 : ¬ ((256) ≤ x3) → vp_in x3 256)
    (h10 : ¬ ((256) ≤ x3) → cW cd_241 d Q 24 [some (.ref 279), some (.int x1), some (.int x2), some (.int (x3 + (1)))] [] (mkH hi (u2 hl 306 x3.toNatClampNeg 0) sw kp))
    : cW cd_241 d Q 24 [some (.ref 279), some (.int x1), some (.int x2), some (.int x3)] [] (mkH hi hl sw kp) :=
  cW.run (am_in [24]) 35 (And.intro (fun c1 => (And.intro (h1 c1) (And.intro (Nat.le_of_ble_eq_true rfl) (And.intro (fun c2 => (cQ.of (h2 c1 c2))) (fun c3 => (And.intro (fun c4 => (cQ.of (h3 c1 c3 c4))) (fun c5 => (And.intro (fun c6 => (And.intro (h4 c1 c3 c5 c6) (cQ.of (h5 c1 c3 c5 c6)))) (fun c7 => (And.intro (h6 c1 c3 c5 c7) (And.intro (h7 c1 c3 c5 c7) (cQ.of (h8 c1 c3 c5 c7))))))))))))) (fun c8 => (And.intro (h9 c8) (And.intro (Nat.le_of_ble_eq_true rfl) (h10 c8)))))
-- 242: DogDecreesModel.passed()J
set_option maxRecDepth 100000 in
theorem k_242_0
    (h1 : cW cd_242 d Q 4 [some (.ref 279), some (.long 0), none, some (.int (0))] [] (mkH hi hl sw kp))
    : cW cd_242 d Q 0 [some (.ref 279), none, none, none] [] (mkH hi hl sw kp) :=
  cW.run (am_in [4]) 4 (And.intro (Nat.le_of_ble_eq_true rfl) (And.intro (Nat.le_of_ble_eq_true rfl) (h1)))
theorem e_242
    (h1 : cW cd_242 d Q 4 [some (.ref 279), some (.long 0), none, some (.int (0))] [] (mkH hi hl sw kp))
    : cS (d + 1) 242 [(.ref 279)] (mkH hi hl sw kp) Q := cS.of rfl (k_242_0 h1)
set_option maxRecDepth 100000 in
theorem k_242_4 {x1 : Int64} {x3 : Int32}
    (h1 : (hi 279 46) ≤ x3 → Q (some (.long x1)) (mkH hi hl sw kp))
    (h2 : ¬ ((hi 279 46) ≤ x3) → vp_in (((32) * x3) + (31)) 256)
    (h3 : ¬ ((hi 279 46) ≤ x3) → cW cd_242 d Q 4 [some (.ref 279), some (.long (x1 + (hl 306 (((32) * x3) + (31)).toNatClampNeg))), none, some (.int (x3 + (1)))] [] (mkH hi hl sw kp))
    : cW cd_242 d Q 4 [some (.ref 279), some (.long x1), none, some (.int x3)] [] (mkH hi hl sw kp) :=
  cW.run (am_in [4]) 17 (And.intro (fun c1 => (cQ.of (h1 c1))) (fun c2 => (And.intro (h2 c2) (And.intro (Nat.le_of_ble_eq_true rfl) (And.intro (Nat.le_of_ble_eq_true rfl) (h3 c2))))))
-- 244: DogDecreesModel.isDone(I)Z
set_option maxRecDepth 100000 in
theorem k_244_0 {x1 : Int32}
    (h1 : vp_in ((12) + x1) 82)
    (h2 : (hi 299 ((12) + x1).toNatClampNeg) = (1) → Q (some (.int (1))) (mkH hi hl sw kp))
    (h3 : ¬ ((hi 299 ((12) + x1).toNatClampNeg) = (1)) → Q (some (.int (0))) (mkH hi hl sw kp))
    : cW cd_244 d Q 0 [some (.ref 279), some (.int x1)] [] (mkH hi hl sw kp) :=
  cW.run (am_in []) 11 (And.intro (h1) (And.intro (fun c1 => (And.intro (Or.inr rfl) (cQ.of (h2 c1)))) (fun c2 => (And.intro (Or.inl rfl) (cQ.of (h3 c2))))))
theorem e_244 {x1 : Int32}
    (h1 : vp_in ((12) + x1) 82)
    (h2 : (hi 299 ((12) + x1).toNatClampNeg) = (1) → Q (some (.int (1))) (mkH hi hl sw kp))
    (h3 : ¬ ((hi 299 ((12) + x1).toNatClampNeg) = (1)) → Q (some (.int (0))) (mkH hi hl sw kp))
    : cS (d + 1) 244 [(.ref 279), (.int x1)] (mkH hi hl sw kp) Q := cS.of rfl (k_244_0 h1 h2 h3)
def g_244 (hi : Nat → Nat → Int32) (x1 : Int32) : Int32 := if (hi 299 ((12) + x1).toNatClampNeg) = (1) then (1) else ((0))
theorem g_244_01 (hi : Nat → Nat → Int32) (x1 : Int32) : g_244 hi x1 = 0 ∨ g_244 hi x1 = 1 := by
  unfold g_244
  exact (ite01 (Or.inr rfl) (Or.inl rfl))
set_option maxRecDepth 100000 in
theorem s_244 {x1 : Int32} (o1 : vp_in ((12) + x1) 82) (w : Q (some (.int (g_244 hi x1))) (mkH hi hl sw kp)) : cS (d + 1) 244 [(.ref 279), (.int x1)] (mkH hi hl sw kp) Q :=
  e_244 o1 (fun c1 => by
      have e : g_244 hi x1 = (1) := by
        unfold g_244
        rw [if_pos c1]
      rw [e] at w
      exact w) (fun c2 => by
      have e : g_244 hi x1 = (0) := by
        unfold g_244
        rw [if_neg c2]
      rw [e] at w
      exact w)
-- 250: DogDecreesModel.canLay()Z
set_option maxRecDepth 100000 in
theorem k_250_0
    (h1 : cW cd_250 d Q 4 [some (.ref 279), some (.int (1)), some (.int (0))] [] (mkH hi hl sw kp))
    : cW cd_250 d Q 0 [some (.ref 279), none, none] [] (mkH hi hl sw kp) :=
  cW.run (am_in [4]) 4 (And.intro (Nat.le_of_ble_eq_true rfl) (And.intro (Nat.le_of_ble_eq_true rfl) (h1)))
theorem e_250
    (h1 : cW cd_250 d Q 4 [some (.ref 279), some (.int (1)), some (.int (0))] [] (mkH hi hl sw kp))
    : cS (d + 1) 250 [(.ref 279)] (mkH hi hl sw kp) Q := cS.of rfl (k_250_0 h1)
set_option maxRecDepth 100000 in
theorem k_250_4 {x1 : Int32} {x2 : Int32}
    (h1 : (hi 279 46) ≤ x2 → x1 = 0 ∨ x1 = 1)
    (h2 : (hi 279 46) ≤ x2 → Q (some (.int x1)) (mkH hi hl sw kp))
    (h3 : ¬ ((hi 279 46) ≤ x2) → x1 = 0 → cW cd_250 d Q 4 [some (.ref 279), some (.int (0)), some (.int (x2 + (1)))] [] (mkH hi hl sw kp))
    (h4 : ¬ ((hi 279 46) ≤ x2) → ¬ (x1 = 0) → vp_in ((0) + x2) 82)
    (h5 : ¬ ((hi 279 46) ≤ x2) → ¬ (x1 = 0) → vp_in x2 8)
    (h6 : ¬ ((hi 279 46) ≤ x2) → ¬ (x1 = 0) → (9) < ((hi 299 ((0) + x2).toNatClampNeg) + (hi 308 x2.toNatClampNeg)) → cW cd_250 d Q 4 [some (.ref 279), some (.int (0)), some (.int (x2 + (1)))] [] (mkH hi hl sw kp))
    (h7 : ¬ ((hi 279 46) ≤ x2) → ¬ (x1 = 0) → ¬ ((9) < ((hi 299 ((0) + x2).toNatClampNeg) + (hi 308 x2.toNatClampNeg))) → cW cd_250 d Q 4 [some (.ref 279), some (.int (1)), some (.int (x2 + (1)))] [] (mkH hi hl sw kp))
    : cW cd_250 d Q 4 [some (.ref 279), some (.int x1), some (.int x2)] [] (mkH hi hl sw kp) :=
  cW.run (am_in [4]) 24 (And.intro (fun c1 => (And.intro (h1 c1) (cQ.of (h2 c1)))) (fun c2 => (And.intro (fun c3 => (And.intro (Nat.le_of_ble_eq_true rfl) (And.intro (Nat.le_of_ble_eq_true rfl) (h3 c2 c3)))) (fun c4 => (And.intro (h4 c2 c4) (And.intro (h5 c2 c4) (And.intro (fun c5 => (And.intro (Nat.le_of_ble_eq_true rfl) (And.intro (Nat.le_of_ble_eq_true rfl) (h6 c2 c4 c5)))) (fun c6 => (And.intro (Nat.le_of_ble_eq_true rfl) (And.intro (Nat.le_of_ble_eq_true rfl) (h7 c2 c4 c6)))))))))))
-- 251: DogDecreesModel.nextRow()Z
set_option maxRecDepth 100000 in
theorem k_251_0
    (h1 : cW cd_251 d Q 7 [some (.ref 279), some (.int ((hi 279 46) - (2))), none, none] [] (mkH hi hl sw kp))
    : cW cd_251 d Q 0 [some (.ref 279), none, none, none] [] (mkH hi hl sw kp) :=
  cW.run (am_in [7, 38]) 5 (And.intro (Nat.le_of_ble_eq_true rfl) (h1))
theorem e_251
    (h1 : cW cd_251 d Q 7 [some (.ref 279), some (.int ((hi 279 46) - (2))), none, none] [] (mkH hi hl sw kp))
    : cS (d + 1) 251 [(.ref 279)] (mkH hi hl sw kp) Q := cS.of rfl (k_251_0 h1)
set_option maxRecDepth 100000 in
theorem k_251_7 {x1 : Int32}
    (h1 : x1 < 0 → 0 ≤ x1 → cW cd_251 d Q 38 [some (.ref 279), some (.int x1), some (.int (1)), some (.int (x1 + (1)))] [] (mkH hi hl sw kp))
    (h2 : x1 < 0 → ¬ (0 ≤ x1) → Q (some (.int (0))) (mkH hi hl sw kp))
    (h3 : ¬ (x1 < 0) → vp_in x1 8)
    (h4 : ¬ (x1 < 0) → (hi 308 x1.toNatClampNeg) = 0 → cW cd_251 d Q 7 [some (.ref 279), some (.int (x1 + (-1))), none, none] [] (mkH hi hl sw kp))
    (h5 : ¬ (x1 < 0) → ¬ ((hi 308 x1.toNatClampNeg) = 0) → 0 ≤ x1 → cW cd_251 d Q 38 [some (.ref 279), some (.int x1), some (.int (1)), some (.int (x1 + (1)))] [] (mkH hi hl sw kp))
    (h6 : ¬ (x1 < 0) → ¬ ((hi 308 x1.toNatClampNeg) = 0) → ¬ (0 ≤ x1) → Q (some (.int (0))) (mkH hi hl sw kp))
    : cW cd_251 d Q 7 [some (.ref 279), some (.int x1), none, none] [] (mkH hi hl sw kp) :=
  cW.run (am_in [7, 38]) 15 (And.intro (fun c1 => (And.intro (fun c2 => (And.intro (Nat.le_of_ble_eq_true rfl) (And.intro (Nat.le_of_ble_eq_true rfl) (h1 c1 c2)))) (fun c3 => (And.intro (Or.inl rfl) (cQ.of (h2 c1 c3)))))) (fun c4 => (And.intro (h3 c4) (And.intro (fun c5 => (And.intro (Nat.le_of_ble_eq_true rfl) (h4 c4 c5))) (fun c6 => (And.intro (fun c7 => (And.intro (Nat.le_of_ble_eq_true rfl) (And.intro (Nat.le_of_ble_eq_true rfl) (h5 c4 c6 c7)))) (fun c8 => (And.intro (Or.inl rfl) (cQ.of (h6 c4 c6 c8))))))))))
set_option maxRecDepth 100000 in
theorem k_251_38 {x1 : Int32} {x2 : Int32} {x3 : Int32}
    (h1 : (hi 279 46) ≤ x3 → vp_in x1 8)
    (h2 : (hi 279 46) ≤ x3 → vp_in (x1 + (1)) 8)
    (h3 : (hi 279 46) ≤ x3 → Q (some (.int (1))) (mkH (u2 (u2 hi 308 x1.toNatClampNeg ((hi 308 x1.toNatClampNeg) - (1))) 308 (x1 + (1)).toNatClampNeg x2) hl sw kp))
    (h4 : ¬ ((hi 279 46) ≤ x3) → vp_in x3 8)
    (h5 : ¬ ((hi 279 46) ≤ x3) → cW cd_251 d Q 38 [some (.ref 279), some (.int x1), some (.int (x2 + (hi 308 x3.toNatClampNeg))), some (.int (x3 + (1)))] [] (mkH (u2 hi 308 x3.toNatClampNeg (0)) hl sw kp))
    : cW cd_251 d Q 38 [some (.ref 279), some (.int x1), some (.int x2), some (.int x3)] [] (mkH hi hl sw kp) :=
  cW.run (am_in [7, 38]) 21 (And.intro (fun c1 => (And.intro rfl (And.intro rfl (And.intro (h1 c1) (And.intro (h1 c1) (And.intro (h2 c1) (And.intro (Or.inr rfl) (cQ.of (h3 c1))))))))) (fun c2 => (And.intro (h4 c2) (And.intro (Nat.le_of_ble_eq_true rfl) (And.intro (h4 c2) (And.intro (Nat.le_of_ble_eq_true rfl) (h5 c2)))))))
-- 253: DogDecreesModel.putMore()V
set_option maxRecDepth 100000 in
theorem k_253_0
    (h1 : cW cd_253 d Q 2 [some (.ref 279), some (.int (0))] [] (mkH hi hl sw kp))
    : cW cd_253 d Q 0 [some (.ref 279), none] [] (mkH hi hl sw kp) :=
  cW.run (am_in [2]) 2 (And.intro (Nat.le_of_ble_eq_true rfl) (h1))
theorem e_253
    (h1 : cW cd_253 d Q 2 [some (.ref 279), some (.int (0))] [] (mkH hi hl sw kp))
    : cS (d + 1) 253 [(.ref 279)] (mkH hi hl sw kp) Q := cS.of rfl (k_253_0 h1)
set_option maxRecDepth 100000 in
theorem k_253_2 {x1 : Int32}
    (h1 : (hi 279 46) ≤ x1 → Q none (mkH (u2 hi 279 75 (hi 279 46)) hl sw kp))
    (h2 : ¬ ((hi 279 46) ≤ x1) → vp_in x1 8)
    (h3 : ¬ ((hi 279 46) ≤ x1) → cW cd_253 d Q 2 [some (.ref 279), some (.int (x1 + (1)))] [] (mkH (u2 hi 310 x1.toNatClampNeg (hi 309 x1.toNatClampNeg)) hl sw kp))
    : cW cd_253 d Q 2 [some (.ref 279), some (.int x1)] [] (mkH hi hl sw kp) :=
  cW.run (am_in [2]) 14 (And.intro (fun c1 => (cQ.of (h1 c1))) (fun c2 => (And.intro (h2 c2) (And.intro (h2 c2) (And.intro (Nat.le_of_ble_eq_true rfl) (h3 c2))))))
-- 260: DogDecreesModel.walked(I)I
set_option maxRecDepth 100000 in
theorem k_260_0 {x1 : Int32}
    (h1 : (hi 299 20) ≤ x1 → Q (some (.int (hi 279 49))) (mkH hi hl sw kp))
    (h2 : ¬ ((hi 299 20) ≤ x1) → vp_in ((((21) + (hi 299 20)) - (1)) - x1) 82)
    (h3 : ¬ ((hi 299 20) ≤ x1) → Q (some (.int (hi 299 ((((21) + (hi 299 20)) - (1)) - x1).toNatClampNeg))) (mkH hi hl sw kp))
    : cW cd_260 d Q 0 [some (.ref 279), some (.int x1)] [] (mkH hi hl sw kp) :=
  cW.run (am_in []) 21 (And.intro (show vp_in 20 82 from vin_l (by decide +kernel)) (And.intro (fun c1 => (cQ.of (h1 c1))) (fun c2 => (And.intro (show vp_in 20 82 from vin_l (by decide +kernel)) (And.intro (h2 c2) (cQ.of (h3 c2)))))))
theorem e_260 {x1 : Int32}
    (h1 : (hi 299 20) ≤ x1 → Q (some (.int (hi 279 49))) (mkH hi hl sw kp))
    (h2 : ¬ ((hi 299 20) ≤ x1) → vp_in ((((21) + (hi 299 20)) - (1)) - x1) 82)
    (h3 : ¬ ((hi 299 20) ≤ x1) → Q (some (.int (hi 299 ((((21) + (hi 299 20)) - (1)) - x1).toNatClampNeg))) (mkH hi hl sw kp))
    : cS (d + 1) 260 [(.ref 279), (.int x1)] (mkH hi hl sw kp) Q := cS.of rfl (k_260_0 h1 h2 h3)
def g_260 (hi : Nat → Nat → Int32) (x1 : Int32) : Int32 := if (hi 299 20) ≤ x1 then (hi 279 49) else ((hi 299 ((((21) + (hi 299 20)) - (1)) - x1).toNatClampNeg))
set_option maxRecDepth 100000 in
theorem s_260 {x1 : Int32} (o1 : ¬ ((hi 299 20) ≤ x1) → vp_in ((((21) + (hi 299 20)) - (1)) - x1) 82) (w : Q (some (.int (g_260 hi x1))) (mkH hi hl sw kp)) : cS (d + 1) 260 [(.ref 279), (.int x1)] (mkH hi hl sw kp) Q :=
  e_260 (fun c1 => by
      have e : g_260 hi x1 = (hi 279 49) := by
        unfold g_260
        rw [if_pos c1]
      rw [e] at w
      exact w) o1 (fun c2 => by
      have e : g_260 hi x1 = (hi 299 ((((21) + (hi 299 20)) - (1)) - x1).toNatClampNeg) := by
        unfold g_260
        rw [if_neg c2]
      rw [e] at w
      exact w)
-- 267: DogDecreesModel.later(I)I
set_option maxRecDepth 100000 in
theorem k_267_0 {x1 : Int32}
    (h1 : x1 < 0 → Q (some (.int (-1))) (mkH hi hl sw kp))
    (h2 : ¬ (x1 < 0) → (1000) < x1 → Q (some (.int (-1))) (mkH hi hl sw kp))
    (h3 : ¬ (x1 < 0) → ¬ ((1000) < x1) → ((hi 279 87) + x1) ≤ (100000) → Q (some (.int ((hi 279 87) + x1))) (mkH (u2 hi 279 87 ((hi 279 87) + x1)) hl sw kp))
    (h4 : ¬ (x1 < 0) → ¬ ((1000) < x1) → ¬ (((hi 279 87) + x1) ≤ (100000)) → Q (some (.int (-1))) (mkH hi hl sw kp))
    : cW cd_267 d Q 0 [some (.ref 279), some (.int x1)] [] (mkH hi hl sw kp) :=
  cW.run (am_in []) 20 (And.intro (fun c1 => (cQ.of (h1 c1))) (fun c2 => (And.intro (fun c3 => (cQ.of (h2 c2 c3))) (fun c4 => (And.intro (fun c5 => (And.intro rfl (cQ.of (h3 c2 c4 c5)))) (fun c6 => (cQ.of (h4 c2 c4 c6))))))))
theorem e_267 {x1 : Int32}
    (h1 : x1 < 0 → Q (some (.int (-1))) (mkH hi hl sw kp))
    (h2 : ¬ (x1 < 0) → (1000) < x1 → Q (some (.int (-1))) (mkH hi hl sw kp))
    (h3 : ¬ (x1 < 0) → ¬ ((1000) < x1) → ((hi 279 87) + x1) ≤ (100000) → Q (some (.int ((hi 279 87) + x1))) (mkH (u2 hi 279 87 ((hi 279 87) + x1)) hl sw kp))
    (h4 : ¬ (x1 < 0) → ¬ ((1000) < x1) → ¬ (((hi 279 87) + x1) ≤ (100000)) → Q (some (.int (-1))) (mkH hi hl sw kp))
    : cS (d + 1) 267 [(.ref 279), (.int x1)] (mkH hi hl sw kp) Q := cS.of rfl (k_267_0 h1 h2 h3 h4)
-- 268: DogDecreesModel.isSo(II)Z
set_option maxRecDepth 100000 in
theorem k_268_0 {x1 : Int32} {x2 : Int32}
    (h1 : cW cd_268 d Q 5 [some (.ref 279), some (.int x1), some (.int x2), some (.int (1)), some (.int (0)), none] [] (mkH hi hl sw kp))
    : cW cd_268 d Q 0 [some (.ref 279), some (.int x1), some (.int x2), none, none, none] [] (mkH hi hl sw kp) :=
  cW.run (am_in [5]) 4 (And.intro (Nat.le_of_ble_eq_true rfl) (And.intro (Nat.le_of_ble_eq_true rfl) (h1)))
theorem e_268 {x1 : Int32} {x2 : Int32}
    (h1 : cW cd_268 d Q 5 [some (.ref 279), some (.int x1), some (.int x2), some (.int (1)), some (.int (0)), none] [] (mkH hi hl sw kp))
    : cS (d + 1) 268 [(.ref 279), (.int x1), (.int x2)] (mkH hi hl sw kp) Q := cS.of rfl (k_268_0 h1)
set_option maxRecDepth 100000 in
theorem k_268_5 {x1 : Int32} {x2 : Int32} {x3 : Int32} {x4 : Int32} {o5 : Option Value}
    (h1 : (hi 279 86) ≤ x4 → x3 = 0 ∨ x3 = 1)
    (h2 : (hi 279 86) ≤ x4 → Q (some (.int x3)) (mkH hi hl sw kp))
    (h3 : ¬ ((hi 279 86) ≤ x4) → x3 = 0 → x3 = 0 ∨ x3 = 1)
    (h4 : ¬ ((hi 279 86) ≤ x4) → x3 = 0 → Q (some (.int x3)) (mkH hi hl sw kp))
    (h5 : ¬ ((hi 279 86) ≤ x4) → ¬ (x3 = 0) → vp_in x4 30)
    (h6 : ¬ ((hi 279 86) ≤ x4) → ¬ (x3 = 0) → (hi 312 x4.toNatClampNeg) = x1 → x2 < (hi 318 x4.toNatClampNeg) → cW cd_268 d Q 5 [some (.ref 279), some (.int x1), some (.int x2), some (.int (1)), some (.int (x4 + (1))), some (.int (0))] [] (mkH hi hl sw kp))
    (h7 : ¬ ((hi 279 86) ≤ x4) → ¬ (x3 = 0) → (hi 312 x4.toNatClampNeg) = x1 → ¬ (x2 < (hi 318 x4.toNatClampNeg)) → (hi 319 x4.toNatClampNeg) < 0 → vp_in (hi 313 x4.toNatClampNeg) 4)
    (h8 : ¬ ((hi 279 86) ≤ x4) → ¬ (x3 = 0) → (hi 312 x4.toNatClampNeg) = x1 → ¬ (x2 < (hi 318 x4.toNatClampNeg)) → (hi 319 x4.toNatClampNeg) < 0 → vp_in (hi 315 x4.toNatClampNeg) 4)
    (h9 : ¬ ((hi 279 86) ≤ x4) → ¬ (x3 = 0) → (hi 312 x4.toNatClampNeg) = x1 → ¬ (x2 < (hi 318 x4.toNatClampNeg)) → (hi 319 x4.toNatClampNeg) < 0 → (((hi 314 x4.toNatClampNeg) * (hi 321 (hi 313 x4.toNatClampNeg).toNatClampNeg)) + ((hi 316 x4.toNatClampNeg) * (hi 321 (hi 315 x4.toNatClampNeg).toNatClampNeg))) = (hi 317 x4.toNatClampNeg) → cW cd_268 d Q 5 [some (.ref 279), some (.int x1), some (.int x2), some (.int (1)), some (.int (x4 + (1))), some (.int (1))] [] (mkH hi hl sw kp))
    (h10 : ¬ ((hi 279 86) ≤ x4) → ¬ (x3 = 0) → (hi 312 x4.toNatClampNeg) = x1 → ¬ (x2 < (hi 318 x4.toNatClampNeg)) → (hi 319 x4.toNatClampNeg) < 0 → ¬ ((((hi 314 x4.toNatClampNeg) * (hi 321 (hi 313 x4.toNatClampNeg).toNatClampNeg)) + ((hi 316 x4.toNatClampNeg) * (hi 321 (hi 315 x4.toNatClampNeg).toNatClampNeg))) = (hi 317 x4.toNatClampNeg)) → cW cd_268 d Q 5 [some (.ref 279), some (.int x1), some (.int x2), some (.int (0)), some (.int (x4 + (1))), some (.int (1))] [] (mkH hi hl sw kp))
    (h11 : ¬ ((hi 279 86) ≤ x4) → ¬ (x3 = 0) → (hi 312 x4.toNatClampNeg) = x1 → ¬ (x2 < (hi 318 x4.toNatClampNeg)) → ¬ ((hi 319 x4.toNatClampNeg) < 0) → (hi 319 x4.toNatClampNeg) ≤ x2 → cW cd_268 d Q 5 [some (.ref 279), some (.int x1), some (.int x2), some (.int (1)), some (.int (x4 + (1))), some (.int (0))] [] (mkH hi hl sw kp))
    (h12 : ¬ ((hi 279 86) ≤ x4) → ¬ (x3 = 0) → (hi 312 x4.toNatClampNeg) = x1 → ¬ (x2 < (hi 318 x4.toNatClampNeg)) → ¬ ((hi 319 x4.toNatClampNeg) < 0) → ¬ ((hi 319 x4.toNatClampNeg) ≤ x2) → vp_in (hi 313 x4.toNatClampNeg) 4)
    (h13 : ¬ ((hi 279 86) ≤ x4) → ¬ (x3 = 0) → (hi 312 x4.toNatClampNeg) = x1 → ¬ (x2 < (hi 318 x4.toNatClampNeg)) → ¬ ((hi 319 x4.toNatClampNeg) < 0) → ¬ ((hi 319 x4.toNatClampNeg) ≤ x2) → vp_in (hi 315 x4.toNatClampNeg) 4)
    (h14 : ¬ ((hi 279 86) ≤ x4) → ¬ (x3 = 0) → (hi 312 x4.toNatClampNeg) = x1 → ¬ (x2 < (hi 318 x4.toNatClampNeg)) → ¬ ((hi 319 x4.toNatClampNeg) < 0) → ¬ ((hi 319 x4.toNatClampNeg) ≤ x2) → (((hi 314 x4.toNatClampNeg) * (hi 321 (hi 313 x4.toNatClampNeg).toNatClampNeg)) + ((hi 316 x4.toNatClampNeg) * (hi 321 (hi 315 x4.toNatClampNeg).toNatClampNeg))) = (hi 317 x4.toNatClampNeg) → cW cd_268 d Q 5 [some (.ref 279), some (.int x1), some (.int x2), some (.int (1)), some (.int (x4 + (1))), some (.int (1))] [] (mkH hi hl sw kp))
    (h15 : ¬ ((hi 279 86) ≤ x4) → ¬ (x3 = 0) → (hi 312 x4.toNatClampNeg) = x1 → ¬ (x2 < (hi 318 x4.toNatClampNeg)) → ¬ ((hi 319 x4.toNatClampNeg) < 0) → ¬ ((hi 319 x4.toNatClampNeg) ≤ x2) → ¬ ((((hi 314 x4.toNatClampNeg) * (hi 321 (hi 313 x4.toNatClampNeg).toNatClampNeg)) + ((hi 316 x4.toNatClampNeg) * (hi 321 (hi 315 x4.toNatClampNeg).toNatClampNeg))) = (hi 317 x4.toNatClampNeg)) → cW cd_268 d Q 5 [some (.ref 279), some (.int x1), some (.int x2), some (.int (0)), some (.int (x4 + (1))), some (.int (1))] [] (mkH hi hl sw kp))
    (h16 : ¬ ((hi 279 86) ≤ x4) → ¬ (x3 = 0) → ¬ ((hi 312 x4.toNatClampNeg) = x1) → cW cd_268 d Q 5 [some (.ref 279), some (.int x1), some (.int x2), some (.int (1)), some (.int (x4 + (1))), some (.int (0))] [] (mkH hi hl sw kp))
    : cW cd_268 d Q 5 [some (.ref 279), some (.int x1), some (.int x2), some (.int x3), some (.int x4), o5] [] (mkH hi hl sw kp) :=
  cW.run (am_in [5]) 69 (And.intro (fun c1 => (And.intro (h1 c1) (cQ.of (h2 c1)))) (fun c2 => (And.intro (fun c3 => (And.intro (h3 c2 c3) (cQ.of (h4 c2 c3)))) (fun c4 => (And.intro (h5 c2 c4) (And.intro (fun c5 => (And.intro (h5 c2 c4) (And.intro (fun c6 => (And.intro (Nat.le_of_ble_eq_true rfl) (And.intro (fun _ => (And.intro (Nat.le_of_ble_eq_true rfl) (And.intro (Nat.le_of_ble_eq_true rfl) (h6 c2 c4 c5 c6)))) (fun z => absurd (show (0 : Int32) = 0 by decide) z)))) (fun c7 => (And.intro (h5 c2 c4) (And.intro (fun c8 => (And.intro (Nat.le_of_ble_eq_true rfl) (And.intro (fun z => absurd (show (1 : Int32) = 0 from z) (by decide)) (fun _ => (And.intro (h5 c2 c4) (And.intro (h5 c2 c4) (And.intro (h7 c2 c4 c5 c7 c8) (And.intro (h5 c2 c4) (And.intro (h5 c2 c4) (And.intro (h8 c2 c4 c5 c7 c8) (And.intro (h5 c2 c4) (And.intro (fun c9 => (And.intro (Nat.le_of_ble_eq_true rfl) (And.intro (Nat.le_of_ble_eq_true rfl) (h9 c2 c4 c5 c7 c8 c9)))) (fun c10 => (And.intro (Nat.le_of_ble_eq_true rfl) (And.intro (Nat.le_of_ble_eq_true rfl) (h10 c2 c4 c5 c7 c8 c10)))))))))))))))) (fun c11 => (And.intro (h5 c2 c4) (And.intro (fun c12 => (And.intro (Nat.le_of_ble_eq_true rfl) (And.intro (fun _ => (And.intro (Nat.le_of_ble_eq_true rfl) (And.intro (Nat.le_of_ble_eq_true rfl) (h11 c2 c4 c5 c7 c11 c12)))) (fun z => absurd (show (0 : Int32) = 0 by decide) z)))) (fun c13 => (And.intro (Nat.le_of_ble_eq_true rfl) (And.intro (fun z => absurd (show (1 : Int32) = 0 from z) (by decide)) (fun _ => (And.intro (h5 c2 c4) (And.intro (h5 c2 c4) (And.intro (h12 c2 c4 c5 c7 c11 c13) (And.intro (h5 c2 c4) (And.intro (h5 c2 c4) (And.intro (h13 c2 c4 c5 c7 c11 c13) (And.intro (h5 c2 c4) (And.intro (fun c14 => (And.intro (Nat.le_of_ble_eq_true rfl) (And.intro (Nat.le_of_ble_eq_true rfl) (h14 c2 c4 c5 c7 c11 c13 c14)))) (fun c15 => (And.intro (Nat.le_of_ble_eq_true rfl) (And.intro (Nat.le_of_ble_eq_true rfl) (h15 c2 c4 c5 c7 c11 c13 c15))))))))))))))))))))))))) (fun c16 => (And.intro (Nat.le_of_ble_eq_true rfl) (And.intro (fun _ => (And.intro (Nat.le_of_ble_eq_true rfl) (And.intro (Nat.le_of_ble_eq_true rfl) (h16 c2 c4 c16)))) (fun z => absurd (show (0 : Int32) = 0 by decide) z))))))))))
-- 272: DogDecreesModel.mostOf(I)I
set_option maxRecDepth 100000 in
theorem k_272_0 {x1 : Int32}
    (h1 : cW cd_272 d Q 4 [some (.ref 279), some (.int x1), some (.int (0)), some (.int (0))] [] (mkH hi hl sw kp))
    : cW cd_272 d Q 0 [some (.ref 279), some (.int x1), none, none] [] (mkH hi hl sw kp) :=
  cW.run (am_in [4]) 4 (And.intro (Nat.le_of_ble_eq_true rfl) (And.intro (Nat.le_of_ble_eq_true rfl) (h1)))
theorem e_272 {x1 : Int32}
    (h1 : cW cd_272 d Q 4 [some (.ref 279), some (.int x1), some (.int (0)), some (.int (0))] [] (mkH hi hl sw kp))
    : cS (d + 1) 272 [(.ref 279), (.int x1)] (mkH hi hl sw kp) Q := cS.of rfl (k_272_0 h1)
set_option maxRecDepth 100000 in
theorem k_272_4 {x1 : Int32} {x2 : Int32} {x3 : Int32}
    (h1 : (7) ≤ x3 → Q (some (.int x2)) (mkH hi hl sw kp))
    (h2 : ¬ ((7) ≤ x3) → vp_in (((7) * x1) + x3) 28)
    (h3 : ¬ ((7) ≤ x3) → (hi 320 (((7) * x1) + x3).toNatClampNeg) ≤ x2 → cW cd_272 d Q 4 [some (.ref 279), some (.int x1), some (.int x2), some (.int (x3 + (1)))] [] (mkH hi hl sw kp))
    (h4 : ¬ ((7) ≤ x3) → ¬ ((hi 320 (((7) * x1) + x3).toNatClampNeg) ≤ x2) → cW cd_272 d Q 4 [some (.ref 279), some (.int x1), some (.int (hi 320 (((7) * x1) + x3).toNatClampNeg)), some (.int (x3 + (1)))] [] (mkH hi hl sw kp))
    : cW cd_272 d Q 4 [some (.ref 279), some (.int x1), some (.int x2), some (.int x3)] [] (mkH hi hl sw kp) :=
  cW.run (am_in [4]) 25 (And.intro (fun c1 => (cQ.of (h1 c1))) (fun c2 => (And.intro (h2 c2) (And.intro (fun c3 => (And.intro (Nat.le_of_ble_eq_true rfl) (And.intro (Nat.le_of_ble_eq_true rfl) (h3 c2 c3)))) (fun c4 => (And.intro (h2 c2) (And.intro (Nat.le_of_ble_eq_true rfl) (And.intro (Nat.le_of_ble_eq_true rfl) (h4 c2 c4)))))))))
-- 274: DogDecreesModel.isBox(I)Z
set_option maxRecDepth 100000 in
theorem k_274_0 {x0 : Int32}
    (h1 : x0 < 0 → Q (some (.int (0))) (mkH hi hl sw kp))
    (h2 : ¬ (x0 < 0) → (3) ≤ x0 → Q (some (.int (0))) (mkH hi hl sw kp))
    (h3 : ¬ (x0 < 0) → ¬ ((3) ≤ x0) → Q (some (.int (1))) (mkH hi hl sw kp))
    : cW cd_274 d Q 0 [some (.int x0)] [] (mkH hi hl sw kp) :=
  cW.run (am_in []) 8 (And.intro (fun c1 => (And.intro (Or.inl rfl) (cQ.of (h1 c1)))) (fun c2 => (And.intro (fun c3 => (And.intro (Or.inl rfl) (cQ.of (h2 c2 c3)))) (fun c4 => (And.intro (Or.inr rfl) (cQ.of (h3 c2 c4)))))))
theorem e_274 {x0 : Int32}
    (h1 : x0 < 0 → Q (some (.int (0))) (mkH hi hl sw kp))
    (h2 : ¬ (x0 < 0) → (3) ≤ x0 → Q (some (.int (0))) (mkH hi hl sw kp))
    (h3 : ¬ (x0 < 0) → ¬ ((3) ≤ x0) → Q (some (.int (1))) (mkH hi hl sw kp))
    : cS (d + 1) 274 [(.int x0)] (mkH hi hl sw kp) Q := cS.of rfl (k_274_0 h1 h2 h3)
def g_274 (x0 : Int32) : Int32 := if x0 < 0 then (0) else (if (3) ≤ x0 then (0) else ((1)))
theorem g_274_01 (x0 : Int32) : g_274 x0 = 0 ∨ g_274 x0 = 1 := by
  unfold g_274
  exact (ite01 (Or.inl rfl) (ite01 (Or.inl rfl) (Or.inr rfl)))
set_option maxRecDepth 100000 in
theorem s_274 {x0 : Int32} (w : Q (some (.int (g_274 x0))) (mkH hi hl sw kp)) : cS (d + 1) 274 [(.int x0)] (mkH hi hl sw kp) Q :=
  e_274 (fun c1 => by
      have e : g_274 x0 = (0) := by
        unfold g_274
        rw [if_pos c1]
      rw [e] at w
      exact w) (fun c2 c3 => by
      have e : g_274 x0 = (0) := by
        unfold g_274
        rw [if_neg c2, if_pos c3]
      rw [e] at w
      exact w) (fun c2 c4 => by
      have e : g_274 x0 = (1) := by
        unfold g_274
        rw [if_neg c2, if_neg c4]
      rw [e] at w
      exact w)
-- 277: DogDecreesModel.allBones()I
set_option maxRecDepth 100000 in
theorem k_277_0
    (h1 : cW cd_277 d Q 4 [some (.ref 279), some (.int (0)), some (.int (0))] [] (mkH hi hl sw kp))
    : cW cd_277 d Q 0 [some (.ref 279), none, none] [] (mkH hi hl sw kp) :=
  cW.run (am_in [4]) 4 (And.intro (Nat.le_of_ble_eq_true rfl) (And.intro (Nat.le_of_ble_eq_true rfl) (h1)))
theorem e_277
    (h1 : cW cd_277 d Q 4 [some (.ref 279), some (.int (0)), some (.int (0))] [] (mkH hi hl sw kp))
    : cS (d + 1) 277 [(.ref 279)] (mkH hi hl sw kp) Q := cS.of rfl (k_277_0 h1)
set_option maxRecDepth 100000 in
theorem k_277_4 {x1 : Int32} {x2 : Int32}
    (h1 : (8) ≤ x2 → Q (some (.int x1)) (mkH hi hl sw kp))
    (h2 : ¬ ((8) ≤ x2) → vp_in ((0) + x2) 82)
    (h3 : ¬ ((8) ≤ x2) → cW cd_277 d Q 4 [some (.ref 279), some (.int (x1 + (hi 299 ((0) + x2).toNatClampNeg))), some (.int (x2 + (1)))] [] (mkH hi hl sw kp))
    : cW cd_277 d Q 4 [some (.ref 279), some (.int x1), some (.int x2)] [] (mkH hi hl sw kp) :=
  cW.run (am_in [4]) 14 (And.intro (fun c1 => (cQ.of (h1 c1))) (fun c2 => (And.intro (h2 c2) (And.intro (Nat.le_of_ble_eq_true rfl) (And.intro (Nat.le_of_ble_eq_true rfl) (h3 c2))))))
end BLK
