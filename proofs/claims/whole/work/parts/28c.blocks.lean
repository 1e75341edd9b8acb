/-! ===== blocks of methods, by program ===== -/
section BLK
variable {d : Nat} {Q : am_Q} {hi : Nat → Nat → Int32} {hl : Nat → Nat → Int64} {sw : Bool} {kp : Nat → Nat}
-- 279: java/lang/Integer.bitCount(I)I
set_option maxRecDepth 100000 in
theorem k_279_0 {x0 : Int32}
    (h1 : Q (some (.int ((((((((x0 - (((x0.toUInt32 >>> ((1).toUInt32 &&& Int32.toUInt32 31)).toInt32) &&& (1431655765))) &&& (858993459)) + ((((x0 - (((x0.toUInt32 >>> ((1).toUInt32 &&& Int32.toUInt32 31)).toInt32) &&& (1431655765))).toUInt32 >>> ((2).toUInt32 &&& Int32.toUInt32 31)).toInt32) &&& (858993459))) + (((((x0 - (((x0.toUInt32 >>> ((1).toUInt32 &&& Int32.toUInt32 31)).toInt32) &&& (1431655765))) &&& (858993459)) + ((((x0 - (((x0.toUInt32 >>> ((1).toUInt32 &&& Int32.toUInt32 31)).toInt32) &&& (1431655765))).toUInt32 >>> ((2).toUInt32 &&& Int32.toUInt32 31)).toInt32) &&& (858993459))).toUInt32 >>> ((4).toUInt32 &&& Int32.toUInt32 31)).toInt32)) &&& (252645135)) + (((((((x0 - (((x0.toUInt32 >>> ((1).toUInt32 &&& Int32.toUInt32 31)).toInt32) &&& (1431655765))) &&& (858993459)) + ((((x0 - (((x0.toUInt32 >>> ((1).toUInt32 &&& Int32.toUInt32 31)).toInt32) &&& (1431655765))).toUInt32 >>> ((2).toUInt32 &&& Int32.toUInt32 31)).toInt32) &&& (858993459))) + (((((x0 - (((x0.toUInt32 >>> ((1).toUInt32 &&& Int32.toUInt32 31)).toInt32) &&& (1431655765))) &&& (858993459)) + ((((x0 - (((x0.toUInt32 >>> ((1).toUInt32 &&& Int32.toUInt32 31)).toInt32) &&& (1431655765))).toUInt32 >>> ((2).toUInt32 &&& Int32.toUInt32 31)).toInt32) &&& (858993459))).toUInt32 >>> ((4).toUInt32 &&& Int32.toUInt32 31)).toInt32)) &&& (252645135)).toUInt32 >>> ((8).toUInt32 &&& Int32.toUInt32 31)).toInt32)) + ((((((((x0 - (((x0.toUInt32 >>> ((1).toUInt32 &&& Int32.toUInt32 31)).toInt32) &&& (1431655765))) &&& (858993459)) + ((((x0 - (((x0.toUInt32 >>> ((1).toUInt32 &&& Int32.toUInt32 31)).toInt32) &&& (1431655765))).toUInt32 >>> ((2).toUInt32 &&& Int32.toUInt32 31)).toInt32) &&& (858993459))) + (((((x0 - (((x0.toUInt32 >>> ((1).toUInt32 &&& Int32.toUInt32 31)).toInt32) &&& (1431655765))) &&& (858993459)) + ((((x0 - (((x0.toUInt32 >>> ((1).toUInt32 &&& Int32.toUInt32 31)).toInt32) &&& (1431655765))).toUInt32 >>> ((2).toUInt32 &&& Int32.toUInt32 31)).toInt32) &&& (858993459))).toUInt32 >>> ((4).toUInt32 &&& Int32.toUInt32 31)).toInt32)) &&& (252645135)) + (((((((x0 - (((x0.toUInt32 >>> ((1).toUInt32 &&& Int32.toUInt32 31)).toInt32) &&& (1431655765))) &&& (858993459)) + ((((x0 - (((x0.toUInt32 >>> ((1).toUInt32 &&& Int32.toUInt32 31)).toInt32) &&& (1431655765))).toUInt32 >>> ((2).toUInt32 &&& Int32.toUInt32 31)).toInt32) &&& (858993459))) + (((((x0 - (((x0.toUInt32 >>> ((1).toUInt32 &&& Int32.toUInt32 31)).toInt32) &&& (1431655765))) &&& (858993459)) + ((((x0 - (((x0.toUInt32 >>> ((1).toUInt32 &&& Int32.toUInt32 31)).toInt32) &&& (1431655765))).toUInt32 >>> ((2).toUInt32 &&& Int32.toUInt32 31)).toInt32) &&& (858993459))).toUInt32 >>> ((4).toUInt32 &&& Int32.toUInt32 31)).toInt32)) &&& (252645135)).toUInt32 >>> ((8).toUInt32 &&& Int32.toUInt32 31)).toInt32)).toUInt32 >>> ((16).toUInt32 &&& Int32.toUInt32 31)).toInt32)) &&& (63)))) (mkH hi hl sw kp))
    : cW cd_279 d Q 0 [some (.int x0)] [] (mkH hi hl sw kp) :=
  cW.run (am_in []) 42 (And.intro (Nat.le_of_ble_eq_true rfl) (And.intro (Nat.le_of_ble_eq_true rfl) (And.intro (Nat.le_of_ble_eq_true rfl) (And.intro (Nat.le_of_ble_eq_true rfl) (And.intro (Nat.le_of_ble_eq_true rfl) (cQ.of (h1)))))))
theorem e_279 {x0 : Int32}
    (h1 : Q (some (.int ((((((((x0 - (((x0.toUInt32 >>> ((1).toUInt32 &&& Int32.toUInt32 31)).toInt32) &&& (1431655765))) &&& (858993459)) + ((((x0 - (((x0.toUInt32 >>> ((1).toUInt32 &&& Int32.toUInt32 31)).toInt32) &&& (1431655765))).toUInt32 >>> ((2).toUInt32 &&& Int32.toUInt32 31)).toInt32) &&& (858993459))) + (((((x0 - (((x0.toUInt32 >>> ((1).toUInt32 &&& Int32.toUInt32 31)).toInt32) &&& (1431655765))) &&& (858993459)) + ((((x0 - (((x0.toUInt32 >>> ((1).toUInt32 &&& Int32.toUInt32 31)).toInt32) &&& (1431655765))).toUInt32 >>> ((2).toUInt32 &&& Int32.toUInt32 31)).toInt32) &&& (858993459))).toUInt32 >>> ((4).toUInt32 &&& Int32.toUInt32 31)).toInt32)) &&& (252645135)) + (((((((x0 - (((x0.toUInt32 >>> ((1).toUInt32 &&& Int32.toUInt32 31)).toInt32) &&& (1431655765))) &&& (858993459)) + ((((x0 - (((x0.toUInt32 >>> ((1).toUInt32 &&& Int32.toUInt32 31)).toInt32) &&& (1431655765))).toUInt32 >>> ((2).toUInt32 &&& Int32.toUInt32 31)).toInt32) &&& (858993459))) + (((((x0 - (((x0.toUInt32 >>> ((1).toUInt32 &&& Int32.toUInt32 31)).toInt32) &&& (1431655765))) &&& (858993459)) + ((((x0 - (((x0.toUInt32 >>> ((1).toUInt32 &&& Int32.toUInt32 31)).toInt32) &&& (1431655765))).toUInt32 >>> ((2).toUInt32 &&& Int32.toUInt32 31)).toInt32) &&& (858993459))).toUInt32 >>> ((4).toUInt32 &&& Int32.toUInt32 31)).toInt32)) &&& (252645135)).toUInt32 >>> ((8).toUInt32 &&& Int32.toUInt32 31)).toInt32)) + ((((((((x0 - (((x0.toUInt32 >>> ((1).toUInt32 &&& Int32.toUInt32 31)).toInt32) &&& (1431655765))) &&& (858993459)) + ((((x0 - (((x0.toUInt32 >>> ((1).toUInt32 &&& Int32.toUInt32 31)).toInt32) &&& (1431655765))).toUInt32 >>> ((2).toUInt32 &&& Int32.toUInt32 31)).toInt32) &&& (858993459))) + (((((x0 - (((x0.toUInt32 >>> ((1).toUInt32 &&& Int32.toUInt32 31)).toInt32) &&& (1431655765))) &&& (858993459)) + ((((x0 - (((x0.toUInt32 >>> ((1).toUInt32 &&& Int32.toUInt32 31)).toInt32) &&& (1431655765))).toUInt32 >>> ((2).toUInt32 &&& Int32.toUInt32 31)).toInt32) &&& (858993459))).toUInt32 >>> ((4).toUInt32 &&& Int32.toUInt32 31)).toInt32)) &&& (252645135)) + (((((((x0 - (((x0.toUInt32 >>> ((1).toUInt32 &&& Int32.toUInt32 31)).toInt32) &&& (1431655765))) &&& (858993459)) + ((((x0 - (((x0.toUInt32 >>> ((1).toUInt32 &&& Int32.toUInt32 31)).toInt32) &&& (1431655765))).toUInt32 >>> ((2).toUInt32 &&& Int32.toUInt32 31)).toInt32) &&& (858993459))) + (((((x0 - (((x0.toUInt32 >>> ((1).toUInt32 &&& Int32.toUInt32 31)).toInt32) &&& (1431655765))) &&& (858993459)) + ((((x0 - (((x0.toUInt32 >>> ((1).toUInt32 &&& Int32.toUInt32 31)).toInt32) &&& (1431655765))).toUInt32 >>> ((2).toUInt32 &&& Int32.toUInt32 31)).toInt32) &&& (858993459))).toUInt32 >>> ((4).toUInt32 &&& Int32.toUInt32 31)).toInt32)) &&& (252645135)).toUInt32 >>> ((8).toUInt32 &&& Int32.toUInt32 31)).toInt32)).toUInt32 >>> ((16).toUInt32 &&& Int32.toUInt32 31)).toInt32)) &&& (63)))) (mkH hi hl sw kp))
    : cS (d + 1) 279 [(.int x0)] (mkH hi hl sw kp) Q := cS.of rfl (k_279_0 h1)
def g_279 (x0 : Int32) : Int32 := ((((((((x0 - (((x0.toUInt32 >>> ((1).toUInt32 &&& Int32.toUInt32 31)).toInt32) &&& (1431655765))) &&& (858993459)) + ((((x0 - (((x0.toUInt32 >>> ((1).toUInt32 &&& Int32.toUInt32 31)).toInt32) &&& (1431655765))).toUInt32 >>> ((2).toUInt32 &&& Int32.toUInt32 31)).toInt32) &&& (858993459))) + (((((x0 - (((x0.toUInt32 >>> ((1).toUInt32 &&& Int32.toUInt32 31)).toInt32) &&& (1431655765))) &&& (858993459)) + ((((x0 - (((x0.toUInt32 >>> ((1).toUInt32 &&& Int32.toUInt32 31)).toInt32) &&& (1431655765))).toUInt32 >>> ((2).toUInt32 &&& Int32.toUInt32 31)).toInt32) &&& (858993459))).toUInt32 >>> ((4).toUInt32 &&& Int32.toUInt32 31)).toInt32)) &&& (252645135)) + (((((((x0 - (((x0.toUInt32 >>> ((1).toUInt32 &&& Int32.toUInt32 31)).toInt32) &&& (1431655765))) &&& (858993459)) + ((((x0 - (((x0.toUInt32 >>> ((1).toUInt32 &&& Int32.toUInt32 31)).toInt32) &&& (1431655765))).toUInt32 >>> ((2).toUInt32 &&& Int32.toUInt32 31)).toInt32) &&& (858993459))) + (((((x0 - (((x0.toUInt32 >>> ((1).toUInt32 &&& Int32.toUInt32 31)).toInt32) &&& (1431655765))) &&& (858993459)) + ((((x0 - (((x0.toUInt32 >>> ((1).toUInt32 &&& Int32.toUInt32 31)).toInt32) &&& (1431655765))).toUInt32 >>> ((2).toUInt32 &&& Int32.toUInt32 31)).toInt32) &&& (858993459))).toUInt32 >>> ((4).toUInt32 &&& Int32.toUInt32 31)).toInt32)) &&& (252645135)).toUInt32 >>> ((8).toUInt32 &&& Int32.toUInt32 31)).toInt32)) + ((((((((x0 - (((x0.toUInt32 >>> ((1).toUInt32 &&& Int32.toUInt32 31)).toInt32) &&& (1431655765))) &&& (858993459)) + ((((x0 - (((x0.toUInt32 >>> ((1).toUInt32 &&& Int32.toUInt32 31)).toInt32) &&& (1431655765))).toUInt32 >>> ((2).toUInt32 &&& Int32.toUInt32 31)).toInt32) &&& (858993459))) + (((((x0 - (((x0.toUInt32 >>> ((1).toUInt32 &&& Int32.toUInt32 31)).toInt32) &&& (1431655765))) &&& (858993459)) + ((((x0 - (((x0.toUInt32 >>> ((1).toUInt32 &&& Int32.toUInt32 31)).toInt32) &&& (1431655765))).toUInt32 >>> ((2).toUInt32 &&& Int32.toUInt32 31)).toInt32) &&& (858993459))).toUInt32 >>> ((4).toUInt32 &&& Int32.toUInt32 31)).toInt32)) &&& (252645135)) + (((((((x0 - (((x0.toUInt32 >>> ((1).toUInt32 &&& Int32.toUInt32 31)).toInt32) &&& (1431655765))) &&& (858993459)) + ((((x0 - (((x0.toUInt32 >>> ((1).toUInt32 &&& Int32.toUInt32 31)).toInt32) &&& (1431655765))).toUInt32 >>> ((2).toUInt32 &&& Int32.toUInt32 31)).toInt32) &&& (858993459))) + (((((x0 - (((x0.toUInt32 >>> ((1).toUInt32 &&& Int32.toUInt32 31)).toInt32) &&& (1431655765))) &&& (858993459)) + ((((x0 - (((x0.toUInt32 >>> ((1).toUInt32 &&& Int32.toUInt32 31)).toInt32) &&& (1431655765))).toUInt32 >>> ((2).toUInt32 &&& Int32.toUInt32 31)).toInt32) &&& (858993459))).toUInt32 >>> ((4).toUInt32 &&& Int32.toUInt32 31)).toInt32)) &&& (252645135)).toUInt32 >>> ((8).toUInt32 &&& Int32.toUInt32 31)).toInt32)).toUInt32 >>> ((16).toUInt32 &&& Int32.toUInt32 31)).toInt32)) &&& (63))
set_option maxRecDepth 100000 in
theorem s_279 {x0 : Int32} (w : Q (some (.int (g_279 x0))) (mkH hi hl sw kp)) : cS (d + 1) 279 [(.int x0)] (mkH hi hl sw kp) Q :=
  e_279 (by
      have e : g_279 x0 = ((((((((x0 - (((x0.toUInt32 >>> ((1).toUInt32 &&& Int32.toUInt32 31)).toInt32) &&& (1431655765))) &&& (858993459)) + ((((x0 - (((x0.toUInt32 >>> ((1).toUInt32 &&& Int32.toUInt32 31)).toInt32) &&& (1431655765))).toUInt32 >>> ((2).toUInt32 &&& Int32.toUInt32 31)).toInt32) &&& (858993459))) + (((((x0 - (((x0.toUInt32 >>> ((1).toUInt32 &&& Int32.toUInt32 31)).toInt32) &&& (1431655765))) &&& (858993459)) + ((((x0 - (((x0.toUInt32 >>> ((1).toUInt32 &&& Int32.toUInt32 31)).toInt32) &&& (1431655765))).toUInt32 >>> ((2).toUInt32 &&& Int32.toUInt32 31)).toInt32) &&& (858993459))).toUInt32 >>> ((4).toUInt32 &&& Int32.toUInt32 31)).toInt32)) &&& (252645135)) + (((((((x0 - (((x0.toUInt32 >>> ((1).toUInt32 &&& Int32.toUInt32 31)).toInt32) &&& (1431655765))) &&& (858993459)) + ((((x0 - (((x0.toUInt32 >>> ((1).toUInt32 &&& Int32.toUInt32 31)).toInt32) &&& (1431655765))).toUInt32 >>> ((2).toUInt32 &&& Int32.toUInt32 31)).toInt32) &&& (858993459))) + (((((x0 - (((x0.toUInt32 >>> ((1).toUInt32 &&& Int32.toUInt32 31)).toInt32) &&& (1431655765))) &&& (858993459)) + ((((x0 - (((x0.toUInt32 >>> ((1).toUInt32 &&& Int32.toUInt32 31)).toInt32) &&& (1431655765))).toUInt32 >>> ((2).toUInt32 &&& Int32.toUInt32 31)).toInt32) &&& (858993459))).toUInt32 >>> ((4).toUInt32 &&& Int32.toUInt32 31)).toInt32)) &&& (252645135)).toUInt32 >>> ((8).toUInt32 &&& Int32.toUInt32 31)).toInt32)) + ((((((((x0 - (((x0.toUInt32 >>> ((1).toUInt32 &&& Int32.toUInt32 31)).toInt32) &&& (1431655765))) &&& (858993459)) + ((((x0 - (((x0.toUInt32 >>> ((1).toUInt32 &&& Int32.toUInt32 31)).toInt32) &&& (1431655765))).toUInt32 >>> ((2).toUInt32 &&& Int32.toUInt32 31)).toInt32) &&& (858993459))) + (((((x0 - (((x0.toUInt32 >>> ((1).toUInt32 &&& Int32.toUInt32 31)).toInt32) &&& (1431655765))) &&& (858993459)) + ((((x0 - (((x0.toUInt32 >>> ((1).toUInt32 &&& Int32.toUInt32 31)).toInt32) &&& (1431655765))).toUInt32 >>> ((2).toUInt32 &&& Int32.toUInt32 31)).toInt32) &&& (858993459))).toUInt32 >>> ((4).toUInt32 &&& Int32.toUInt32 31)).toInt32)) &&& (252645135)) + (((((((x0 - (((x0.toUInt32 >>> ((1).toUInt32 &&& Int32.toUInt32 31)).toInt32) &&& (1431655765))) &&& (858993459)) + ((((x0 - (((x0.toUInt32 >>> ((1).toUInt32 &&& Int32.toUInt32 31)).toInt32) &&& (1431655765))).toUInt32 >>> ((2).toUInt32 &&& Int32.toUInt32 31)).toInt32) &&& (858993459))) + (((((x0 - (((x0.toUInt32 >>> ((1).toUInt32 &&& Int32.toUInt32 31)).toInt32) &&& (1431655765))) &&& (858993459)) + ((((x0 - (((x0.toUInt32 >>> ((1).toUInt32 &&& Int32.toUInt32 31)).toInt32) &&& (1431655765))).toUInt32 >>> ((2).toUInt32 &&& Int32.toUInt32 31)).toInt32) &&& (858993459))).toUInt32 >>> ((4).toUInt32 &&& Int32.toUInt32 31)).toInt32)) &&& (252645135)).toUInt32 >>> ((8).toUInt32 &&& Int32.toUInt32 31)).toInt32)).toUInt32 >>> ((16).toUInt32 &&& Int32.toUInt32 31)).toInt32)) &&& (63)) := by
        unfold g_279
        rfl
      rw [e] at w
      exact w)
-- 286_261: java/util/Arrays.fill([JJ)V
set_option maxRecDepth 100000 in
theorem k_286_261_0 {x1 : Int64}
    (h1 : cW cd_286 d Q 6 [some (.ref 261), some (.long x1), none, some (.int (0)), some (.int (Int32.ofNat 248))] [] (mkH hi hl sw kp))
    : cW cd_286 d Q 0 [some (.ref 261), some (.long x1), none, none, none] [] (mkH hi hl sw kp) :=
  cW.run (am_in [6]) 5 (And.intro (Nat.le_of_ble_eq_true rfl) (And.intro (Nat.le_of_ble_eq_true rfl) (h1)))
theorem e_286_261 {x1 : Int64}
    (h1 : cW cd_286 d Q 6 [some (.ref 261), some (.long x1), none, some (.int (0)), some (.int (Int32.ofNat 248))] [] (mkH hi hl sw kp))
    : cS (d + 1) 286 [(.ref 261), (.long x1)] (mkH hi hl sw kp) Q := cS.of rfl (k_286_261_0 h1)
set_option maxRecDepth 100000 in
theorem k_286_261_6 {x1 : Int64} {x3 : Int32} {x4 : Int32}
    (h1 : x4 ≤ x3 → Q none (mkH hi hl sw kp))
    (h2 : ¬ (x4 ≤ x3) → vp_in x3 248)
    (h3 : ¬ (x4 ≤ x3) → cW cd_286 d Q 6 [some (.ref 261), some (.long x1), none, some (.int (x3 + (1))), some (.int x4)] [] (mkH hi (u2 hl 261 x3.toNatClampNeg x1) sw kp))
    : cW cd_286 d Q 6 [some (.ref 261), some (.long x1), none, some (.int x3), some (.int x4)] [] (mkH hi hl sw kp) :=
  cW.run (am_in [6]) 9 (And.intro (fun c1 => (cQ.of (h1 c1))) (fun c2 => (And.intro (h2 c2) (And.intro (Nat.le_of_ble_eq_true rfl) (h3 c2)))))
-- 286_262: java/util/Arrays.fill([JJ)V
set_option maxRecDepth 100000 in
theorem k_286_262_0 {x1 : Int64}
    (h1 : cW cd_286 d Q 6 [some (.ref 262), some (.long x1), none, some (.int (0)), some (.int (Int32.ofNat 248))] [] (mkH hi hl sw kp))
    : cW cd_286 d Q 0 [some (.ref 262), some (.long x1), none, none, none] [] (mkH hi hl sw kp) :=
  cW.run (am_in [6]) 5 (And.intro (Nat.le_of_ble_eq_true rfl) (And.intro (Nat.le_of_ble_eq_true rfl) (h1)))
theorem e_286_262 {x1 : Int64}
    (h1 : cW cd_286 d Q 6 [some (.ref 262), some (.long x1), none, some (.int (0)), some (.int (Int32.ofNat 248))] [] (mkH hi hl sw kp))
    : cS (d + 1) 286 [(.ref 262), (.long x1)] (mkH hi hl sw kp) Q := cS.of rfl (k_286_262_0 h1)
set_option maxRecDepth 100000 in
theorem k_286_262_6 {x1 : Int64} {x3 : Int32} {x4 : Int32}
    (h1 : x4 ≤ x3 → Q none (mkH hi hl sw kp))
    (h2 : ¬ (x4 ≤ x3) → vp_in x3 248)
    (h3 : ¬ (x4 ≤ x3) → cW cd_286 d Q 6 [some (.ref 262), some (.long x1), none, some (.int (x3 + (1))), some (.int x4)] [] (mkH hi (u2 hl 262 x3.toNatClampNeg x1) sw kp))
    : cW cd_286 d Q 6 [some (.ref 262), some (.long x1), none, some (.int x3), some (.int x4)] [] (mkH hi hl sw kp) :=
  cW.run (am_in [6]) 9 (And.intro (fun c1 => (cQ.of (h1 c1))) (fun c2 => (And.intro (h2 c2) (And.intro (Nat.le_of_ble_eq_true rfl) (h3 c2)))))
-- 286_263: java/util/Arrays.fill([JJ)V
set_option maxRecDepth 100000 in
theorem k_286_263_0 {x1 : Int64}
    (h1 : cW cd_286 d Q 6 [some (.ref 263), some (.long x1), none, some (.int (0)), some (.int (Int32.ofNat 8))] [] (mkH hi hl sw kp))
    : cW cd_286 d Q 0 [some (.ref 263), some (.long x1), none, none, none] [] (mkH hi hl sw kp) :=
  cW.run (am_in [6]) 5 (And.intro (Nat.le_of_ble_eq_true rfl) (And.intro (Nat.le_of_ble_eq_true rfl) (h1)))
theorem e_286_263 {x1 : Int64}
    (h1 : cW cd_286 d Q 6 [some (.ref 263), some (.long x1), none, some (.int (0)), some (.int (Int32.ofNat 8))] [] (mkH hi hl sw kp))
    : cS (d + 1) 286 [(.ref 263), (.long x1)] (mkH hi hl sw kp) Q := cS.of rfl (k_286_263_0 h1)
set_option maxRecDepth 100000 in
theorem k_286_263_6 {x1 : Int64} {x3 : Int32} {x4 : Int32}
    (h1 : x4 ≤ x3 → Q none (mkH hi hl sw kp))
    (h2 : ¬ (x4 ≤ x3) → vp_in x3 8)
    (h3 : ¬ (x4 ≤ x3) → cW cd_286 d Q 6 [some (.ref 263), some (.long x1), none, some (.int (x3 + (1))), some (.int x4)] [] (mkH hi (u2 hl 263 x3.toNatClampNeg x1) sw kp))
    : cW cd_286 d Q 6 [some (.ref 263), some (.long x1), none, some (.int x3), some (.int x4)] [] (mkH hi hl sw kp) :=
  cW.run (am_in [6]) 9 (And.intro (fun c1 => (cQ.of (h1 c1))) (fun c2 => (And.intro (h2 c2) (And.intro (Nat.le_of_ble_eq_true rfl) (h3 c2)))))
-- 287_8: java/util/Arrays.fill([II)V
set_option maxRecDepth 100000 in
theorem k_287_8_0 {x1 : Int32}
    (h1 : cW cd_287 d Q 5 [some (.ref 8), some (.int x1), some (.int (0)), some (.int (Int32.ofNat 8))] [] (mkH hi hl sw kp))
    : cW cd_287 d Q 0 [some (.ref 8), some (.int x1), none, none] [] (mkH hi hl sw kp) :=
  cW.run (am_in [5]) 5 (And.intro (Nat.le_of_ble_eq_true rfl) (And.intro (Nat.le_of_ble_eq_true rfl) (h1)))
theorem e_287_8 {x1 : Int32}
    (h1 : cW cd_287 d Q 5 [some (.ref 8), some (.int x1), some (.int (0)), some (.int (Int32.ofNat 8))] [] (mkH hi hl sw kp))
    : cS (d + 1) 287 [(.ref 8), (.int x1)] (mkH hi hl sw kp) Q := cS.of rfl (k_287_8_0 h1)
set_option maxRecDepth 100000 in
theorem k_287_8_5 {x1 : Int32} {x2 : Int32} {x3 : Int32}
    (h1 : x3 ≤ x2 → Q none (mkH hi hl sw kp))
    (h2 : ¬ (x3 ≤ x2) → vp_in x2 8)
    (h3 : ¬ (x3 ≤ x2) → cW cd_287 d Q 5 [some (.ref 8), some (.int x1), some (.int (x2 + (1))), some (.int x3)] [] (mkH (u2 hi 8 x2.toNatClampNeg x1) hl sw kp))
    : cW cd_287 d Q 5 [some (.ref 8), some (.int x1), some (.int x2), some (.int x3)] [] (mkH hi hl sw kp) :=
  cW.run (am_in [5]) 9 (And.intro (fun c1 => (cQ.of (h1 c1))) (fun c2 => (And.intro (h2 c2) (And.intro (Nat.le_of_ble_eq_true rfl) (h3 c2)))))
-- 287_10: java/util/Arrays.fill([II)V
set_option maxRecDepth 100000 in
theorem k_287_10_0 {x1 : Int32}
    (h1 : cW cd_287 d Q 5 [some (.ref 10), some (.int x1), some (.int (0)), some (.int (Int32.ofNat 16))] [] (mkH hi hl sw kp))
    : cW cd_287 d Q 0 [some (.ref 10), some (.int x1), none, none] [] (mkH hi hl sw kp) :=
  cW.run (am_in [5]) 5 (And.intro (Nat.le_of_ble_eq_true rfl) (And.intro (Nat.le_of_ble_eq_true rfl) (h1)))
theorem e_287_10 {x1 : Int32}
    (h1 : cW cd_287 d Q 5 [some (.ref 10), some (.int x1), some (.int (0)), some (.int (Int32.ofNat 16))] [] (mkH hi hl sw kp))
    : cS (d + 1) 287 [(.ref 10), (.int x1)] (mkH hi hl sw kp) Q := cS.of rfl (k_287_10_0 h1)
set_option maxRecDepth 100000 in
theorem k_287_10_5 {x1 : Int32} {x2 : Int32} {x3 : Int32}
    (h1 : x3 ≤ x2 → Q none (mkH hi hl sw kp))
    (h2 : ¬ (x3 ≤ x2) → vp_in x2 16)
    (h3 : ¬ (x3 ≤ x2) → cW cd_287 d Q 5 [some (.ref 10), some (.int x1), some (.int (x2 + (1))), some (.int x3)] [] (mkH (u2 hi 10 x2.toNatClampNeg x1) hl sw kp))
    : cW cd_287 d Q 5 [some (.ref 10), some (.int x1), some (.int x2), some (.int x3)] [] (mkH hi hl sw kp) :=
  cW.run (am_in [5]) 9 (And.intro (fun c1 => (cQ.of (h1 c1))) (fun c2 => (And.intro (h2 c2) (And.intro (Nat.le_of_ble_eq_true rfl) (h3 c2)))))
-- 287_29: java/util/Arrays.fill([II)V
set_option maxRecDepth 100000 in
theorem k_287_29_0 {x1 : Int32}
    (h1 : cW cd_287 d Q 5 [some (.ref 29), some (.int x1), some (.int (0)), some (.int (Int32.ofNat 8))] [] (mkH hi hl sw kp))
    : cW cd_287 d Q 0 [some (.ref 29), some (.int x1), none, none] [] (mkH hi hl sw kp) :=
  cW.run (am_in [5]) 5 (And.intro (Nat.le_of_ble_eq_true rfl) (And.intro (Nat.le_of_ble_eq_true rfl) (h1)))
theorem e_287_29 {x1 : Int32}
    (h1 : cW cd_287 d Q 5 [some (.ref 29), some (.int x1), some (.int (0)), some (.int (Int32.ofNat 8))] [] (mkH hi hl sw kp))
    : cS (d + 1) 287 [(.ref 29), (.int x1)] (mkH hi hl sw kp) Q := cS.of rfl (k_287_29_0 h1)
set_option maxRecDepth 100000 in
theorem k_287_29_5 {x1 : Int32} {x2 : Int32} {x3 : Int32}
    (h1 : x3 ≤ x2 → Q none (mkH hi hl sw kp))
    (h2 : ¬ (x3 ≤ x2) → vp_in x2 8)
    (h3 : ¬ (x3 ≤ x2) → cW cd_287 d Q 5 [some (.ref 29), some (.int x1), some (.int (x2 + (1))), some (.int x3)] [] (mkH (u2 hi 29 x2.toNatClampNeg x1) hl sw kp))
    : cW cd_287 d Q 5 [some (.ref 29), some (.int x1), some (.int x2), some (.int x3)] [] (mkH hi hl sw kp) :=
  cW.run (am_in [5]) 9 (And.intro (fun c1 => (cQ.of (h1 c1))) (fun c2 => (And.intro (h2 c2) (And.intro (Nat.le_of_ble_eq_true rfl) (h3 c2)))))
-- 287_30: java/util/Arrays.fill([II)V
set_option maxRecDepth 100000 in
theorem k_287_30_0 {x1 : Int32}
    (h1 : cW cd_287 d Q 5 [some (.ref 30), some (.int x1), some (.int (0)), some (.int (Int32.ofNat 4))] [] (mkH hi hl sw kp))
    : cW cd_287 d Q 0 [some (.ref 30), some (.int x1), none, none] [] (mkH hi hl sw kp) :=
  cW.run (am_in [5]) 5 (And.intro (Nat.le_of_ble_eq_true rfl) (And.intro (Nat.le_of_ble_eq_true rfl) (h1)))
theorem e_287_30 {x1 : Int32}
    (h1 : cW cd_287 d Q 5 [some (.ref 30), some (.int x1), some (.int (0)), some (.int (Int32.ofNat 4))] [] (mkH hi hl sw kp))
    : cS (d + 1) 287 [(.ref 30), (.int x1)] (mkH hi hl sw kp) Q := cS.of rfl (k_287_30_0 h1)
set_option maxRecDepth 100000 in
theorem k_287_30_5 {x1 : Int32} {x2 : Int32} {x3 : Int32}
    (h1 : x3 ≤ x2 → Q none (mkH hi hl sw kp))
    (h2 : ¬ (x3 ≤ x2) → vp_in x2 4)
    (h3 : ¬ (x3 ≤ x2) → cW cd_287 d Q 5 [some (.ref 30), some (.int x1), some (.int (x2 + (1))), some (.int x3)] [] (mkH (u2 hi 30 x2.toNatClampNeg x1) hl sw kp))
    : cW cd_287 d Q 5 [some (.ref 30), some (.int x1), some (.int x2), some (.int x3)] [] (mkH hi hl sw kp) :=
  cW.run (am_in [5]) 9 (And.intro (fun c1 => (cQ.of (h1 c1))) (fun c2 => (And.intro (h2 c2) (And.intro (Nat.le_of_ble_eq_true rfl) (h3 c2)))))
-- 287_31: java/util/Arrays.fill([II)V
set_option maxRecDepth 100000 in
theorem k_287_31_0 {x1 : Int32}
    (h1 : cW cd_287 d Q 5 [some (.ref 31), some (.int x1), some (.int (0)), some (.int (Int32.ofNat 4))] [] (mkH hi hl sw kp))
    : cW cd_287 d Q 0 [some (.ref 31), some (.int x1), none, none] [] (mkH hi hl sw kp) :=
  cW.run (am_in [5]) 5 (And.intro (Nat.le_of_ble_eq_true rfl) (And.intro (Nat.le_of_ble_eq_true rfl) (h1)))
theorem e_287_31 {x1 : Int32}
    (h1 : cW cd_287 d Q 5 [some (.ref 31), some (.int x1), some (.int (0)), some (.int (Int32.ofNat 4))] [] (mkH hi hl sw kp))
    : cS (d + 1) 287 [(.ref 31), (.int x1)] (mkH hi hl sw kp) Q := cS.of rfl (k_287_31_0 h1)
set_option maxRecDepth 100000 in
theorem k_287_31_5 {x1 : Int32} {x2 : Int32} {x3 : Int32}
    (h1 : x3 ≤ x2 → Q none (mkH hi hl sw kp))
    (h2 : ¬ (x3 ≤ x2) → vp_in x2 4)
    (h3 : ¬ (x3 ≤ x2) → cW cd_287 d Q 5 [some (.ref 31), some (.int x1), some (.int (x2 + (1))), some (.int x3)] [] (mkH (u2 hi 31 x2.toNatClampNeg x1) hl sw kp))
    : cW cd_287 d Q 5 [some (.ref 31), some (.int x1), some (.int x2), some (.int x3)] [] (mkH hi hl sw kp) :=
  cW.run (am_in [5]) 9 (And.intro (fun c1 => (cQ.of (h1 c1))) (fun c2 => (And.intro (h2 c2) (And.intro (Nat.le_of_ble_eq_true rfl) (h3 c2)))))
-- 287_257: java/util/Arrays.fill([II)V
set_option maxRecDepth 100000 in
theorem k_287_257_0 {x1 : Int32}
    (h1 : cW cd_287 d Q 5 [some (.ref 257), some (.int x1), some (.int (0)), some (.int (Int32.ofNat 8))] [] (mkH hi hl sw kp))
    : cW cd_287 d Q 0 [some (.ref 257), some (.int x1), none, none] [] (mkH hi hl sw kp) :=
  cW.run (am_in [5]) 5 (And.intro (Nat.le_of_ble_eq_true rfl) (And.intro (Nat.le_of_ble_eq_true rfl) (h1)))
theorem e_287_257 {x1 : Int32}
    (h1 : cW cd_287 d Q 5 [some (.ref 257), some (.int x1), some (.int (0)), some (.int (Int32.ofNat 8))] [] (mkH hi hl sw kp))
    : cS (d + 1) 287 [(.ref 257), (.int x1)] (mkH hi hl sw kp) Q := cS.of rfl (k_287_257_0 h1)
set_option maxRecDepth 100000 in
theorem k_287_257_5 {x1 : Int32} {x2 : Int32} {x3 : Int32}
    (h1 : x3 ≤ x2 → Q none (mkH hi hl sw kp))
    (h2 : ¬ (x3 ≤ x2) → vp_in x2 8)
    (h3 : ¬ (x3 ≤ x2) → cW cd_287 d Q 5 [some (.ref 257), some (.int x1), some (.int (x2 + (1))), some (.int x3)] [] (mkH (u2 hi 257 x2.toNatClampNeg x1) hl sw kp))
    : cW cd_287 d Q 5 [some (.ref 257), some (.int x1), some (.int x2), some (.int x3)] [] (mkH hi hl sw kp) :=
  cW.run (am_in [5]) 9 (And.intro (fun c1 => (cQ.of (h1 c1))) (fun c2 => (And.intro (h2 c2) (And.intro (Nat.le_of_ble_eq_true rfl) (h3 c2)))))
-- 287_277: java/util/Arrays.fill([II)V
set_option maxRecDepth 100000 in
theorem k_287_277_0 {x1 : Int32}
    (h1 : cW cd_287 d Q 5 [some (.ref 277), some (.int x1), some (.int (0)), some (.int (Int32.ofNat 28))] [] (mkH hi hl sw kp))
    : cW cd_287 d Q 0 [some (.ref 277), some (.int x1), none, none] [] (mkH hi hl sw kp) :=
  cW.run (am_in [5]) 5 (And.intro (Nat.le_of_ble_eq_true rfl) (And.intro (Nat.le_of_ble_eq_true rfl) (h1)))
theorem e_287_277 {x1 : Int32}
    (h1 : cW cd_287 d Q 5 [some (.ref 277), some (.int x1), some (.int (0)), some (.int (Int32.ofNat 28))] [] (mkH hi hl sw kp))
    : cS (d + 1) 287 [(.ref 277), (.int x1)] (mkH hi hl sw kp) Q := cS.of rfl (k_287_277_0 h1)
set_option maxRecDepth 100000 in
theorem k_287_277_5 {x1 : Int32} {x2 : Int32} {x3 : Int32}
    (h1 : x3 ≤ x2 → Q none (mkH hi hl sw kp))
    (h2 : ¬ (x3 ≤ x2) → vp_in x2 28)
    (h3 : ¬ (x3 ≤ x2) → cW cd_287 d Q 5 [some (.ref 277), some (.int x1), some (.int (x2 + (1))), some (.int x3)] [] (mkH (u2 hi 277 x2.toNatClampNeg x1) hl sw kp))
    : cW cd_287 d Q 5 [some (.ref 277), some (.int x1), some (.int x2), some (.int x3)] [] (mkH hi hl sw kp) :=
  cW.run (am_in [5]) 9 (And.intro (fun c1 => (cQ.of (h1 c1))) (fun c2 => (And.intro (h2 c2) (And.intro (Nat.le_of_ble_eq_true rfl) (h3 c2)))))
-- 287_276: java/util/Arrays.fill([II)V
set_option maxRecDepth 100000 in
theorem k_287_276_0 {x1 : Int32}
    (h1 : cW cd_287 d Q 5 [some (.ref 276), some (.int x1), some (.int (0)), some (.int (Int32.ofNat 4))] [] (mkH hi hl sw kp))
    : cW cd_287 d Q 0 [some (.ref 276), some (.int x1), none, none] [] (mkH hi hl sw kp) :=
  cW.run (am_in [5]) 5 (And.intro (Nat.le_of_ble_eq_true rfl) (And.intro (Nat.le_of_ble_eq_true rfl) (h1)))
theorem e_287_276 {x1 : Int32}
    (h1 : cW cd_287 d Q 5 [some (.ref 276), some (.int x1), some (.int (0)), some (.int (Int32.ofNat 4))] [] (mkH hi hl sw kp))
    : cS (d + 1) 287 [(.ref 276), (.int x1)] (mkH hi hl sw kp) Q := cS.of rfl (k_287_276_0 h1)
set_option maxRecDepth 100000 in
theorem k_287_276_5 {x1 : Int32} {x2 : Int32} {x3 : Int32}
    (h1 : x3 ≤ x2 → Q none (mkH hi hl sw kp))
    (h2 : ¬ (x3 ≤ x2) → vp_in x2 4)
    (h3 : ¬ (x3 ≤ x2) → cW cd_287 d Q 5 [some (.ref 276), some (.int x1), some (.int (x2 + (1))), some (.int x3)] [] (mkH (u2 hi 276 x2.toNatClampNeg x1) hl sw kp))
    : cW cd_287 d Q 5 [some (.ref 276), some (.int x1), some (.int x2), some (.int x3)] [] (mkH hi hl sw kp) :=
  cW.run (am_in [5]) 9 (And.intro (fun c1 => (cQ.of (h1 c1))) (fun c2 => (And.intro (h2 c2) (And.intro (Nat.le_of_ble_eq_true rfl) (h3 c2)))))
-- 2: DogDecrees$Acts.keep(LDogDecrees$State;)V
set_option maxRecDepth 100000 in
theorem k_2_0
    (h1 : (hi 33 1) < (40) → cW cd_2 d Q 13 [some (.ref 33), some (.ref 28)] [] (mkH hi hl sw kp))
    (h2 : ¬ ((hi 33 1) < (40)) → cS d 3 [(.ref 33)] (mkH hi hl sw kp) (am_ret (cW cd_2 d Q) 13 [some (.ref 33), some (.ref 28)] []))
    : cW cd_2 d Q 0 [some (.ref 33), some (.ref 28)] [] (mkH hi hl sw kp) :=
  cW.run (am_in [13, 26]) 6 (And.intro (fun c1 => (h1 c1)) (fun c2 => (cC.of (h2 c2))))
theorem e_2
    (h1 : (hi 33 1) < (40) → cW cd_2 d Q 13 [some (.ref 33), some (.ref 28)] [] (mkH hi hl sw kp))
    (h2 : ¬ ((hi 33 1) < (40)) → cS d 3 [(.ref 33)] (mkH hi hl sw kp) (am_ret (cW cd_2 d Q) 13 [some (.ref 33), some (.ref 28)] []))
    : cS (d + 1) 2 [(.ref 33), (.ref 28)] (mkH hi hl sw kp) Q := cS.of rfl (k_2_0 h1 h2)
set_option maxRecDepth 100000 in
theorem k_2_13
    (h1 : vp_in (hi 33 1) 41)
    (h2 : kp (hi 33 1).toNatClampNeg < 41)
    (h3 : cS d 80 [(.ref (35 + 5 * kp (hi 33 1).toNatClampNeg)), (.ref 28)] (mkH hi hl sw kp) (am_ret (cW cd_2 d Q) 26 [some (.ref 33), some (.ref 28)] []))
    : cW cd_2 d Q 13 [some (.ref 33), some (.ref 28)] [] (mkH hi hl sw kp) :=
  cW.run (am_in [13, 26]) 7 (And.intro (h1) (am_b2 (st_k (h2)) rfl (cC.of (h3))))
set_option maxRecDepth 100000 in
theorem k_2_26
    (h1 : Q none (mkH (u2 (u2 hi 33 1 ((hi 33 1) + (1))) 33 2 (0)) hl sw kp))
    : cW cd_2 d Q 26 [some (.ref 33), some (.ref 28)] [] (mkH hi hl sw kp) :=
  cW.run (am_in [13, 26]) 10 (And.intro rfl (cQ.of (h1)))
-- 4: DogDecrees$Acts.goBack(LDogDecrees$State;)Z
set_option maxRecDepth 100000 in
theorem k_4_0
    (h1 : (hi 33 1) ≤ 0 → Q (some (.int (0))) (mkH hi hl sw kp))
    (h2 : ¬ ((hi 33 1) ≤ 0) → (hi 33 1) ≤ (40) → vp_in (hi 33 1) 41)
    (h3 : ¬ ((hi 33 1) ≤ 0) → (hi 33 1) ≤ (40) → kp (hi 33 1).toNatClampNeg < 41)
    (h4 : ¬ ((hi 33 1) ≤ 0) → (hi 33 1) ≤ (40) → cS d 80 [(.ref (35 + 5 * kp (hi 33 1).toNatClampNeg)), (.ref 28)] (mkH hi hl sw kp) (am_ret (cW cd_4 d Q) 31 [some (.ref 33), some (.ref 28)] []))
    (h5 : ¬ ((hi 33 1) ≤ 0) → ¬ ((hi 33 1) ≤ (40)) → Q (some (.int (0))) (mkH hi hl sw kp))
    : cW cd_4 d Q 0 [some (.ref 33), some (.ref 28)] [] (mkH hi hl sw kp) :=
  cW.run (am_in [31, 64]) 14 (And.intro (fun c1 => (And.intro (Or.inl rfl) (cQ.of (h1 c1)))) (fun c2 => (And.intro (fun c3 => (And.intro (h2 c2 c3) (am_b2 (st_k (h3 c2 c3)) rfl (cC.of (h4 c2 c3))))) (fun c4 => (And.intro (Or.inl rfl) (cQ.of (h5 c2 c4)))))))
theorem e_4
    (h1 : (hi 33 1) ≤ 0 → Q (some (.int (0))) (mkH hi hl sw kp))
    (h2 : ¬ ((hi 33 1) ≤ 0) → (hi 33 1) ≤ (40) → vp_in (hi 33 1) 41)
    (h3 : ¬ ((hi 33 1) ≤ 0) → (hi 33 1) ≤ (40) → kp (hi 33 1).toNatClampNeg < 41)
    (h4 : ¬ ((hi 33 1) ≤ 0) → (hi 33 1) ≤ (40) → cS d 80 [(.ref (35 + 5 * kp (hi 33 1).toNatClampNeg)), (.ref 28)] (mkH hi hl sw kp) (am_ret (cW cd_4 d Q) 31 [some (.ref 33), some (.ref 28)] []))
    (h5 : ¬ ((hi 33 1) ≤ 0) → ¬ ((hi 33 1) ≤ (40)) → Q (some (.int (0))) (mkH hi hl sw kp))
    : cS (d + 1) 4 [(.ref 33), (.ref 28)] (mkH hi hl sw kp) Q := cS.of rfl (k_4_0 h1 h2 h3 h4 h5)
set_option maxRecDepth 100000 in
theorem k_4_31
    (h1 : vp_in ((hi 33 1) - (1)) 41)
    (h2 : cS d 80 [(.ref 28), (.ref (35 + 5 * kp ((hi 33 1) - (1)).toNatClampNeg))] (mkH (u2 (u2 hi 33 1 ((hi 33 1) - (1))) 33 2 ((hi 33 2) + (1))) hl sw kp) (am_ret (cW cd_4 d Q) 64 [some (.ref 33), some (.ref 28)] []))
    : cW cd_4 d Q 31 [some (.ref 33), some (.ref 28)] [] (mkH hi hl sw kp) :=
  cW.run (am_in [31, 64]) 19 (And.intro rfl (And.intro rfl (And.intro (h1) (cC.of (h2)))))
set_option maxRecDepth 100000 in
theorem k_4_64
    (h1 : Q (some (.int (1))) (mkH hi hl sw kp))
    : cW cd_4 d Q 64 [some (.ref 33), some (.ref 28)] [] (mkH hi hl sw kp) :=
  cW.run (am_in [31, 64]) 2 (And.intro (Or.inr rfl) (cQ.of (h1)))
-- 5: DogDecrees$Acts.goOn(LDogDecrees$State;)Z
set_option maxRecDepth 100000 in
theorem k_5_0
    (h1 : (hi 33 2) ≤ 0 → Q (some (.int (0))) (mkH hi hl sw kp))
    (h2 : ¬ ((hi 33 2) ≤ 0) → (hi 33 1) < (40) → vp_in ((hi 33 1) + (1)) 41)
    (h3 : ¬ ((hi 33 2) ≤ 0) → (hi 33 1) < (40) → cS d 80 [(.ref 28), (.ref (35 + 5 * kp ((hi 33 1) + (1)).toNatClampNeg))] (mkH (u2 (u2 hi 33 1 ((hi 33 1) + (1))) 33 2 ((hi 33 2) - (1))) hl sw kp) (am_ret (cW cd_5 d Q) 51 [some (.ref 33), some (.ref 28)] []))
    (h4 : ¬ ((hi 33 2) ≤ 0) → ¬ ((hi 33 1) < (40)) → Q (some (.int (0))) (mkH hi hl sw kp))
    : cW cd_5 d Q 0 [some (.ref 33), some (.ref 28)] [] (mkH hi hl sw kp) :=
  cW.run (am_in [51]) 26 (And.intro (fun c1 => (And.intro (Or.inl rfl) (cQ.of (h1 c1)))) (fun c2 => (And.intro (fun c3 => (And.intro rfl (And.intro rfl (And.intro (h2 c2 c3) (cC.of (h3 c2 c3)))))) (fun c4 => (And.intro (Or.inl rfl) (cQ.of (h4 c2 c4)))))))
theorem e_5
    (h1 : (hi 33 2) ≤ 0 → Q (some (.int (0))) (mkH hi hl sw kp))
    (h2 : ¬ ((hi 33 2) ≤ 0) → (hi 33 1) < (40) → vp_in ((hi 33 1) + (1)) 41)
    (h3 : ¬ ((hi 33 2) ≤ 0) → (hi 33 1) < (40) → cS d 80 [(.ref 28), (.ref (35 + 5 * kp ((hi 33 1) + (1)).toNatClampNeg))] (mkH (u2 (u2 hi 33 1 ((hi 33 1) + (1))) 33 2 ((hi 33 2) - (1))) hl sw kp) (am_ret (cW cd_5 d Q) 51 [some (.ref 33), some (.ref 28)] []))
    (h4 : ¬ ((hi 33 2) ≤ 0) → ¬ ((hi 33 1) < (40)) → Q (some (.int (0))) (mkH hi hl sw kp))
    : cS (d + 1) 5 [(.ref 33), (.ref 28)] (mkH hi hl sw kp) Q := cS.of rfl (k_5_0 h1 h2 h3 h4)
set_option maxRecDepth 100000 in
theorem k_5_51
    (h1 : Q (some (.int (1))) (mkH hi hl sw kp))
    : cW cd_5 d Q 51 [some (.ref 33), some (.ref 28)] [] (mkH hi hl sw kp) :=
  cW.run (am_in [51]) 2 (And.intro (Or.inr rfl) (cQ.of (h1)))
-- 13: DogDecrees$Formula.join(III)I
set_option maxRecDepth 100000 in
theorem k_13_0 {x0 : Int32} {x1 : Int32} {x2 : Int32}
    (h1 : x0 = 37 → x2 = 0 → Q (some (.int (0))) (mkH hi hl sw kp))
    (h2 : x0 = 37 → ¬ (x2 = 0) → ¬ x2 = 0)
    (h3 : x0 = 37 → ¬ (x2 = 0) → Q (some (.int (x1 - x1 / x2 * x2))) (mkH hi hl sw kp))
    (h4 : ¬ x0 = 37 → x0 = 42 → Q (some (.int (x1 * x2))) (mkH hi hl sw kp))
    (h5 : ¬ x0 = 37 → ¬ x0 = 42 → x0 = 43 → Q (some (.int (x1 + x2))) (mkH hi hl sw kp))
    (h6 : ¬ x0 = 37 → ¬ x0 = 42 → ¬ x0 = 43 → x0 = 45 → Q (some (.int (x1 - x2))) (mkH hi hl sw kp))
    (h7 : ¬ x0 = 37 → ¬ x0 = 42 → ¬ x0 = 43 → ¬ x0 = 45 → x0 = 47 → x2 = 0 → Q (some (.int (0))) (mkH hi hl sw kp))
    (h8 : ¬ x0 = 37 → ¬ x0 = 42 → ¬ x0 = 43 → ¬ x0 = 45 → x0 = 47 → ¬ (x2 = 0) → ¬ x2 = 0)
    (h9 : ¬ x0 = 37 → ¬ x0 = 42 → ¬ x0 = 43 → ¬ x0 = 45 → x0 = 47 → ¬ (x2 = 0) → Q (some (.int (x1 / x2))) (mkH hi hl sw kp))
    (h10 : ¬ x0 = 37 → ¬ x0 = 42 → ¬ x0 = 43 → ¬ x0 = 45 → ¬ x0 = 47 → x0 = 60 → x2 ≤ x1 → Q (some (.int (g_14 (0 : Int32)))) (mkH hi hl sw kp))
    (h11 : ¬ x0 = 37 → ¬ x0 = 42 → ¬ x0 = 43 → ¬ x0 = 45 → ¬ x0 = 47 → x0 = 60 → ¬ (x2 ≤ x1) → Q (some (.int (g_14 (1 : Int32)))) (mkH hi hl sw kp))
    (h12 : ¬ x0 = 37 → ¬ x0 = 42 → ¬ x0 = 43 → ¬ x0 = 45 → ¬ x0 = 47 → ¬ x0 = 60 → x0 = 61 → x1 = x2 → Q (some (.int (g_14 (1 : Int32)))) (mkH hi hl sw kp))
    (h13 : ¬ x0 = 37 → ¬ x0 = 42 → ¬ x0 = 43 → ¬ x0 = 45 → ¬ x0 = 47 → ¬ x0 = 60 → x0 = 61 → ¬ (x1 = x2) → Q (some (.int (g_14 (0 : Int32)))) (mkH hi hl sw kp))
    (h14 : ¬ x0 = 37 → ¬ x0 = 42 → ¬ x0 = 43 → ¬ x0 = 45 → ¬ x0 = 47 → ¬ x0 = 60 → ¬ x0 = 61 → x0 = 62 → x1 ≤ x2 → Q (some (.int (g_14 (0 : Int32)))) (mkH hi hl sw kp))
    (h15 : ¬ x0 = 37 → ¬ x0 = 42 → ¬ x0 = 43 → ¬ x0 = 45 → ¬ x0 = 47 → ¬ x0 = 60 → ¬ x0 = 61 → x0 = 62 → ¬ (x1 ≤ x2) → Q (some (.int (g_14 (1 : Int32)))) (mkH hi hl sw kp))
    (h16 : ¬ x0 = 37 → ¬ x0 = 42 → ¬ x0 = 43 → ¬ x0 = 45 → ¬ x0 = 47 → ¬ x0 = 60 → ¬ x0 = 61 → ¬ x0 = 62 → x0 = 216 → x1 = 0 → Q (some (.int (g_14 (0 : Int32)))) (mkH hi hl sw kp))
    (h17 : ¬ x0 = 37 → ¬ x0 = 42 → ¬ x0 = 43 → ¬ x0 = 45 → ¬ x0 = 47 → ¬ x0 = 60 → ¬ x0 = 61 → ¬ x0 = 62 → x0 = 216 → ¬ (x1 = 0) → x2 = 0 → Q (some (.int (g_14 (0 : Int32)))) (mkH hi hl sw kp))
    (h18 : ¬ x0 = 37 → ¬ x0 = 42 → ¬ x0 = 43 → ¬ x0 = 45 → ¬ x0 = 47 → ¬ x0 = 60 → ¬ x0 = 61 → ¬ x0 = 62 → x0 = 216 → ¬ (x1 = 0) → ¬ (x2 = 0) → Q (some (.int (g_14 (1 : Int32)))) (mkH hi hl sw kp))
    (h19 : ¬ x0 = 37 → ¬ x0 = 42 → ¬ x0 = 43 → ¬ x0 = 45 → ¬ x0 = 47 → ¬ x0 = 60 → ¬ x0 = 61 → ¬ x0 = 62 → ¬ x0 = 216 → x1 = 0 → x2 = 0 → Q (some (.int (g_14 (0 : Int32)))) (mkH hi hl sw kp))
    (h20 : ¬ x0 = 37 → ¬ x0 = 42 → ¬ x0 = 43 → ¬ x0 = 45 → ¬ x0 = 47 → ¬ x0 = 60 → ¬ x0 = 61 → ¬ x0 = 62 → ¬ x0 = 216 → x1 = 0 → ¬ (x2 = 0) → Q (some (.int (g_14 (1 : Int32)))) (mkH hi hl sw kp))
    (h21 : ¬ x0 = 37 → ¬ x0 = 42 → ¬ x0 = 43 → ¬ x0 = 45 → ¬ x0 = 47 → ¬ x0 = 60 → ¬ x0 = 61 → ¬ x0 = 62 → ¬ x0 = 216 → ¬ (x1 = 0) → Q (some (.int (g_14 (1 : Int32)))) (mkH hi hl sw kp))
    : cW cd_13 (d + 1) Q 0 [some (.int x0), some (.int x1), some (.int x2)] [] (mkH hi hl sw kp) :=
  cW.run (am_in []) 10 (And.intro (fun c1 => (And.intro (fun c2 => (cQ.of (h1 c1 c2))) (fun c3 => (And.intro (h2 c1 c3) (cQ.of (h3 c1 c3)))))) (fun c4 => (And.intro (fun c5 => (cQ.of (h4 c4 c5))) (fun c6 => (And.intro (fun c7 => (cQ.of (h5 c4 c6 c7))) (fun c8 => (And.intro (fun c9 => (cQ.of (h6 c4 c6 c8 c9))) (fun c10 => (And.intro (fun c11 => (And.intro (fun c12 => (cQ.of (h7 c4 c6 c8 c10 c11 c12))) (fun c13 => (And.intro (h8 c4 c6 c8 c10 c11 c13) (cQ.of (h9 c4 c6 c8 c10 c11 c13)))))) (fun c14 => (And.intro (fun c15 => (And.intro (fun c16 => (cC.of (s_14 (cQ.of (h10 c4 c6 c8 c10 c14 c15 c16))))) (fun c17 => (cC.of (s_14 (cQ.of (h11 c4 c6 c8 c10 c14 c15 c17))))))) (fun c18 => (And.intro (fun c19 => (And.intro (fun c20 => (cC.of (s_14 (cQ.of (h12 c4 c6 c8 c10 c14 c18 c19 c20))))) (fun c21 => (cC.of (s_14 (cQ.of (h13 c4 c6 c8 c10 c14 c18 c19 c21))))))) (fun c22 => (And.intro (fun c23 => (And.intro (fun c24 => (cC.of (s_14 (cQ.of (h14 c4 c6 c8 c10 c14 c18 c22 c23 c24))))) (fun c25 => (cC.of (s_14 (cQ.of (h15 c4 c6 c8 c10 c14 c18 c22 c23 c25))))))) (fun c26 => (And.intro (fun c27 => (And.intro (fun c28 => (cC.of (s_14 (cQ.of (h16 c4 c6 c8 c10 c14 c18 c22 c26 c27 c28))))) (fun c29 => (And.intro (fun c30 => (cC.of (s_14 (cQ.of (h17 c4 c6 c8 c10 c14 c18 c22 c26 c27 c29 c30))))) (fun c31 => (cC.of (s_14 (cQ.of (h18 c4 c6 c8 c10 c14 c18 c22 c26 c27 c29 c31))))))))) (fun c32 => (And.intro (fun c33 => (And.intro (fun c34 => (cC.of (s_14 (cQ.of (h19 c4 c6 c8 c10 c14 c18 c22 c26 c32 c33 c34))))) (fun c35 => (cC.of (s_14 (cQ.of (h20 c4 c6 c8 c10 c14 c18 c22 c26 c32 c33 c35))))))) (fun c36 => (cC.of (s_14 (cQ.of (h21 c4 c6 c8 c10 c14 c18 c22 c26 c32 c36))))))))))))))))))))))))
theorem e_13 {x0 : Int32} {x1 : Int32} {x2 : Int32}
    (h1 : x0 = 37 → x2 = 0 → Q (some (.int (0))) (mkH hi hl sw kp))
    (h2 : x0 = 37 → ¬ (x2 = 0) → ¬ x2 = 0)
    (h3 : x0 = 37 → ¬ (x2 = 0) → Q (some (.int (x1 - x1 / x2 * x2))) (mkH hi hl sw kp))
    (h4 : ¬ x0 = 37 → x0 = 42 → Q (some (.int (x1 * x2))) (mkH hi hl sw kp))
    (h5 : ¬ x0 = 37 → ¬ x0 = 42 → x0 = 43 → Q (some (.int (x1 + x2))) (mkH hi hl sw kp))
    (h6 : ¬ x0 = 37 → ¬ x0 = 42 → ¬ x0 = 43 → x0 = 45 → Q (some (.int (x1 - x2))) (mkH hi hl sw kp))
    (h7 : ¬ x0 = 37 → ¬ x0 = 42 → ¬ x0 = 43 → ¬ x0 = 45 → x0 = 47 → x2 = 0 → Q (some (.int (0))) (mkH hi hl sw kp))
    (h8 : ¬ x0 = 37 → ¬ x0 = 42 → ¬ x0 = 43 → ¬ x0 = 45 → x0 = 47 → ¬ (x2 = 0) → ¬ x2 = 0)
    (h9 : ¬ x0 = 37 → ¬ x0 = 42 → ¬ x0 = 43 → ¬ x0 = 45 → x0 = 47 → ¬ (x2 = 0) → Q (some (.int (x1 / x2))) (mkH hi hl sw kp))
    (h10 : ¬ x0 = 37 → ¬ x0 = 42 → ¬ x0 = 43 → ¬ x0 = 45 → ¬ x0 = 47 → x0 = 60 → x2 ≤ x1 → Q (some (.int (g_14 (0 : Int32)))) (mkH hi hl sw kp))
    (h11 : ¬ x0 = 37 → ¬ x0 = 42 → ¬ x0 = 43 → ¬ x0 = 45 → ¬ x0 = 47 → x0 = 60 → ¬ (x2 ≤ x1) → Q (some (.int (g_14 (1 : Int32)))) (mkH hi hl sw kp))
    (h12 : ¬ x0 = 37 → ¬ x0 = 42 → ¬ x0 = 43 → ¬ x0 = 45 → ¬ x0 = 47 → ¬ x0 = 60 → x0 = 61 → x1 = x2 → Q (some (.int (g_14 (1 : Int32)))) (mkH hi hl sw kp))
    (h13 : ¬ x0 = 37 → ¬ x0 = 42 → ¬ x0 = 43 → ¬ x0 = 45 → ¬ x0 = 47 → ¬ x0 = 60 → x0 = 61 → ¬ (x1 = x2) → Q (some (.int (g_14 (0 : Int32)))) (mkH hi hl sw kp))
    (h14 : ¬ x0 = 37 → ¬ x0 = 42 → ¬ x0 = 43 → ¬ x0 = 45 → ¬ x0 = 47 → ¬ x0 = 60 → ¬ x0 = 61 → x0 = 62 → x1 ≤ x2 → Q (some (.int (g_14 (0 : Int32)))) (mkH hi hl sw kp))
    (h15 : ¬ x0 = 37 → ¬ x0 = 42 → ¬ x0 = 43 → ¬ x0 = 45 → ¬ x0 = 47 → ¬ x0 = 60 → ¬ x0 = 61 → x0 = 62 → ¬ (x1 ≤ x2) → Q (some (.int (g_14 (1 : Int32)))) (mkH hi hl sw kp))
    (h16 : ¬ x0 = 37 → ¬ x0 = 42 → ¬ x0 = 43 → ¬ x0 = 45 → ¬ x0 = 47 → ¬ x0 = 60 → ¬ x0 = 61 → ¬ x0 = 62 → x0 = 216 → x1 = 0 → Q (some (.int (g_14 (0 : Int32)))) (mkH hi hl sw kp))
    (h17 : ¬ x0 = 37 → ¬ x0 = 42 → ¬ x0 = 43 → ¬ x0 = 45 → ¬ x0 = 47 → ¬ x0 = 60 → ¬ x0 = 61 → ¬ x0 = 62 → x0 = 216 → ¬ (x1 = 0) → x2 = 0 → Q (some (.int (g_14 (0 : Int32)))) (mkH hi hl sw kp))
    (h18 : ¬ x0 = 37 → ¬ x0 = 42 → ¬ x0 = 43 → ¬ x0 = 45 → ¬ x0 = 47 → ¬ x0 = 60 → ¬ x0 = 61 → ¬ x0 = 62 → x0 = 216 → ¬ (x1 = 0) → ¬ (x2 = 0) → Q (some (.int (g_14 (1 : Int32)))) (mkH hi hl sw kp))
    (h19 : ¬ x0 = 37 → ¬ x0 = 42 → ¬ x0 = 43 → ¬ x0 = 45 → ¬ x0 = 47 → ¬ x0 = 60 → ¬ x0 = 61 → ¬ x0 = 62 → ¬ x0 = 216 → x1 = 0 → x2 = 0 → Q (some (.int (g_14 (0 : Int32)))) (mkH hi hl sw kp))
    (h20 : ¬ x0 = 37 → ¬ x0 = 42 → ¬ x0 = 43 → ¬ x0 = 45 → ¬ x0 = 47 → ¬ x0 = 60 → ¬ x0 = 61 → ¬ x0 = 62 → ¬ x0 = 216 → x1 = 0 → ¬ (x2 = 0) → Q (some (.int (g_14 (1 : Int32)))) (mkH hi hl sw kp))
    (h21 : ¬ x0 = 37 → ¬ x0 = 42 → ¬ x0 = 43 → ¬ x0 = 45 → ¬ x0 = 47 → ¬ x0 = 60 → ¬ x0 = 61 → ¬ x0 = 62 → ¬ x0 = 216 → ¬ (x1 = 0) → Q (some (.int (g_14 (1 : Int32)))) (mkH hi hl sw kp))
    : cS ((d + 1) + 1) 13 [(.int x0), (.int x1), (.int x2)] (mkH hi hl sw kp) Q := cS.of rfl (k_13_0 h1 h2 h3 h4 h5 h6 h7 h8 h9 h10 h11 h12 h13 h14 h15 h16 h17 h18 h19 h20 h21)
def g_13 (x0 : Int32) (x1 : Int32) (x2 : Int32) : Int32 := if x0 = 37 then if x2 = 0 then (0) else ((x1 - x1 / x2 * x2)) else (if x0 = 42 then (x1 * x2) else (if x0 = 43 then (x1 + x2) else (if x0 = 45 then (x1 - x2) else (if x0 = 47 then if x2 = 0 then (0) else ((x1 / x2)) else (if x0 = 60 then if x2 ≤ x1 then (g_14 (0 : Int32)) else ((g_14 (1 : Int32))) else (if x0 = 61 then if x1 = x2 then (g_14 (1 : Int32)) else ((g_14 (0 : Int32))) else (if x0 = 62 then if x1 ≤ x2 then (g_14 (0 : Int32)) else ((g_14 (1 : Int32))) else (if x0 = 216 then if x1 = 0 then (g_14 (0 : Int32)) else (if x2 = 0 then (g_14 (0 : Int32)) else ((g_14 (1 : Int32)))) else (if x1 = 0 then if x2 = 0 then (g_14 (0 : Int32)) else ((g_14 (1 : Int32))) else ((g_14 (1 : Int32))))))))))))
set_option maxRecDepth 100000 in
theorem s_13 {x0 : Int32} {x1 : Int32} {x2 : Int32} (o1 : x0 = 37 → ¬ (x2 = 0) → ¬ x2 = 0) (o2 : ¬ x0 = 37 → ¬ x0 = 42 → ¬ x0 = 43 → ¬ x0 = 45 → x0 = 47 → ¬ (x2 = 0) → ¬ x2 = 0) (w : Q (some (.int (g_13 x0 x1 x2))) (mkH hi hl sw kp)) : cS ((d + 1) + 1) 13 [(.int x0), (.int x1), (.int x2)] (mkH hi hl sw kp) Q :=
  e_13 (fun c1 c2 => by
      have e : g_13 x0 x1 x2 = (0) := by
        unfold g_13
        rw [if_pos c1, if_pos c2]
      rw [e] at w
      exact w) o1 (fun c1 c3 => by
      have e : g_13 x0 x1 x2 = (x1 - x1 / x2 * x2) := by
        unfold g_13
        rw [if_pos c1, if_neg c3]
      rw [e] at w
      exact w) (fun c4 c5 => by
      have e : g_13 x0 x1 x2 = (x1 * x2) := by
        unfold g_13
        rw [if_neg c4, if_pos c5]
      rw [e] at w
      exact w) (fun c4 c6 c7 => by
      have e : g_13 x0 x1 x2 = (x1 + x2) := by
        unfold g_13
        rw [if_neg c4, if_neg c6, if_pos c7]
      rw [e] at w
      exact w) (fun c4 c6 c8 c9 => by
      have e : g_13 x0 x1 x2 = (x1 - x2) := by
        unfold g_13
        rw [if_neg c4, if_neg c6, if_neg c8, if_pos c9]
      rw [e] at w
      exact w) (fun c4 c6 c8 c10 c11 c12 => by
      have e : g_13 x0 x1 x2 = (0) := by
        unfold g_13
        rw [if_neg c4, if_neg c6, if_neg c8, if_neg c10, if_pos c11, if_pos c12]
      rw [e] at w
      exact w) o2 (fun c4 c6 c8 c10 c11 c13 => by
      have e : g_13 x0 x1 x2 = (x1 / x2) := by
        unfold g_13
        rw [if_neg c4, if_neg c6, if_neg c8, if_neg c10, if_pos c11, if_neg c13]
      rw [e] at w
      exact w) (fun c4 c6 c8 c10 c14 c15 c16 => by
      have e : g_13 x0 x1 x2 = (g_14 (0 : Int32)) := by
        unfold g_13
        rw [if_neg c4, if_neg c6, if_neg c8, if_neg c10, if_neg c14, if_pos c15, if_pos c16]
      rw [e] at w
      exact w) (fun c4 c6 c8 c10 c14 c15 c17 => by
      have e : g_13 x0 x1 x2 = (g_14 (1 : Int32)) := by
        unfold g_13
        rw [if_neg c4, if_neg c6, if_neg c8, if_neg c10, if_neg c14, if_pos c15, if_neg c17]
      rw [e] at w
      exact w) (fun c4 c6 c8 c10 c14 c18 c19 c20 => by
      have e : g_13 x0 x1 x2 = (g_14 (1 : Int32)) := by
        unfold g_13
        rw [if_neg c4, if_neg c6, if_neg c8, if_neg c10, if_neg c14, if_neg c18, if_pos c19, if_pos c20]
      rw [e] at w
      exact w) (fun c4 c6 c8 c10 c14 c18 c19 c21 => by
      have e : g_13 x0 x1 x2 = (g_14 (0 : Int32)) := by
        unfold g_13
        rw [if_neg c4, if_neg c6, if_neg c8, if_neg c10, if_neg c14, if_neg c18, if_pos c19, if_neg c21]
      rw [e] at w
      exact w) (fun c4 c6 c8 c10 c14 c18 c22 c23 c24 => by
      have e : g_13 x0 x1 x2 = (g_14 (0 : Int32)) := by
        unfold g_13
        rw [if_neg c4, if_neg c6, if_neg c8, if_neg c10, if_neg c14, if_neg c18, if_neg c22, if_pos c23, if_pos c24]
      rw [e] at w
      exact w) (fun c4 c6 c8 c10 c14 c18 c22 c23 c25 => by
      have e : g_13 x0 x1 x2 = (g_14 (1 : Int32)) := by
        unfold g_13
        rw [if_neg c4, if_neg c6, if_neg c8, if_neg c10, if_neg c14, if_neg c18, if_neg c22, if_pos c23, if_neg c25]
      rw [e] at w
      exact w) (fun c4 c6 c8 c10 c14 c18 c22 c26 c27 c28 => by
      have e : g_13 x0 x1 x2 = (g_14 (0 : Int32)) := by
        unfold g_13
        rw [if_neg c4, if_neg c6, if_neg c8, if_neg c10, if_neg c14, if_neg c18, if_neg c22, if_neg c26, if_pos c27, if_pos c28]
      rw [e] at w
      exact w) (fun c4 c6 c8 c10 c14 c18 c22 c26 c27 c29 c30 => by
      have e : g_13 x0 x1 x2 = (g_14 (0 : Int32)) := by
        unfold g_13
        rw [if_neg c4, if_neg c6, if_neg c8, if_neg c10, if_neg c14, if_neg c18, if_neg c22, if_neg c26, if_pos c27, if_neg c29, if_pos c30]
      rw [e] at w
      exact w) (fun c4 c6 c8 c10 c14 c18 c22 c26 c27 c29 c31 => by
      have e : g_13 x0 x1 x2 = (g_14 (1 : Int32)) := by
        unfold g_13
        rw [if_neg c4, if_neg c6, if_neg c8, if_neg c10, if_neg c14, if_neg c18, if_neg c22, if_neg c26, if_pos c27, if_neg c29, if_neg c31]
      rw [e] at w
      exact w) (fun c4 c6 c8 c10 c14 c18 c22 c26 c32 c33 c34 => by
      have e : g_13 x0 x1 x2 = (g_14 (0 : Int32)) := by
        unfold g_13
        rw [if_neg c4, if_neg c6, if_neg c8, if_neg c10, if_neg c14, if_neg c18, if_neg c22, if_neg c26, if_neg c32, if_pos c33, if_pos c34]
      rw [e] at w
      exact w) (fun c4 c6 c8 c10 c14 c18 c22 c26 c32 c33 c35 => by
      have e : g_13 x0 x1 x2 = (g_14 (1 : Int32)) := by
        unfold g_13
        rw [if_neg c4, if_neg c6, if_neg c8, if_neg c10, if_neg c14, if_neg c18, if_neg c22, if_neg c26, if_neg c32, if_pos c33, if_neg c35]
      rw [e] at w
      exact w) (fun c4 c6 c8 c10 c14 c18 c22 c26 c32 c36 => by
      have e : g_13 x0 x1 x2 = (g_14 (1 : Int32)) := by
        unfold g_13
        rw [if_neg c4, if_neg c6, if_neg c8, if_neg c10, if_neg c14, if_neg c18, if_neg c22, if_neg c26, if_neg c32, if_neg c36]
      rw [e] at w
      exact w)
-- 28: DogDecrees$Ledger.tally(III)I
set_option maxRecDepth 100000 in
theorem k_28_0 {x1 : Int32} {x2 : Int32} {x3 : Int32}
    (h1 : cS d 29 [(.ref 266), (.int x1), (.int x2)] (mkH hi hl sw kp) (am_ret (cW cd_28 d Q) 17 [some (.ref 266), some (.int x1), some (.int x2), some (.int x3), some (.int (if (0) < (if x3 < (4) then x3 else (4)) then (if x3 < (4) then x3 else (4)) else (0))), none, none, none] []))
    : cW cd_28 d Q 0 [some (.ref 266), some (.int x1), some (.int x2), some (.int x3), none, none, none, none] [] (mkH hi hl sw kp) :=
  cW.run (am_in [17, 25, 34, 40, 66, 77, 89, 95]) 10 (And.intro (Nat.le_of_ble_eq_true rfl) (cC.of (h1)))
theorem e_28 {x1 : Int32} {x2 : Int32} {x3 : Int32}
    (h1 : cS d 29 [(.ref 266), (.int x1), (.int x2)] (mkH hi hl sw kp) (am_ret (cW cd_28 d Q) 17 [some (.ref 266), some (.int x1), some (.int x2), some (.int x3), some (.int (if (0) < (if x3 < (4) then x3 else (4)) then (if x3 < (4) then x3 else (4)) else (0))), none, none, none] []))
    : cS (d + 1) 28 [(.ref 266), (.int x1), (.int x2), (.int x3)] (mkH hi hl sw kp) Q := cS.of rfl (k_28_0 h1)
set_option maxRecDepth 100000 in
theorem k_28_17 {x1 : Int32} {x2 : Int32} {x3 : Int32} {x4 : Int32}
    (h1 : cS d 287 [(.ref 277), (.int (0))] (mkH hi hl sw kp) (am_ret (cW cd_28 d Q) 25 [some (.ref 266), some (.int x1), some (.int x2), some (.int x3), some (.int x4), none, none, none] []))
    : cW cd_28 d Q 17 [some (.ref 266), some (.int x1), some (.int x2), some (.int x3), some (.int x4), none, none, none] [] (mkH hi hl sw kp) :=
  cW.run (am_in [17, 25, 34, 40, 66, 77, 89, 95]) 4 (cC.of (h1))
set_option maxRecDepth 100000 in
theorem k_28_25 {x1 : Int32} {x2 : Int32} {x3 : Int32} {x4 : Int32}
    (h1 : cS d 287 [(.ref 276), (.int (-3))] (mkH hi hl sw kp) (am_ret (cW cd_28 d Q) 34 [some (.ref 266), some (.int x1), some (.int x2), some (.int x3), some (.int x4), none, none, none] []))
    : cW cd_28 d Q 25 [some (.ref 266), some (.int x1), some (.int x2), some (.int x3), some (.int x4), none, none, none] [] (mkH hi hl sw kp) :=
  cW.run (am_in [17, 25, 34, 40, 66, 77, 89, 95]) 4 (cC.of (h1))
set_option maxRecDepth 100000 in
theorem k_28_34 {x1 : Int32} {x2 : Int32} {x3 : Int32} {x4 : Int32}
    (h1 : cW cd_28 d Q 40 [some (.ref 266), some (.int x1), some (.int x2), some (.int x3), some (.int x4), some (.int (1)), some (.int (0)), none] [] (mkH hi hl sw kp))
    : cW cd_28 d Q 34 [some (.ref 266), some (.int x1), some (.int x2), some (.int x3), some (.int x4), none, none, none] [] (mkH hi hl sw kp) :=
  cW.run (am_in [17, 25, 34, 40, 66, 77, 89, 95]) 4 (And.intro (Nat.le_of_ble_eq_true rfl) (And.intro (Nat.le_of_ble_eq_true rfl) (h1)))
set_option maxRecDepth 100000 in
theorem k_28_40 {x1 : Int32} {x2 : Int32} {x3 : Int32} {x4 : Int32} {x5 : Int32} {x6 : Int32}
    (h1 : x4 ≤ x6 → cW cd_28 d Q 66 [some (.ref 266), some (.int x1), some (.int x2), some (.int x3), some (.int x4), some (.int x5), some (.int (0)), some (.int (0))] [] (mkH hi hl sw kp))
    (h2 : ¬ (x4 ≤ x6) → cW cd_28 d Q 40 [some (.ref 266), some (.int x1), some (.int x2), some (.int x3), some (.int x4), some (.int (x5 * (7))), some (.int (x6 + (1))), none] [] (mkH hi hl sw kp))
    : cW cd_28 d Q 40 [some (.ref 266), some (.int x1), some (.int x2), some (.int x3), some (.int x4), some (.int x5), some (.int x6), none] [] (mkH hi hl sw kp) :=
  cW.run (am_in [17, 25, 34, 40, 66, 77, 89, 95]) 9 (And.intro (fun c1 => (And.intro (Nat.le_of_ble_eq_true rfl) (And.intro (Nat.le_of_ble_eq_true rfl) (h1 c1)))) (fun c2 => (And.intro (Nat.le_of_ble_eq_true rfl) (And.intro (Nat.le_of_ble_eq_true rfl) (h2 c2)))))
set_option maxRecDepth 100000 in
theorem k_28_66 {x1 : Int32} {x2 : Int32} {x3 : Int32} {x4 : Int32} {x5 : Int32} {x6 : Int32} {x7 : Int32}
    (h1 : x5 ≤ x7 → Q (some (.int x6)) (mkH hi hl sw kp))
    (h2 : ¬ (x5 ≤ x7) → cS d 30 [(.ref 266)] (mkH hi hl sw kp) (am_ret (cW cd_28 d Q) 77 [some (.ref 266), some (.int x1), some (.int x2), some (.int x3), some (.int x4), some (.int x5), some (.int x6), some (.int x7)] []))
    : cW cd_28 d Q 66 [some (.ref 266), some (.int x1), some (.int x2), some (.int x3), some (.int x4), some (.int x5), some (.int x6), some (.int x7)] [] (mkH hi hl sw kp) :=
  cW.run (am_in [17, 25, 34, 40, 66, 77, 89, 95]) 5 (And.intro (fun c1 => (cQ.of (h1 c1))) (fun c2 => (cC.of (h2 c2))))
set_option maxRecDepth 100000 in
theorem k_28_77 {x1 : Int32} {x2 : Int32} {x3 : Int32} {x4 : Int32} {x5 : Int32} {x6 : Int32} {x7 : Int32} {s0 : Int32}
    (h1 : s0 = 0 → cW cd_28 d Q 89 [some (.ref 266), some (.int x1), some (.int x2), some (.int x3), some (.int x4), some (.int x5), some (.int x6), some (.int x7)] [] (mkH hi hl sw kp))
    (h2 : ¬ (s0 = 0) → cS d 31 [(.ref 266), (.int x4)] (mkH hi hl sw kp) (am_ret (cW cd_28 d Q) 89 [some (.ref 266), some (.int x1), some (.int x2), some (.int x3), some (.int x4), some (.int x5), some (.int (x6 + (1))), some (.int x7)] []))
    : cW cd_28 d Q 77 [some (.ref 266), some (.int x1), some (.int x2), some (.int x3), some (.int x4), some (.int x5), some (.int x6), some (.int x7)] [(.int s0)] (mkH hi hl sw kp) :=
  cW.run (am_in [17, 25, 34, 40, 66, 77, 89, 95]) 5 (And.intro (fun c1 => (h1 c1)) (fun c2 => (And.intro (Nat.le_of_ble_eq_true rfl) (cC.of (h2 c2)))))
set_option maxRecDepth 100000 in
theorem k_28_89 {x1 : Int32} {x2 : Int32} {x3 : Int32} {x4 : Int32} {x5 : Int32} {x6 : Int32} {x7 : Int32}
    (h1 : cS d 32 [(.ref 266), (.int x4)] (mkH hi hl sw kp) (am_ret (cW cd_28 d Q) 95 [some (.ref 266), some (.int x1), some (.int x2), some (.int x3), some (.int x4), some (.int x5), some (.int x6), some (.int x7)] []))
    : cW cd_28 d Q 89 [some (.ref 266), some (.int x1), some (.int x2), some (.int x3), some (.int x4), some (.int x5), some (.int x6), some (.int x7)] [] (mkH hi hl sw kp) :=
  cW.run (am_in [17, 25, 34, 40, 66, 77, 89, 95]) 3 (cC.of (h1))
set_option maxRecDepth 100000 in
theorem k_28_95 {x1 : Int32} {x2 : Int32} {x3 : Int32} {x4 : Int32} {x5 : Int32} {x6 : Int32} {x7 : Int32}
    (h1 : cW cd_28 d Q 66 [some (.ref 266), some (.int x1), some (.int x2), some (.int x3), some (.int x4), some (.int x5), some (.int x6), some (.int (x7 + (1)))] [] (mkH hi hl sw kp))
    : cW cd_28 d Q 95 [some (.ref 266), some (.int x1), some (.int x2), some (.int x3), some (.int x4), some (.int x5), some (.int x6), some (.int x7)] [] (mkH hi hl sw kp) :=
  cW.run (am_in [17, 25, 34, 40, 66, 77, 89, 95]) 2 (And.intro (Nat.le_of_ble_eq_true rfl) (h1))
-- 33: DogDecrees$Ledger.onlyValue(II)I
set_option maxRecDepth 100000 in
theorem k_33_0 {x1 : Int32} {x2 : Int32}
    (h1 : cW cd_33 (d + 1) Q 2 [some (.ref 266), some (.int x1), some (.int x2), some (.int (0))] [] (mkH hi hl sw kp))
    : cW cd_33 (d + 1) Q 0 [some (.ref 266), some (.int x1), some (.int x2), none] [] (mkH hi hl sw kp) :=
  cW.run (am_in [2]) 2 (And.intro (Nat.le_of_ble_eq_true rfl) (h1))
theorem e_33 {x1 : Int32} {x2 : Int32}
    (h1 : cW cd_33 (d + 1) Q 2 [some (.ref 266), some (.int x1), some (.int x2), some (.int (0))] [] (mkH hi hl sw kp))
    : cS ((d + 1) + 1) 33 [(.ref 266), (.int x1), (.int x2)] (mkH hi hl sw kp) Q := cS.of rfl (k_33_0 h1)
set_option maxRecDepth 100000 in
theorem k_33_2 {x1 : Int32} {x2 : Int32} {x3 : Int32}
    (h1 : (7) ≤ x3 → Q (some (.int (-1000000))) (mkH hi hl sw kp))
    (h2 : ¬ ((7) ≤ x3) → x2 ≤ 0 → cW cd_33 (d + 1) Q 2 [some (.ref 266), some (.int x1), some (.int x2), some (.int (x3 + (1)))] [] (mkH hi hl sw kp))
    (h3 : ¬ ((7) ≤ x3) → ¬ (x2 ≤ 0) → ¬ (x1 < 0) → ¬ ((4) ≤ x1) → ¬ (x3 < 0) → x3 < (7) → vp_in ((x1 * (7)) + x3) 28)
    (h4 : ¬ ((7) ≤ x3) → ¬ (x2 ≤ 0) → (g_35 hi x1 x3) = x2 → Q (some (.int (x3 - (3)))) (mkH hi hl sw kp))
    (h5 : ¬ ((7) ≤ x3) → ¬ (x2 ≤ 0) → ¬ ((g_35 hi x1 x3) = x2) → cW cd_33 (d + 1) Q 2 [some (.ref 266), some (.int x1), some (.int x2), some (.int (x3 + (1)))] [] (mkH hi hl sw kp))
    : cW cd_33 (d + 1) Q 2 [some (.ref 266), some (.int x1), some (.int x2), some (.int x3)] [] (mkH hi hl sw kp) :=
  cW.run (am_in [2]) 15 (And.intro (fun c1 => (cQ.of (h1 c1))) (fun c2 => (And.intro (fun c3 => (And.intro (Nat.le_of_ble_eq_true rfl) (h2 c2 c3))) (fun c4 => (cC.of (s_35 (h3 c2 c4) (And.intro (fun c5 => (cQ.of (h4 c2 c4 c5))) (fun c6 => (And.intro (Nat.le_of_ble_eq_true rfl) (h5 c2 c4 c6))))))))))
-- 34: DogDecrees$Ledger.mostLeft(I)I
set_option maxRecDepth 100000 in
theorem k_34_0 {x1 : Int32}
    (h1 : cW cd_34 (d + 1) Q 4 [some (.ref 266), some (.int x1), some (.int (0)), some (.int (0))] [] (mkH hi hl sw kp))
    : cW cd_34 (d + 1) Q 0 [some (.ref 266), some (.int x1), none, none] [] (mkH hi hl sw kp) :=
  cW.run (am_in [4]) 4 (And.intro (Nat.le_of_ble_eq_true rfl) (And.intro (Nat.le_of_ble_eq_true rfl) (h1)))
theorem e_34 {x1 : Int32}
    (h1 : cW cd_34 (d + 1) Q 4 [some (.ref 266), some (.int x1), some (.int (0)), some (.int (0))] [] (mkH hi hl sw kp))
    : cS ((d + 1) + 1) 34 [(.ref 266), (.int x1)] (mkH hi hl sw kp) Q := cS.of rfl (k_34_0 h1)
set_option maxRecDepth 100000 in
theorem k_34_4 {x1 : Int32} {x2 : Int32} {x3 : Int32}
    (h1 : (7) ≤ x3 → Q (some (.int x2)) (mkH hi hl sw kp))
    (h2 : ¬ ((7) ≤ x3) → ¬ (x1 < 0) → ¬ ((4) ≤ x1) → ¬ (x3 < 0) → x3 < (7) → vp_in ((x1 * (7)) + x3) 28)
    (h3 : ¬ ((7) ≤ x3) → cW cd_34 (d + 1) Q 4 [some (.ref 266), some (.int x1), some (.int (if x2 < (g_35 hi x1 x3) then (g_35 hi x1 x3) else x2)), some (.int (x3 + (1)))] [] (mkH hi hl sw kp))
    : cW cd_34 (d + 1) Q 4 [some (.ref 266), some (.int x1), some (.int x2), some (.int x3)] [] (mkH hi hl sw kp) :=
  cW.run (am_in [4]) 12 (And.intro (fun c1 => (cQ.of (h1 c1))) (fun c2 => (cC.of (s_35 (h2 c2) (And.intro (Nat.le_of_ble_eq_true rfl) (And.intro (Nat.le_of_ble_eq_true rfl) (h3 c2)))))))
-- 38: DogDecrees$Odds.layNone()V
set_option maxRecDepth 100000 in
theorem k_38_0
    (h1 : cS d 287 [(.ref 257), (.int (0))] (mkH hi hl sw kp) (am_ret (cW cd_38 d Q) 8 [some (.ref 256)] []))
    : cW cd_38 d Q 0 [some (.ref 256)] [] (mkH hi hl sw kp) :=
  cW.run (am_in [8]) 4 (cC.of (h1))
theorem e_38
    (h1 : cS d 287 [(.ref 257), (.int (0))] (mkH hi hl sw kp) (am_ret (cW cd_38 d Q) 8 [some (.ref 256)] []))
    : cS (d + 1) 38 [(.ref 256)] (mkH hi hl sw kp) Q := cS.of rfl (k_38_0 h1)
set_option maxRecDepth 100000 in
theorem k_38_8
    (h1 : Q none (mkH hi hl sw kp))
    : cW cd_38 d Q 8 [some (.ref 256)] [] (mkH hi hl sw kp) :=
  cW.run (am_in [8]) 1 (cQ.of (h1))
-- 41: DogDecrees$Odds.countRow(II)V
set_option maxRecDepth 100000 in
theorem k_41_0 {x1 : Int32} {x2 : Int32}
    (h1 : vp_in x2 8)
    (h2 : cW cd_41 (d + 1) Q 31 [some (.ref 256), some (.int x1), some (.int x2), some (.int (((x1 * (8)) + x2) * (8))), some (.int ((hi 22 x2.toNatClampNeg) ||| ((1) <<< (x2 &&& 31)))), some (.int (0)), some (.int (0)), none, none, none] [] (mkH hi hl sw kp))
    : cW cd_41 (d + 1) Q 0 [some (.ref 256), some (.int x1), some (.int x2), none, none, none, none, none, none, none] [] (mkH hi hl sw kp) :=
  cW.run (am_in [31, 107]) 22 (And.intro (Nat.le_of_ble_eq_true rfl) (And.intro (h1) (And.intro (Nat.le_of_ble_eq_true rfl) (And.intro (Nat.le_of_ble_eq_true rfl) (And.intro (Nat.le_of_ble_eq_true rfl) (h2))))))
theorem e_41 {x1 : Int32} {x2 : Int32}
    (h1 : vp_in x2 8)
    (h2 : cW cd_41 (d + 1) Q 31 [some (.ref 256), some (.int x1), some (.int x2), some (.int (((x1 * (8)) + x2) * (8))), some (.int ((hi 22 x2.toNatClampNeg) ||| ((1) <<< (x2 &&& 31)))), some (.int (0)), some (.int (0)), none, none, none] [] (mkH hi hl sw kp))
    : cS ((d + 1) + 1) 41 [(.ref 256), (.int x1), (.int x2)] (mkH hi hl sw kp) Q := cS.of rfl (k_41_0 h1 h2)
set_option maxRecDepth 100000 in
theorem k_41_31 {x1 : Int32} {x2 : Int32} {x3 : Int32} {x4 : Int32} {x5 : Int32} {x6 : Int32}
    (h1 : (hi 19 1) ≤ x6 → 0 < x5 → cW cd_41 (d + 1) Q 107 [some (.ref 256), some (.int x1), some (.int x2), some (.int x3), some (.int x4), some (.int x5), some (.int (0)), some (.int (0)), some (.int (0)), none] [] (mkH hi hl sw kp))
    (h2 : (hi 19 1) ≤ x6 → ¬ (0 < x5) → vp_in (x3 + x2) 512)
    (h3 : (hi 19 1) ≤ x6 → ¬ (0 < x5) → Q none (mkH (u2 hi 259 (x3 + x2).toNatClampNeg (60)) hl sw kp))
    (h4 : ¬ ((hi 19 1) ≤ x6) → ((x4 >>> (x6 &&& 31)) &&& (1)) = 0 → vp_in (x3 + x6) 512)
    (h5 : ¬ ((hi 19 1) ≤ x6) → ((x4 >>> (x6 &&& 31)) &&& (1)) = 0 → cW cd_41 (d + 1) Q 31 [some (.ref 256), some (.int x1), some (.int x2), some (.int x3), some (.int x4), some (.int x5), some (.int (x6 + (1))), none, none, none] [] (mkH (u2 hi 259 (x3 + x6).toNatClampNeg (0)) hl sw kp))
    (h6 : ¬ ((hi 19 1) ≤ x6) → ¬ (((x4 >>> (x6 &&& 31)) &&& (1)) = 0) → vp_in x6 8)
    (h7 : ¬ ((hi 19 1) ≤ x6) → ¬ (((x4 >>> (x6 &&& 31)) &&& (1)) = 0) → ¬ ((hi 257 x6.toNatClampNeg) < 0) → (hi 257 x6.toNatClampNeg) ≤ (4) → x2 = x6 → vp_in ((((((x1 * (8)) + x6) * (5)) + (hi 257 x6.toNatClampNeg)) * (2)) + (1)) 640)
    (h8 : ¬ ((hi 19 1) ≤ x6) → ¬ (((x4 >>> (x6 &&& 31)) &&& (1)) = 0) → ¬ ((hi 257 x6.toNatClampNeg) < 0) → (hi 257 x6.toNatClampNeg) ≤ (4) → ¬ (x2 = x6) → vp_in ((((((x1 * (8)) + x6) * (5)) + (hi 257 x6.toNatClampNeg)) * (2)) + (0)) 640)
    (h9 : ¬ ((hi 19 1) ≤ x6) → ¬ (((x4 >>> (x6 &&& 31)) &&& (1)) = 0) → vp_in (x3 + x6) 512)
    (h10 : ¬ ((hi 19 1) ≤ x6) → ¬ (((x4 >>> (x6 &&& 31)) &&& (1)) = 0) → cW cd_41 (d + 1) Q 31 [some (.ref 256), some (.int x1), some (.int x2), some (.int x3), some (.int x4), some (.int (x5 + (g_42 hi x1 x2 x6))), some (.int (x6 + (1))), none, none, none] [] (mkH (u2 hi 259 (x3 + x6).toNatClampNeg (0)) hl sw kp))
    : cW cd_41 (d + 1) Q 31 [some (.ref 256), some (.int x1), some (.int x2), some (.int x3), some (.int x4), some (.int x5), some (.int x6), none, none, none] [] (mkH hi hl sw kp) :=
  cW.run (am_in [31, 107]) 28 (And.intro (fun c1 => (And.intro (fun c2 => (And.intro (Nat.le_of_ble_eq_true rfl) (And.intro (Nat.le_of_ble_eq_true rfl) (And.intro (Nat.le_of_ble_eq_true rfl) (h1 c1 c2))))) (fun c3 => (And.intro (h2 c1 c3) (cQ.of (h3 c1 c3)))))) (fun c4 => (And.intro (fun c5 => (And.intro (h4 c4 c5) (And.intro (Nat.le_of_ble_eq_true rfl) (h5 c4 c5)))) (fun c6 => (cC.of (s_42 (h6 c4 c6) (h7 c4 c6) (h8 c4 c6) (And.intro (Nat.le_of_ble_eq_true rfl) (And.intro (h9 c4 c6) (And.intro (Nat.le_of_ble_eq_true rfl) (h10 c4 c6))))))))))
set_option maxRecDepth 100000 in
theorem k_41_107 {x1 : Int32} {x2 : Int32} {x3 : Int32} {x4 : Int32} {x5 : Int32} {x6 : Int32} {x7 : Int32} {x8 : Int32} {o9 : Option Value}
    (h1 : (hi 19 1) ≤ x8 → Q none (mkH hi hl sw kp))
    (h2 : ¬ ((hi 19 1) ≤ x8) → ((x4 >>> (x8 &&& 31)) &&& (1)) = 0 → cW cd_41 (d + 1) Q 107 [some (.ref 256), some (.int x1), some (.int x2), some (.int x3), some (.int x4), some (.int x5), some (.int x6), some (.int x7), some (.int (x8 + (1))), o9] [] (mkH hi hl sw kp))
    (h3 : ¬ ((hi 19 1) ≤ x8) → ¬ (((x4 >>> (x8 &&& 31)) &&& (1)) = 0) → vp_in x8 8)
    (h4 : ¬ ((hi 19 1) ≤ x8) → ¬ (((x4 >>> (x8 &&& 31)) &&& (1)) = 0) → ¬ ((hi 257 x8.toNatClampNeg) < 0) → (hi 257 x8.toNatClampNeg) ≤ (4) → x2 = x8 → vp_in ((((((x1 * (8)) + x8) * (5)) + (hi 257 x8.toNatClampNeg)) * (2)) + (1)) 640)
    (h5 : ¬ ((hi 19 1) ≤ x8) → ¬ (((x4 >>> (x8 &&& 31)) &&& (1)) = 0) → ¬ ((hi 257 x8.toNatClampNeg) < 0) → (hi 257 x8.toNatClampNeg) ≤ (4) → ¬ (x2 = x8) → vp_in ((((((x1 * (8)) + x8) * (5)) + (hi 257 x8.toNatClampNeg)) * (2)) + (0)) 640)
    (h6 : ¬ ((hi 19 1) ≤ x8) → ¬ (((x4 >>> (x8 &&& 31)) &&& (1)) = 0) → ¬ x5 = 0)
    (h7 : ¬ ((hi 19 1) ≤ x8) → ¬ (((x4 >>> (x8 &&& 31)) &&& (1)) = 0) → vp_in (x3 + x8) 512)
    (h8 : ¬ ((hi 19 1) ≤ x8) → ¬ (((x4 >>> (x8 &&& 31)) &&& (1)) = 0) → cW cd_41 (d + 1) Q 107 [some (.ref 256), some (.int x1), some (.int x2), some (.int x3), some (.int x4), some (.int x5), some (.int (x6 + (g_42 hi x1 x2 x8))), some (.int (((((60) * (x6 + (g_42 hi x1 x2 x8))) + x5) - (1)) / x5)), some (.int (x8 + (1))), some (.int (((((60) * (x6 + (g_42 hi x1 x2 x8))) + x5) - (1)) / x5))] [] (mkH (u2 hi 259 (x3 + x8).toNatClampNeg ((((((60) * (x6 + (g_42 hi x1 x2 x8))) + x5) - (1)) / x5) - x7)) hl sw kp))
    : cW cd_41 (d + 1) Q 107 [some (.ref 256), some (.int x1), some (.int x2), some (.int x3), some (.int x4), some (.int x5), some (.int x6), some (.int x7), some (.int x8), o9] [] (mkH hi hl sw kp) :=
  cW.run (am_in [31, 107]) 42 (And.intro (fun c1 => (cQ.of (h1 c1))) (fun c2 => (And.intro (fun c3 => (And.intro (Nat.le_of_ble_eq_true rfl) (h2 c2 c3))) (fun c4 => (cC.of (s_42 (h3 c2 c4) (h4 c2 c4) (h5 c2 c4) (And.intro (Nat.le_of_ble_eq_true rfl) (And.intro (h6 c2 c4) (And.intro (Nat.le_of_ble_eq_true rfl) (And.intro (h7 c2 c4) (And.intro (Nat.le_of_ble_eq_true rfl) (And.intro (Nat.le_of_ble_eq_true rfl) (h8 c2 c4)))))))))))))
-- 43: DogDecrees$Odds.waysTo(III)I
set_option maxRecDepth 100000 in
theorem k_43_0 {x1 : Int32} {x2 : Int32} {x3 : Int32}
    (h1 : x1 < 0 → Q (some (.int (0))) (mkH hi hl sw kp))
    (h2 : ¬ (x1 < 0) → (8) ≤ x1 → Q (some (.int (0))) (mkH hi hl sw kp))
    (h3 : ¬ (x1 < 0) → ¬ ((8) ≤ x1) → (g_108 hi x2) = 0 → Q (some (.int (0))) (mkH hi hl sw kp))
    (h4 : ¬ (x1 < 0) → ¬ ((8) ≤ x1) → ¬ ((g_108 hi x2) = 0) → (g_108 hi x3) = 0 → Q (some (.int (0))) (mkH hi hl sw kp))
    (h5 : ¬ (x1 < 0) → ¬ ((8) ≤ x1) → ¬ ((g_108 hi x2) = 0) → ¬ ((g_108 hi x3) = 0) → vp_in ((((x1 * (8)) + x2) * (8)) + x3) 512)
    (h6 : ¬ (x1 < 0) → ¬ ((8) ≤ x1) → ¬ ((g_108 hi x2) = 0) → ¬ ((g_108 hi x3) = 0) → Q (some (.int (hi 259 ((((x1 * (8)) + x2) * (8)) + x3).toNatClampNeg))) (mkH hi hl sw kp))
    : cW cd_43 (d + 1) Q 0 [some (.ref 256), some (.int x1), some (.int x2), some (.int x3)] [] (mkH hi hl sw kp) :=
  cW.run (am_in []) 28 (And.intro (fun c1 => (cQ.of (h1 c1))) (fun c2 => (And.intro (fun c3 => (cQ.of (h2 c2 c3))) (fun c4 => (cC.of (s_108 (And.intro (fun c5 => (cQ.of (h3 c2 c4 c5))) (fun c6 => (cC.of (s_108 (And.intro (fun c7 => (cQ.of (h4 c2 c4 c6 c7))) (fun c8 => (And.intro (h5 c2 c4 c6 c8) (cQ.of (h6 c2 c4 c6 c8)))))))))))))))
theorem e_43 {x1 : Int32} {x2 : Int32} {x3 : Int32}
    (h1 : x1 < 0 → Q (some (.int (0))) (mkH hi hl sw kp))
    (h2 : ¬ (x1 < 0) → (8) ≤ x1 → Q (some (.int (0))) (mkH hi hl sw kp))
    (h3 : ¬ (x1 < 0) → ¬ ((8) ≤ x1) → (g_108 hi x2) = 0 → Q (some (.int (0))) (mkH hi hl sw kp))
    (h4 : ¬ (x1 < 0) → ¬ ((8) ≤ x1) → ¬ ((g_108 hi x2) = 0) → (g_108 hi x3) = 0 → Q (some (.int (0))) (mkH hi hl sw kp))
    (h5 : ¬ (x1 < 0) → ¬ ((8) ≤ x1) → ¬ ((g_108 hi x2) = 0) → ¬ ((g_108 hi x3) = 0) → vp_in ((((x1 * (8)) + x2) * (8)) + x3) 512)
    (h6 : ¬ (x1 < 0) → ¬ ((8) ≤ x1) → ¬ ((g_108 hi x2) = 0) → ¬ ((g_108 hi x3) = 0) → Q (some (.int (hi 259 ((((x1 * (8)) + x2) * (8)) + x3).toNatClampNeg))) (mkH hi hl sw kp))
    : cS ((d + 1) + 1) 43 [(.ref 256), (.int x1), (.int x2), (.int x3)] (mkH hi hl sw kp) Q := cS.of rfl (k_43_0 h1 h2 h3 h4 h5 h6)
def g_43 (hi : Nat → Nat → Int32) (x1 : Int32) (x2 : Int32) (x3 : Int32) : Int32 := if x1 < 0 then (0) else (if (8) ≤ x1 then (0) else (if (g_108 hi x2) = 0 then (0) else (if (g_108 hi x3) = 0 then (0) else ((hi 259 ((((x1 * (8)) + x2) * (8)) + x3).toNatClampNeg)))))
set_option maxRecDepth 100000 in
theorem s_43 {x1 : Int32} {x2 : Int32} {x3 : Int32} (o1 : ¬ (x1 < 0) → ¬ ((8) ≤ x1) → ¬ ((g_108 hi x2) = 0) → ¬ ((g_108 hi x3) = 0) → vp_in ((((x1 * (8)) + x2) * (8)) + x3) 512) (w : Q (some (.int (g_43 hi x1 x2 x3))) (mkH hi hl sw kp)) : cS ((d + 1) + 1) 43 [(.ref 256), (.int x1), (.int x2), (.int x3)] (mkH hi hl sw kp) Q :=
  e_43 (fun c1 => by
      have e : g_43 hi x1 x2 x3 = (0) := by
        unfold g_43
        rw [if_pos c1]
      rw [e] at w
      exact w) (fun c2 c3 => by
      have e : g_43 hi x1 x2 x3 = (0) := by
        unfold g_43
        rw [if_neg c2, if_pos c3]
      rw [e] at w
      exact w) (fun c2 c4 c5 => by
      have e : g_43 hi x1 x2 x3 = (0) := by
        unfold g_43
        rw [if_neg c2, if_neg c4, if_pos c5]
      rw [e] at w
      exact w) (fun c2 c4 c6 c7 => by
      have e : g_43 hi x1 x2 x3 = (0) := by
        unfold g_43
        rw [if_neg c2, if_neg c4, if_neg c6, if_pos c7]
      rw [e] at w
      exact w) o1 (fun c2 c4 c6 c8 => by
      have e : g_43 hi x1 x2 x3 = (hi 259 ((((x1 * (8)) + x2) * (8)) + x3).toNatClampNeg) := by
        unfold g_43
        rw [if_neg c2, if_neg c4, if_neg c6, if_neg c8]
      rw [e] at w
      exact w)
-- 45f: DogDecrees$Odds.standAt(II)V
set_option maxRecDepth 100000 in
theorem k_45f_0 {x1 : Int32} {x2 : Int32}
    (h1 : cS (d + 1) 286 [(.ref 261), (.long 0)] (mkH hi hl false kp) (am_ret (cW cd_45 (d + 1) Q) 8 [some (.ref 256), some (.int x1), some (.int x2)] []))
    : cW cd_45 (d + 1) Q 0 [some (.ref 256), some (.int x1), some (.int x2)] [] (mkH hi hl false kp) :=
  cW.run (am_in [8]) 4 (cC.of (h1))
theorem e_45f {x1 : Int32} {x2 : Int32}
    (h1 : cS (d + 1) 286 [(.ref 261), (.long 0)] (mkH hi hl false kp) (am_ret (cW cd_45 (d + 1) Q) 8 [some (.ref 256), some (.int x1), some (.int x2)] []))
    : cS ((d + 1) + 1) 45 [(.ref 256), (.int x1), (.int x2)] (mkH hi hl false kp) Q := cS.of rfl (k_45f_0 h1)
set_option maxRecDepth 100000 in
theorem k_45f_8 {x1 : Int32} {x2 : Int32}
    (h1 : (g_108 ((u2 (u2 (u2 hi 256 12 (0)) 256 13 x2) 256 14 x2)) x1) = 0 → Q none (mkH (u2 (u2 (u2 hi 256 12 (0)) 256 13 x2) 256 14 x2) hl false kp))
    (h2 : ¬ ((g_108 ((u2 (u2 (u2 hi 256 12 (0)) 256 13 x2) 256 14 x2)) x1) = 0) → (g_158 x2 (-15 : Int32) (15 : Int32)) = 0 → Q none (mkH (u2 (u2 (u2 hi 256 12 (0)) 256 13 x2) 256 14 x2) hl false kp))
    (h3 : ¬ ((g_108 ((u2 (u2 (u2 hi 256 12 (0)) 256 13 x2) 256 14 x2)) x1) = 0) → ¬ ((g_158 x2 (-15 : Int32) (15 : Int32)) = 0) → vp_in (((x1 * (31)) + (15)) + x2) 248)
    (h4 : ¬ ((g_108 ((u2 (u2 (u2 hi 256 12 (0)) 256 13 x2) 256 14 x2)) x1) = 0) → ¬ ((g_158 x2 (-15 : Int32) (15 : Int32)) = 0) → Q none (mkH (u2 (u2 (u2 (u2 hi 256 12 (0)) 256 13 x2) 256 14 x2) 256 12 ((1) <<< (x1 &&& 31))) (u2 hl 261 (((x1 * (31)) + (15)) + x2).toNatClampNeg 1) false kp))
    : cW cd_45 (d + 1) Q 8 [some (.ref 256), some (.int x1), some (.int x2)] [] (mkH hi hl false kp) :=
  cW.run (am_in [8]) 36 (cC.of (s_108 (And.intro (fun c1 => (cQ.of (h1 c1))) (fun c2 => (cC.of (s_158 (And.intro (fun c3 => (cQ.of (h2 c2 c3))) (fun c4 => (And.intro (h3 c2 c4) (cQ.of (h4 c2 c4)))))))))))
-- 45t: DogDecrees$Odds.standAt(II)V
set_option maxRecDepth 100000 in
theorem k_45t_0 {x1 : Int32} {x2 : Int32}
    (h1 : cS (d + 1) 286 [(.ref 262), (.long 0)] (mkH hi hl true kp) (am_ret (cW cd_45 (d + 1) Q) 8 [some (.ref 256), some (.int x1), some (.int x2)] []))
    : cW cd_45 (d + 1) Q 0 [some (.ref 256), some (.int x1), some (.int x2)] [] (mkH hi hl true kp) :=
  cW.run (am_in [8]) 4 (cC.of (h1))
theorem e_45t {x1 : Int32} {x2 : Int32}
    (h1 : cS (d + 1) 286 [(.ref 262), (.long 0)] (mkH hi hl true kp) (am_ret (cW cd_45 (d + 1) Q) 8 [some (.ref 256), some (.int x1), some (.int x2)] []))
    : cS ((d + 1) + 1) 45 [(.ref 256), (.int x1), (.int x2)] (mkH hi hl true kp) Q := cS.of rfl (k_45t_0 h1)
set_option maxRecDepth 100000 in
theorem k_45t_8 {x1 : Int32} {x2 : Int32}
    (h1 : (g_108 ((u2 (u2 (u2 hi 256 12 (0)) 256 13 x2) 256 14 x2)) x1) = 0 → Q none (mkH (u2 (u2 (u2 hi 256 12 (0)) 256 13 x2) 256 14 x2) hl true kp))
    (h2 : ¬ ((g_108 ((u2 (u2 (u2 hi 256 12 (0)) 256 13 x2) 256 14 x2)) x1) = 0) → (g_158 x2 (-15 : Int32) (15 : Int32)) = 0 → Q none (mkH (u2 (u2 (u2 hi 256 12 (0)) 256 13 x2) 256 14 x2) hl true kp))
    (h3 : ¬ ((g_108 ((u2 (u2 (u2 hi 256 12 (0)) 256 13 x2) 256 14 x2)) x1) = 0) → ¬ ((g_158 x2 (-15 : Int32) (15 : Int32)) = 0) → vp_in (((x1 * (31)) + (15)) + x2) 248)
    (h4 : ¬ ((g_108 ((u2 (u2 (u2 hi 256 12 (0)) 256 13 x2) 256 14 x2)) x1) = 0) → ¬ ((g_158 x2 (-15 : Int32) (15 : Int32)) = 0) → Q none (mkH (u2 (u2 (u2 (u2 hi 256 12 (0)) 256 13 x2) 256 14 x2) 256 12 ((1) <<< (x1 &&& 31))) (u2 hl 262 (((x1 * (31)) + (15)) + x2).toNatClampNeg 1) true kp))
    : cW cd_45 (d + 1) Q 8 [some (.ref 256), some (.int x1), some (.int x2)] [] (mkH hi hl true kp) :=
  cW.run (am_in [8]) 36 (cC.of (s_108 (And.intro (fun c1 => (cQ.of (h1 c1))) (fun c2 => (cC.of (s_158 (And.intro (fun c3 => (cQ.of (h2 c2 c3))) (fun c4 => (And.intro (h3 c2 c4) (cQ.of (h4 c2 c4)))))))))))
-- 47f: DogDecrees$Odds.weightOf(I)J
set_option maxRecDepth 100000 in
theorem k_47f_0 {x1 : Int32}
    (h1 : (g_108 hi x1) = 0 → Q (some (.long 0)) (mkH hi hl false kp))
    (h2 : ¬ ((g_108 hi x1) = 0) → vp_in ((x1 * (31)) + (15)) 248)
    (h3 : ¬ ((g_108 hi x1) = 0) → Q (some (.long (hl 261 ((x1 * (31)) + (15)).toNatClampNeg))) (mkH hi hl false kp))
    : cW cd_47 (d + 1) Q 0 [some (.ref 256), some (.int x1)] [] (mkH hi hl false kp) :=
  cW.run (am_in []) 15 (cC.of (s_108 (And.intro (fun c1 => (cQ.of (h1 c1))) (fun c2 => (And.intro (h2 c2) (cQ.of (h3 c2)))))))
theorem e_47f {x1 : Int32}
    (h1 : (g_108 hi x1) = 0 → Q (some (.long 0)) (mkH hi hl false kp))
    (h2 : ¬ ((g_108 hi x1) = 0) → vp_in ((x1 * (31)) + (15)) 248)
    (h3 : ¬ ((g_108 hi x1) = 0) → Q (some (.long (hl 261 ((x1 * (31)) + (15)).toNatClampNeg))) (mkH hi hl false kp))
    : cS ((d + 1) + 1) 47 [(.ref 256), (.int x1)] (mkH hi hl false kp) Q := cS.of rfl (k_47f_0 h1 h2 h3)
def g_47f (hi : Nat → Nat → Int32) (hl : Nat → Nat → Int64) (x1 : Int32) : Int64 := if (g_108 hi x1) = 0 then 0 else ((hl 261 ((x1 * (31)) + (15)).toNatClampNeg))
set_option maxRecDepth 100000 in
theorem s_47f {x1 : Int32} (o1 : ¬ ((g_108 hi x1) = 0) → vp_in ((x1 * (31)) + (15)) 248) (w : Q (some (.long (g_47f hi hl x1))) (mkH hi hl false kp)) : cS ((d + 1) + 1) 47 [(.ref 256), (.int x1)] (mkH hi hl false kp) Q :=
  e_47f (fun c1 => by
      have e : g_47f hi hl x1 = 0 := by
        unfold g_47f
        rw [if_pos c1]
      rw [e] at w
      exact w) o1 (fun c2 => by
      have e : g_47f hi hl x1 = (hl 261 ((x1 * (31)) + (15)).toNatClampNeg) := by
        unfold g_47f
        rw [if_neg c2]
      rw [e] at w
      exact w)
-- 47t: DogDecrees$Odds.weightOf(I)J
set_option maxRecDepth 100000 in
theorem k_47t_0 {x1 : Int32}
    (h1 : (g_108 hi x1) = 0 → Q (some (.long 0)) (mkH hi hl true kp))
    (h2 : ¬ ((g_108 hi x1) = 0) → vp_in ((x1 * (31)) + (15)) 248)
    (h3 : ¬ ((g_108 hi x1) = 0) → Q (some (.long (hl 262 ((x1 * (31)) + (15)).toNatClampNeg))) (mkH hi hl true kp))
    : cW cd_47 (d + 1) Q 0 [some (.ref 256), some (.int x1)] [] (mkH hi hl true kp) :=
  cW.run (am_in []) 15 (cC.of (s_108 (And.intro (fun c1 => (cQ.of (h1 c1))) (fun c2 => (And.intro (h2 c2) (cQ.of (h3 c2)))))))
theorem e_47t {x1 : Int32}
    (h1 : (g_108 hi x1) = 0 → Q (some (.long 0)) (mkH hi hl true kp))
    (h2 : ¬ ((g_108 hi x1) = 0) → vp_in ((x1 * (31)) + (15)) 248)
    (h3 : ¬ ((g_108 hi x1) = 0) → Q (some (.long (hl 262 ((x1 * (31)) + (15)).toNatClampNeg))) (mkH hi hl true kp))
    : cS ((d + 1) + 1) 47 [(.ref 256), (.int x1)] (mkH hi hl true kp) Q := cS.of rfl (k_47t_0 h1 h2 h3)
def g_47t (hi : Nat → Nat → Int32) (hl : Nat → Nat → Int64) (x1 : Int32) : Int64 := if (g_108 hi x1) = 0 then 0 else ((hl 262 ((x1 * (31)) + (15)).toNatClampNeg))
set_option maxRecDepth 100000 in
theorem s_47t {x1 : Int32} (o1 : ¬ ((g_108 hi x1) = 0) → vp_in ((x1 * (31)) + (15)) 248) (w : Q (some (.long (g_47t hi hl x1))) (mkH hi hl true kp)) : cS ((d + 1) + 1) 47 [(.ref 256), (.int x1)] (mkH hi hl true kp) Q :=
  e_47t (fun c1 => by
      have e : g_47t hi hl x1 = 0 := by
        unfold g_47t
        rw [if_pos c1]
      rw [e] at w
      exact w) o1 (fun c2 => by
      have e : g_47t hi hl x1 = (hl 262 ((x1 * (31)) + (15)).toNatClampNeg) := by
        unfold g_47t
        rw [if_neg c2]
      rw [e] at w
      exact w)
-- 51: DogDecrees$Odds.heardWithin(I)I
set_option maxRecDepth 100000 in
theorem k_51_0 {x1 : Int32}
    (h1 : cW cd_51 (d + 1) Q 4 [some (.ref 256), some (.int x1), some (.int (0)), some (.int (0))] [] (mkH hi hl sw kp))
    : cW cd_51 (d + 1) Q 0 [some (.ref 256), some (.int x1), none, none] [] (mkH hi hl sw kp) :=
  cW.run (am_in [4]) 4 (And.intro (Nat.le_of_ble_eq_true rfl) (And.intro (Nat.le_of_ble_eq_true rfl) (h1)))
theorem e_51 {x1 : Int32}
    (h1 : cW cd_51 (d + 1) Q 4 [some (.ref 256), some (.int x1), some (.int (0)), some (.int (0))] [] (mkH hi hl sw kp))
    : cS ((d + 1) + 1) 51 [(.ref 256), (.int x1)] (mkH hi hl sw kp) Q := cS.of rfl (k_51_0 h1)
set_option maxRecDepth 100000 in
theorem k_51_4 {x1 : Int32} {x2 : Int32} {x3 : Int32}
    (h1 : x1 ≤ x3 → Q (some (.int x2)) (mkH hi hl sw kp))
    (h2 : ¬ (x1 ≤ x3) → (g_120 hi ((hi 28 1) + x3)) = (hi 256 6) → cW cd_51 (d + 1) Q 4 [some (.ref 256), some (.int x1), some (.int (x2 + (1))), some (.int (x3 + (1)))] [] (mkH hi hl sw kp))
    (h3 : ¬ (x1 ≤ x3) → ¬ ((g_120 hi ((hi 28 1) + x3)) = (hi 256 6)) → cW cd_51 (d + 1) Q 4 [some (.ref 256), some (.int x1), some (.int (x2 + (0))), some (.int (x3 + (1)))] [] (mkH hi hl sw kp))
    : cW cd_51 (d + 1) Q 4 [some (.ref 256), some (.int x1), some (.int x2), some (.int x3)] [] (mkH hi hl sw kp) :=
  cW.run (am_in [4]) 21 (And.intro (fun c1 => (cQ.of (h1 c1))) (fun c2 => (cC.of (s_120 (And.intro (fun c3 => (And.intro (Nat.le_of_ble_eq_true rfl) (And.intro (Nat.le_of_ble_eq_true rfl) (h2 c2 c3)))) (fun c4 => (And.intro (Nat.le_of_ble_eq_true rfl) (And.intro (Nat.le_of_ble_eq_true rfl) (h3 c2 c4)))))))))
-- 52f: DogDecrees$Odds.moveAll(II)J
set_option maxRecDepth 100000 in
theorem k_52f_0 {x1 : Int32} {x2 : Int32}
    (h1 : cS (d + 1) 286 [(.ref 262), (.long 0)] (mkH hi hl false kp) (am_ret (cW cd_52 (d + 1) Q) 8 [some (.ref 256), some (.int x1), some (.int x2), none, none, none, none, none, none, none] []))
    : cW cd_52 (d + 1) Q 0 [some (.ref 256), some (.int x1), some (.int x2), none, none, none, none, none, none, none] [] (mkH hi hl false kp) :=
  cW.run (am_in [8, 43, 58, 136, 180]) 4 (cC.of (h1))
theorem e_52f {x1 : Int32} {x2 : Int32}
    (h1 : cS (d + 1) 286 [(.ref 262), (.long 0)] (mkH hi hl false kp) (am_ret (cW cd_52 (d + 1) Q) 8 [some (.ref 256), some (.int x1), some (.int x2), none, none, none, none, none, none, none] []))
    : cS ((d + 1) + 1) 52 [(.ref 256), (.int x1), (.int x2)] (mkH hi hl false kp) Q := cS.of rfl (k_52f_0 h1)
set_option maxRecDepth 100000 in
theorem k_52f_8 {x1 : Int32} {x2 : Int32}
    (h1 : (g_109 hi x2) = 0 → cW cd_52 (d + 1) Q 43 [some (.ref 256), some (.int x1), some (.int x2), some (.int (16)), some (.long 0), none, some (.int (0)), some (.int (0)), none, none] [] (mkH hi hl false kp))
    (h2 : ¬ ((g_109 hi x2) = 0) → vp_in x2 4)
    (h3 : ¬ ((g_109 hi x2) = 0) → cW cd_52 (d + 1) Q 43 [some (.ref 256), some (.int x1), some (.int x2), some (.int (hi 23 x2.toNatClampNeg)), some (.long 0), none, some (.int (0)), some (.int (0)), none, none] [] (mkH hi hl false kp))
    : cW cd_52 (d + 1) Q 8 [some (.ref 256), some (.int x1), some (.int x2), none, none, none, none, none, none, none] [] (mkH hi hl false kp) :=
  cW.run (am_in [8, 43, 58, 136, 180]) 18 (cC.of (s_109 (And.intro (fun c1 => (And.intro (Nat.le_of_ble_eq_true rfl) (And.intro (Nat.le_of_ble_eq_true rfl) (And.intro (Nat.le_of_ble_eq_true rfl) (And.intro (Nat.le_of_ble_eq_true rfl) (h1 c1)))))) (fun c2 => (And.intro (h2 c2) (And.intro (Nat.le_of_ble_eq_true rfl) (And.intro (Nat.le_of_ble_eq_true rfl) (And.intro (Nat.le_of_ble_eq_true rfl) (And.intro (Nat.le_of_ble_eq_true rfl) (h3 c2))))))))))
set_option maxRecDepth 100000 in
theorem k_52f_43 {x1 : Int32} {x2 : Int32} {x3 : Int32} {x4 : Int64} {x6 : Int32} {x7 : Int32} {o8 : Option Value} {o9 : Option Value}
    (h1 : (hi 19 1) ≤ x7 → cW cd_52 (d + 1) Q 180 [some (.ref 256), some (.int x1), some (.int x2), some (.int x3), some (.long x4), none, some (.int x6), some (.ref 261), o8, o9] [] ((324, 16034, SH, hi, hl, (u2 (u2 (HR false kp) 256 9 (some 262)) 256 10 (some 261)))))
    (h2 : ¬ ((hi 19 1) ≤ x7) → cW cd_52 (d + 1) Q 58 [some (.ref 256), some (.int x1), some (.int x2), some (.int x3), some (.long x4), none, some (.int x6), some (.int x7), some (.int (0)), o9] [] (mkH hi hl false kp))
    : cW cd_52 (d + 1) Q 43 [some (.ref 256), some (.int x1), some (.int x2), some (.int x3), some (.long x4), none, some (.int x6), some (.int x7), o8, o9] [] (mkH hi hl false kp) :=
  cW.run (am_in [8, 43, 58, 136, 180]) 15 (And.intro (fun c1 => (And.intro (Nat.le_of_ble_eq_true rfl) (h1 c1))) (fun c2 => (And.intro (Nat.le_of_ble_eq_true rfl) (h2 c2))))
set_option maxRecDepth 100000 in
theorem k_52f_58 {x1 : Int32} {x2 : Int32} {x3 : Int32} {x4 : Int64} {x6 : Int32} {x7 : Int32} {x8 : Int32} {o9 : Option Value}
    (h1 : (hi 19 1) ≤ x8 → cW cd_52 (d + 1) Q 43 [some (.ref 256), some (.int x1), some (.int x2), some (.int x3), some (.long x4), none, some (.int x6), some (.int (x7 + (1))), some (.int x8), o9] [] (mkH hi hl false kp))
    (h2 : ¬ ((hi 19 1) ≤ x8) → (((hi 256 12) >>> (x7 &&& 31)) &&& (1)) = 0 → cW cd_52 (d + 1) Q 43 [some (.ref 256), some (.int x1), some (.int x2), some (.int x3), some (.long x4), none, some (.int x6), some (.int (x7 + (1))), some (.int x8), o9] [] (mkH hi hl false kp))
    (h3 : ¬ ((hi 19 1) ≤ x8) → ¬ ((((hi 256 12) >>> (x7 &&& 31)) &&& (1)) = 0) → vp_in ((((x1 * (8)) + x7) * (8)) + x8) 512)
    (h4 : ¬ ((hi 19 1) ≤ x8) → ¬ ((((hi 256 12) >>> (x7 &&& 31)) &&& (1)) = 0) → (hi 259 ((((x1 * (8)) + x7) * (8)) + x8).toNatClampNeg) = 0 → cW cd_52 (d + 1) Q 58 [some (.ref 256), some (.int x1), some (.int x2), some (.int x3), some (.long x4), none, some (.int x6), some (.int x7), some (.int (x8 + (1))), some (.int (hi 259 ((((x1 * (8)) + x7) * (8)) + x8).toNatClampNeg))] [] (mkH hi hl false kp))
    (h5 : ¬ ((hi 19 1) ≤ x8) → ¬ ((((hi 256 12) >>> (x7 &&& 31)) &&& (1)) = 0) → ¬ ((hi 259 ((((x1 * (8)) + x7) * (8)) + x8).toNatClampNeg) = 0) → x2 = (-1) → cS (d + 1) 53 [(.ref 256), (.int x7), (.int x8), (.int (hi 259 ((((x1 * (8)) + x7) * (8)) + x8).toNatClampNeg)), (.int (0)), (.int x3)] (mkH hi hl false kp) (am_ret (cW cd_52 (d + 1) Q) 136 [some (.ref 256), some (.int x1), some (.int x2), some (.int x3), some (.long x4), none, some (.int x6), some (.int x7), some (.int x8), some (.int (hi 259 ((((x1 * (8)) + x7) * (8)) + x8).toNatClampNeg))] [(.long x4)]))
    (h6 : ¬ ((hi 19 1) ≤ x8) → ¬ ((((hi 256 12) >>> (x7 &&& 31)) &&& (1)) = 0) → ¬ ((hi 259 ((((x1 * (8)) + x7) * (8)) + x8).toNatClampNeg) = 0) → ¬ (x2 = (-1)) → vp_in x8 8)
    (h7 : ¬ ((hi 19 1) ≤ x8) → ¬ ((((hi 256 12) >>> (x7 &&& 31)) &&& (1)) = 0) → ¬ ((hi 259 ((((x1 * (8)) + x7) * (8)) + x8).toNatClampNeg) = 0) → ¬ (x2 = (-1)) → cS (d + 1) 53 [(.ref 256), (.int x7), (.int x8), (.int (hi 259 ((((x1 * (8)) + x7) * (8)) + x8).toNatClampNeg)), (.int (hi 260 x8.toNatClampNeg)), (.int x3)] (mkH hi hl false kp) (am_ret (cW cd_52 (d + 1) Q) 136 [some (.ref 256), some (.int x1), some (.int x2), some (.int x3), some (.long x4), none, some (.int x6), some (.int x7), some (.int x8), some (.int (hi 259 ((((x1 * (8)) + x7) * (8)) + x8).toNatClampNeg))] [(.long x4)]))
    : cW cd_52 (d + 1) Q 58 [some (.ref 256), some (.int x1), some (.int x2), some (.int x3), some (.long x4), none, some (.int x6), some (.int x7), some (.int x8), o9] [] (mkH hi hl false kp) :=
  cW.run (am_in [8, 43, 58, 136, 180]) 41 (And.intro (fun c1 => (And.intro (Nat.le_of_ble_eq_true rfl) (h1 c1))) (fun c2 => (And.intro (fun c3 => (And.intro (Nat.le_of_ble_eq_true rfl) (h2 c2 c3))) (fun c4 => (And.intro (h3 c2 c4) (And.intro (Nat.le_of_ble_eq_true rfl) (And.intro (fun c5 => (And.intro (Nat.le_of_ble_eq_true rfl) (h4 c2 c4 c5))) (fun c6 => (And.intro (fun c7 => (cC.of (h5 c2 c4 c6 c7))) (fun c8 => (And.intro (h6 c2 c4 c6 c8) (cC.of (h7 c2 c4 c6 c8)))))))))))))
set_option maxRecDepth 100000 in
theorem k_52f_136 {x1 : Int32} {x2 : Int32} {x3 : Int32} {x4 : Int64} {x6 : Int32} {x7 : Int32} {x8 : Int32} {x9 : Int32} {s0 : Int64} {s1 : Int64}
    (h1 : cW cd_52 (d + 1) Q 58 [some (.ref 256), some (.int x1), some (.int x2), some (.int x3), some (.long (s0 + s1)), none, some (.int (x6 ||| ((1) <<< (x8 &&& 31)))), some (.int x7), some (.int (x8 + (1))), some (.int x9)] [] (mkH hi hl false kp))
    : cW cd_52 (d + 1) Q 136 [some (.ref 256), some (.int x1), some (.int x2), some (.int x3), some (.long x4), none, some (.int x6), some (.int x7), some (.int x8), some (.int x9)] [(.long s1), (.long s0)] (mkH hi hl false kp) :=
  cW.run (am_in [8, 43, 58, 136, 180]) 10 (And.intro (Nat.le_of_ble_eq_true rfl) (And.intro (Nat.le_of_ble_eq_true rfl) (And.intro (Nat.le_of_ble_eq_true rfl) (h1))))
set_option maxRecDepth 100000 in
theorem k_52f_180 {x1 : Int32} {x2 : Int32} {x3 : Int32} {x4 : Int64} {x6 : Int32} {o8 : Option Value} {o9 : Option Value}
    (h1 : x2 = (-1) → Q (some (.long x4)) (mkH (u2 hi 256 12 x6) hl false kp))
    (h2 : ¬ (x2 = (-1)) → Q (some (.long x4)) (mkH (u2 (u2 (u2 hi 256 12 x6) 256 13 (if ((hi 256 13) + (hi 256 7)) < ((1) - x3) then ((1) - x3) else ((hi 256 13) + (hi 256 7)))) 256 14 (if (x3 - (1)) < ((hi 256 14) + (hi 256 8)) then (x3 - (1)) else ((hi 256 14) + (hi 256 8)))) hl false kp))
    : cW cd_52 (d + 1) Q 180 [some (.ref 256), some (.int x1), some (.int x2), some (.int x3), some (.long x4), none, some (.int x6), some (.ref 261), o8, o9] [] (mkH hi hl false kp) :=
  cW.run (am_in [8, 43, 58, 136, 180]) 30 (And.intro (fun c1 => (cQ.of (h1 c1))) (fun c2 => (cQ.of (h2 c2))))
-- 52t: DogDecrees$Odds.moveAll(II)J
set_option maxRecDepth 100000 in
theorem k_52t_0 {x1 : Int32} {x2 : Int32}
    (h1 : cS (d + 1) 286 [(.ref 261), (.long 0)] (mkH hi hl true kp) (am_ret (cW cd_52 (d + 1) Q) 8 [some (.ref 256), some (.int x1), some (.int x2), none, none, none, none, none, none, none] []))
    : cW cd_52 (d + 1) Q 0 [some (.ref 256), some (.int x1), some (.int x2), none, none, none, none, none, none, none] [] (mkH hi hl true kp) :=
  cW.run (am_in [8, 43, 58, 136, 180]) 4 (cC.of (h1))
theorem e_52t {x1 : Int32} {x2 : Int32}
    (h1 : cS (d + 1) 286 [(.ref 261), (.long 0)] (mkH hi hl true kp) (am_ret (cW cd_52 (d + 1) Q) 8 [some (.ref 256), some (.int x1), some (.int x2), none, none, none, none, none, none, none] []))
    : cS ((d + 1) + 1) 52 [(.ref 256), (.int x1), (.int x2)] (mkH hi hl true kp) Q := cS.of rfl (k_52t_0 h1)
set_option maxRecDepth 100000 in
theorem k_52t_8 {x1 : Int32} {x2 : Int32}
    (h1 : (g_109 hi x2) = 0 → cW cd_52 (d + 1) Q 43 [some (.ref 256), some (.int x1), some (.int x2), some (.int (16)), some (.long 0), none, some (.int (0)), some (.int (0)), none, none] [] (mkH hi hl true kp))
    (h2 : ¬ ((g_109 hi x2) = 0) → vp_in x2 4)
    (h3 : ¬ ((g_109 hi x2) = 0) → cW cd_52 (d + 1) Q 43 [some (.ref 256), some (.int x1), some (.int x2), some (.int (hi 23 x2.toNatClampNeg)), some (.long 0), none, some (.int (0)), some (.int (0)), none, none] [] (mkH hi hl true kp))
    : cW cd_52 (d + 1) Q 8 [some (.ref 256), some (.int x1), some (.int x2), none, none, none, none, none, none, none] [] (mkH hi hl true kp) :=
  cW.run (am_in [8, 43, 58, 136, 180]) 18 (cC.of (s_109 (And.intro (fun c1 => (And.intro (Nat.le_of_ble_eq_true rfl) (And.intro (Nat.le_of_ble_eq_true rfl) (And.intro (Nat.le_of_ble_eq_true rfl) (And.intro (Nat.le_of_ble_eq_true rfl) (h1 c1)))))) (fun c2 => (And.intro (h2 c2) (And.intro (Nat.le_of_ble_eq_true rfl) (And.intro (Nat.le_of_ble_eq_true rfl) (And.intro (Nat.le_of_ble_eq_true rfl) (And.intro (Nat.le_of_ble_eq_true rfl) (h3 c2))))))))))
set_option maxRecDepth 100000 in
theorem k_52t_43 {x1 : Int32} {x2 : Int32} {x3 : Int32} {x4 : Int64} {x6 : Int32} {x7 : Int32} {o8 : Option Value} {o9 : Option Value}
    (h1 : (hi 19 1) ≤ x7 → cW cd_52 (d + 1) Q 180 [some (.ref 256), some (.int x1), some (.int x2), some (.int x3), some (.long x4), none, some (.int x6), some (.ref 262), o8, o9] [] ((324, 16034, SH, hi, hl, (u2 (u2 (HR true kp) 256 9 (some 261)) 256 10 (some 262)))))
    (h2 : ¬ ((hi 19 1) ≤ x7) → cW cd_52 (d + 1) Q 58 [some (.ref 256), some (.int x1), some (.int x2), some (.int x3), some (.long x4), none, some (.int x6), some (.int x7), some (.int (0)), o9] [] (mkH hi hl true kp))
    : cW cd_52 (d + 1) Q 43 [some (.ref 256), some (.int x1), some (.int x2), some (.int x3), some (.long x4), none, some (.int x6), some (.int x7), o8, o9] [] (mkH hi hl true kp) :=
  cW.run (am_in [8, 43, 58, 136, 180]) 15 (And.intro (fun c1 => (And.intro (Nat.le_of_ble_eq_true rfl) (h1 c1))) (fun c2 => (And.intro (Nat.le_of_ble_eq_true rfl) (h2 c2))))
set_option maxRecDepth 100000 in
theorem k_52t_58 {x1 : Int32} {x2 : Int32} {x3 : Int32} {x4 : Int64} {x6 : Int32} {x7 : Int32} {x8 : Int32} {o9 : Option Value}
    (h1 : (hi 19 1) ≤ x8 → cW cd_52 (d + 1) Q 43 [some (.ref 256), some (.int x1), some (.int x2), some (.int x3), some (.long x4), none, some (.int x6), some (.int (x7 + (1))), some (.int x8), o9] [] (mkH hi hl true kp))
    (h2 : ¬ ((hi 19 1) ≤ x8) → (((hi 256 12) >>> (x7 &&& 31)) &&& (1)) = 0 → cW cd_52 (d + 1) Q 43 [some (.ref 256), some (.int x1), some (.int x2), some (.int x3), some (.long x4), none, some (.int x6), some (.int (x7 + (1))), some (.int x8), o9] [] (mkH hi hl true kp))
    (h3 : ¬ ((hi 19 1) ≤ x8) → ¬ ((((hi 256 12) >>> (x7 &&& 31)) &&& (1)) = 0) → vp_in ((((x1 * (8)) + x7) * (8)) + x8) 512)
    (h4 : ¬ ((hi 19 1) ≤ x8) → ¬ ((((hi 256 12) >>> (x7 &&& 31)) &&& (1)) = 0) → (hi 259 ((((x1 * (8)) + x7) * (8)) + x8).toNatClampNeg) = 0 → cW cd_52 (d + 1) Q 58 [some (.ref 256), some (.int x1), some (.int x2), some (.int x3), some (.long x4), none, some (.int x6), some (.int x7), some (.int (x8 + (1))), some (.int (hi 259 ((((x1 * (8)) + x7) * (8)) + x8).toNatClampNeg))] [] (mkH hi hl true kp))
    (h5 : ¬ ((hi 19 1) ≤ x8) → ¬ ((((hi 256 12) >>> (x7 &&& 31)) &&& (1)) = 0) → ¬ ((hi 259 ((((x1 * (8)) + x7) * (8)) + x8).toNatClampNeg) = 0) → x2 = (-1) → cS (d + 1) 53 [(.ref 256), (.int x7), (.int x8), (.int (hi 259 ((((x1 * (8)) + x7) * (8)) + x8).toNatClampNeg)), (.int (0)), (.int x3)] (mkH hi hl true kp) (am_ret (cW cd_52 (d + 1) Q) 136 [some (.ref 256), some (.int x1), some (.int x2), some (.int x3), some (.long x4), none, some (.int x6), some (.int x7), some (.int x8), some (.int (hi 259 ((((x1 * (8)) + x7) * (8)) + x8).toNatClampNeg))] [(.long x4)]))
    (h6 : ¬ ((hi 19 1) ≤ x8) → ¬ ((((hi 256 12) >>> (x7 &&& 31)) &&& (1)) = 0) → ¬ ((hi 259 ((((x1 * (8)) + x7) * (8)) + x8).toNatClampNeg) = 0) → ¬ (x2 = (-1)) → vp_in x8 8)
    (h7 : ¬ ((hi 19 1) ≤ x8) → ¬ ((((hi 256 12) >>> (x7 &&& 31)) &&& (1)) = 0) → ¬ ((hi 259 ((((x1 * (8)) + x7) * (8)) + x8).toNatClampNeg) = 0) → ¬ (x2 = (-1)) → cS (d + 1) 53 [(.ref 256), (.int x7), (.int x8), (.int (hi 259 ((((x1 * (8)) + x7) * (8)) + x8).toNatClampNeg)), (.int (hi 260 x8.toNatClampNeg)), (.int x3)] (mkH hi hl true kp) (am_ret (cW cd_52 (d + 1) Q) 136 [some (.ref 256), some (.int x1), some (.int x2), some (.int x3), some (.long x4), none, some (.int x6), some (.int x7), some (.int x8), some (.int (hi 259 ((((x1 * (8)) + x7) * (8)) + x8).toNatClampNeg))] [(.long x4)]))
    : cW cd_52 (d + 1) Q 58 [some (.ref 256), some (.int x1), some (.int x2), some (.int x3), some (.long x4), none, some (.int x6), some (.int x7), some (.int x8), o9] [] (mkH hi hl true kp) :=
  cW.run (am_in [8, 43, 58, 136, 180]) 41 (And.intro (fun c1 => (And.intro (Nat.le_of_ble_eq_true rfl) (h1 c1))) (fun c2 => (And.intro (fun c3 => (And.intro (Nat.le_of_ble_eq_true rfl) (h2 c2 c3))) (fun c4 => (And.intro (h3 c2 c4) (And.intro (Nat.le_of_ble_eq_true rfl) (And.intro (fun c5 => (And.intro (Nat.le_of_ble_eq_true rfl) (h4 c2 c4 c5))) (fun c6 => (And.intro (fun c7 => (cC.of (h5 c2 c4 c6 c7))) (fun c8 => (And.intro (h6 c2 c4 c6 c8) (cC.of (h7 c2 c4 c6 c8)))))))))))))
set_option maxRecDepth 100000 in
theorem k_52t_136 {x1 : Int32} {x2 : Int32} {x3 : Int32} {x4 : Int64} {x6 : Int32} {x7 : Int32} {x8 : Int32} {x9 : Int32} {s0 : Int64} {s1 : Int64}
    (h1 : cW cd_52 (d + 1) Q 58 [some (.ref 256), some (.int x1), some (.int x2), some (.int x3), some (.long (s0 + s1)), none, some (.int (x6 ||| ((1) <<< (x8 &&& 31)))), some (.int x7), some (.int (x8 + (1))), some (.int x9)] [] (mkH hi hl true kp))
    : cW cd_52 (d + 1) Q 136 [some (.ref 256), some (.int x1), some (.int x2), some (.int x3), some (.long x4), none, some (.int x6), some (.int x7), some (.int x8), some (.int x9)] [(.long s1), (.long s0)] (mkH hi hl true kp) :=
  cW.run (am_in [8, 43, 58, 136, 180]) 10 (And.intro (Nat.le_of_ble_eq_true rfl) (And.intro (Nat.le_of_ble_eq_true rfl) (And.intro (Nat.le_of_ble_eq_true rfl) (h1))))
set_option maxRecDepth 100000 in
theorem k_52t_180 {x1 : Int32} {x2 : Int32} {x3 : Int32} {x4 : Int64} {x6 : Int32} {o8 : Option Value} {o9 : Option Value}
    (h1 : x2 = (-1) → Q (some (.long x4)) (mkH (u2 hi 256 12 x6) hl true kp))
    (h2 : ¬ (x2 = (-1)) → Q (some (.long x4)) (mkH (u2 (u2 (u2 hi 256 12 x6) 256 13 (if ((hi 256 13) + (hi 256 7)) < ((1) - x3) then ((1) - x3) else ((hi 256 13) + (hi 256 7)))) 256 14 (if (x3 - (1)) < ((hi 256 14) + (hi 256 8)) then (x3 - (1)) else ((hi 256 14) + (hi 256 8)))) hl true kp))
    : cW cd_52 (d + 1) Q 180 [some (.ref 256), some (.int x1), some (.int x2), some (.int x3), some (.long x4), none, some (.int x6), some (.ref 262), o8, o9] [] (mkH hi hl true kp) :=
  cW.run (am_in [8, 43, 58, 136, 180]) 30 (And.intro (fun c1 => (cQ.of (h1 c1))) (fun c2 => (cQ.of (h2 c2))))
-- 68: DogDecrees$Reader.readWord()V
set_option maxRecDepth 100000 in
theorem k_68_0
    (h1 : cW cd_68 (d + 1) Q 5 [some (.ref 3)] [] (mkH hi (u2 hl 3 5 0) sw kp))
    : cW cd_68 (d + 1) Q 0 [some (.ref 3)] [] (mkH hi hl sw kp) :=
  cW.run (am_in [5, 120]) 3 (h1)
theorem e_68
    (h1 : cW cd_68 (d + 1) Q 5 [some (.ref 3)] [] (mkH hi (u2 hl 3 5 0) sw kp))
    : cS ((d + 1) + 1) 68 [(.ref 3)] (mkH hi hl sw kp) Q := cS.of rfl (k_68_0 h1)
set_option maxRecDepth 100000 in
theorem k_68_5
    (h1 : (hi 1 1) ≤ (hi 3 6) → ((hi 3 6) - (hi 3 3)) ≤ (8) → cS (d + 1) 70 [(.ref 3), (.long (hl 3 5))] (mkH hi hl sw kp) (am_ret (cW cd_68 (d + 1) Q) 120 [some (.ref 3)] [(.ref 3)]))
    (h2 : (hi 1 1) ≤ (hi 3 6) → ¬ (((hi 3 6) - (hi 3 3)) ≤ (8)) → cW cd_68 (d + 1) Q 120 [some (.ref 3)] [(.int (1)), (.ref 3)] (mkH hi hl sw kp))
    (h3 : ¬ ((hi 1 1) ≤ (hi 3 6)) → (g_75 (g_88 hi (hi 3 6))) = 0 → ((hi 3 6) - (hi 3 3)) ≤ (8) → cS (d + 1) 70 [(.ref 3), (.long (hl 3 5))] (mkH hi hl sw kp) (am_ret (cW cd_68 (d + 1) Q) 120 [some (.ref 3)] [(.ref 3)]))
    (h4 : ¬ ((hi 1 1) ≤ (hi 3 6)) → (g_75 (g_88 hi (hi 3 6))) = 0 → ¬ (((hi 3 6) - (hi 3 3)) ≤ (8)) → cW cd_68 (d + 1) Q 120 [some (.ref 3)] [(.int (1)), (.ref 3)] (mkH hi hl sw kp))
    (h5 : ¬ ((hi 1 1) ≤ (hi 3 6)) → ¬ ((g_75 (g_88 hi (hi 3 6))) = 0) → (8) ≤ ((hi 3 6) - (hi 3 3)) → cW cd_68 (d + 1) Q 5 [some (.ref 3)] [] (mkH (u2 hi 3 6 ((hi 3 6) + (1))) hl sw kp))
    (h6 : ¬ ((hi 1 1) ≤ (hi 3 6)) → ¬ ((g_75 (g_88 hi (hi 3 6))) = 0) → ¬ ((8) ≤ ((hi 3 6) - (hi 3 3))) → cW cd_68 (d + 1) Q 5 [some (.ref 3)] [] (mkH (u2 hi 3 6 ((hi 3 6) + (1))) (u2 hl 3 5 (((hl 3 5) * (32)) + ((((g_88 hi (hi 3 6)) - (97)) + (1)).toInt64))) sw kp))
    : cW cd_68 (d + 1) Q 5 [some (.ref 3)] [] (mkH hi hl sw kp) :=
  cW.run (am_in [5, 120]) 44 (And.intro (fun c1 => (And.intro (fun c2 => (cC.of (h1 c1 c2))) (fun c3 => (h2 c1 c3)))) (fun c4 => (cC.of (s_88 (cC.of (s_75 (And.intro (fun c5 => (And.intro (fun c6 => (cC.of (h3 c4 c5 c6))) (fun c7 => (h4 c4 c5 c7)))) (fun c8 => (And.intro (fun c9 => (And.intro rfl (h5 c4 c8 c9))) (fun c10 => (cC.of (s_88 (And.intro rfl (h6 c4 c8 c10))))))))))))))
set_option maxRecDepth 100000 in
theorem k_68_120 {s1 : Int32}
    (h1 : Q none (mkH (u2 hi 3 2 s1) hl sw kp))
    : cW cd_68 (d + 1) Q 120 [some (.ref 3)] [(.int s1), (.ref 3)] (mkH hi hl sw kp) :=
  cW.run (am_in [5, 120]) 2 (cQ.of (h1))
-- 69: DogDecrees$Reader.readNumber()V
set_option maxRecDepth 100000 in
theorem k_69_0
    (h1 : cW cd_69 (d + 1) Q 5 [some (.ref 3), none] [] (mkH (u2 hi 3 4 (0)) hl sw kp))
    : cW cd_69 (d + 1) Q 0 [some (.ref 3), none] [] (mkH hi hl sw kp) :=
  cW.run (am_in [5]) 3 (h1)
theorem e_69
    (h1 : cW cd_69 (d + 1) Q 5 [some (.ref 3), none] [] (mkH (u2 hi 3 4 (0)) hl sw kp))
    : cS ((d + 1) + 1) 69 [(.ref 3)] (mkH hi hl sw kp) Q := cS.of rfl (k_69_0 h1)
set_option maxRecDepth 100000 in
theorem k_69_5
    (h1 : (hi 1 1) ≤ (hi 3 6) → (4) < ((hi 3 6) - (hi 3 3)) → Q none (mkH (u2 hi 3 2 (1)) hl sw kp))
    (h2 : (hi 1 1) ≤ (hi 3 6) → ¬ ((4) < ((hi 3 6) - (hi 3 3))) → (g_75 (g_88 hi (hi 3 6))) = 0 → Q none (mkH (u2 hi 3 2 (3)) hl sw kp))
    (h3 : (hi 1 1) ≤ (hi 3 6) → ¬ ((4) < ((hi 3 6) - (hi 3 3))) → ¬ ((g_75 (g_88 hi (hi 3 6))) = 0) → Q none (mkH (u2 hi 3 2 (1)) hl sw kp))
    (h4 : ¬ ((hi 1 1) ≤ (hi 3 6)) → (g_76 (g_88 hi (hi 3 6))) = 0 → (4) < ((hi 3 6) - (hi 3 3)) → Q none (mkH (u2 hi 3 2 (1)) hl sw kp))
    (h5 : ¬ ((hi 1 1) ≤ (hi 3 6)) → (g_76 (g_88 hi (hi 3 6))) = 0 → ¬ ((4) < ((hi 3 6) - (hi 3 3))) → (g_75 (g_88 hi (hi 3 6))) = 0 → Q none (mkH (u2 hi 3 2 (3)) hl sw kp))
    (h6 : ¬ ((hi 1 1) ≤ (hi 3 6)) → (g_76 (g_88 hi (hi 3 6))) = 0 → ¬ ((4) < ((hi 3 6) - (hi 3 3))) → ¬ ((g_75 (g_88 hi (hi 3 6))) = 0) → Q none (mkH (u2 hi 3 2 (1)) hl sw kp))
    (h7 : ¬ ((hi 1 1) ≤ (hi 3 6)) → ¬ ((g_76 (g_88 hi (hi 3 6))) = 0) → (4) ≤ ((hi 3 6) - (hi 3 3)) → cW cd_69 (d + 1) Q 5 [some (.ref 3), none] [] (mkH (u2 hi 3 6 ((hi 3 6) + (1))) hl sw kp))
    (h8 : ¬ ((hi 1 1) ≤ (hi 3 6)) → ¬ ((g_76 (g_88 hi (hi 3 6))) = 0) → ¬ ((4) ≤ ((hi 3 6) - (hi 3 3))) → cW cd_69 (d + 1) Q 5 [some (.ref 3), none] [] (mkH (u2 (u2 hi 3 4 (((hi 3 4) * (10)) + ((g_88 hi (hi 3 6)) - (48)))) 3 6 ((hi 3 6) + (1))) hl sw kp))
    : cW cd_69 (d + 1) Q 5 [some (.ref 3), none] [] (mkH hi hl sw kp) :=
  cW.run (am_in [5]) 41 (And.intro (fun c1 => (And.intro (fun c2 => (And.intro (Nat.le_of_ble_eq_true rfl) (And.intro (fun _ => (cQ.of (h1 c1 c2))) (fun z => absurd (show (0 : Int32) = 0 by decide) z)))) (fun c3 => (cC.of (s_88 (cC.of (s_75 (And.intro (fun c4 => (And.intro (Nat.le_of_ble_eq_true rfl) (And.intro (fun z => absurd (show (1 : Int32) = 0 from z) (by decide)) (fun _ => (cQ.of (h2 c1 c3 c4)))))) (fun c5 => (And.intro (Nat.le_of_ble_eq_true rfl) (And.intro (fun _ => (cQ.of (h3 c1 c3 c5))) (fun z => absurd (show (0 : Int32) = 0 by decide) z)))))))))))) (fun c6 => (cC.of (s_88 (cC.of (s_76 (And.intro (fun c7 => (And.intro (fun c8 => (And.intro (Nat.le_of_ble_eq_true rfl) (And.intro (fun _ => (cQ.of (h4 c6 c7 c8))) (fun z => absurd (show (0 : Int32) = 0 by decide) z)))) (fun c9 => (cC.of (s_88 (cC.of (s_75 (And.intro (fun c10 => (And.intro (Nat.le_of_ble_eq_true rfl) (And.intro (fun z => absurd (show (1 : Int32) = 0 from z) (by decide)) (fun _ => (cQ.of (h5 c6 c7 c9 c10)))))) (fun c11 => (And.intro (Nat.le_of_ble_eq_true rfl) (And.intro (fun _ => (cQ.of (h6 c6 c7 c9 c11))) (fun z => absurd (show (0 : Int32) = 0 by decide) z)))))))))))) (fun c12 => (And.intro (fun c13 => (And.intro rfl (h7 c6 c12 c13))) (fun c14 => (cC.of (s_88 (And.intro rfl (h8 c6 c12 c14))))))))))))))
-- 72: DogDecrees$Reader.refuse(I)Z
set_option maxRecDepth 100000 in
theorem k_72_0 {x1 : Int32}
    (h1 : (hi 3 2) = (1) → cS d 73 [(.ref 3), (.int (1)), (.int (hi 3 3))] (mkH hi hl sw kp) (am_ret (cW cd_72 d Q) 21 [some (.ref 3), some (.int x1)] []))
    (h2 : ¬ ((hi 3 2) = (1)) → cS d 73 [(.ref 3), (.int x1), (.int (hi 3 3))] (mkH hi hl sw kp) (am_ret (cW cd_72 d Q) 21 [some (.ref 3), some (.int x1)] []))
    : cW cd_72 d Q 0 [some (.ref 3), some (.int x1)] [] (mkH hi hl sw kp) :=
  cW.run (am_in [21]) 10 (And.intro (fun c1 => (cC.of (h1 c1))) (fun c2 => (cC.of (h2 c2))))
theorem e_72 {x1 : Int32}
    (h1 : (hi 3 2) = (1) → cS d 73 [(.ref 3), (.int (1)), (.int (hi 3 3))] (mkH hi hl sw kp) (am_ret (cW cd_72 d Q) 21 [some (.ref 3), some (.int x1)] []))
    (h2 : ¬ ((hi 3 2) = (1)) → cS d 73 [(.ref 3), (.int x1), (.int (hi 3 3))] (mkH hi hl sw kp) (am_ret (cW cd_72 d Q) 21 [some (.ref 3), some (.int x1)] []))
    : cS (d + 1) 72 [(.ref 3), (.int x1)] (mkH hi hl sw kp) Q := cS.of rfl (k_72_0 h1 h2)
set_option maxRecDepth 100000 in
theorem k_72_21 {x1 : Int32} {s0 : Int32}
    (h1 : s0 = 0 ∨ s0 = 1)
    (h2 : Q (some (.int s0)) (mkH hi hl sw kp))
    : cW cd_72 d Q 21 [some (.ref 3), some (.int x1)] [(.int s0)] (mkH hi hl sw kp) :=
  cW.run (am_in [21]) 1 (And.intro (h1) (cQ.of (h2)))
-- 79: DogDecrees$State.begin(LDogDecrees$Village;)V
set_option maxRecDepth 100000 in
theorem k_79_0
    (h1 : (g_108 hi (hi 19 6)) = 0 → cS (d + 1) 287 [(.ref 29), (.int (0))] (mkH (u2 (u2 (u2 hi 28 0 (-1)) 28 1 (0)) 28 2 (hi 19 8)) hl sw kp) (am_ret (cW cd_79 (d + 1) Q) 44 [some (.ref 28), some (.ref 19)] []))
    (h2 : ¬ ((g_108 hi (hi 19 6)) = 0) → cS (d + 1) 287 [(.ref 29), (.int (0))] (mkH (u2 (u2 (u2 hi 28 0 (hi 19 6)) 28 1 (0)) 28 2 (hi 19 8)) hl sw kp) (am_ret (cW cd_79 (d + 1) Q) 44 [some (.ref 28), some (.ref 19)] []))
    : cW cd_79 (d + 1) Q 0 [some (.ref 28), some (.ref 19)] [] (mkH hi hl sw kp) :=
  cW.run (am_in [44, 52, 60]) 21 (cC.of (s_108 (And.intro (fun c1 => (cC.of (h1 c1))) (fun c2 => (cC.of (h2 c2))))))
theorem e_79
    (h1 : (g_108 hi (hi 19 6)) = 0 → cS (d + 1) 287 [(.ref 29), (.int (0))] (mkH (u2 (u2 (u2 hi 28 0 (-1)) 28 1 (0)) 28 2 (hi 19 8)) hl sw kp) (am_ret (cW cd_79 (d + 1) Q) 44 [some (.ref 28), some (.ref 19)] []))
    (h2 : ¬ ((g_108 hi (hi 19 6)) = 0) → cS (d + 1) 287 [(.ref 29), (.int (0))] (mkH (u2 (u2 (u2 hi 28 0 (hi 19 6)) 28 1 (0)) 28 2 (hi 19 8)) hl sw kp) (am_ret (cW cd_79 (d + 1) Q) 44 [some (.ref 28), some (.ref 19)] []))
    : cS ((d + 1) + 1) 79 [(.ref 28), (.ref 19)] (mkH hi hl sw kp) Q := cS.of rfl (k_79_0 h1 h2)
set_option maxRecDepth 100000 in
theorem k_79_44
    (h1 : cS (d + 1) 287 [(.ref 30), (.int (0))] (mkH hi hl sw kp) (am_ret (cW cd_79 (d + 1) Q) 52 [some (.ref 28), some (.ref 19)] []))
    : cW cd_79 (d + 1) Q 44 [some (.ref 28), some (.ref 19)] [] (mkH hi hl sw kp) :=
  cW.run (am_in [44, 52, 60]) 4 (cC.of (h1))
set_option maxRecDepth 100000 in
theorem k_79_52
    (h1 : cS (d + 1) 287 [(.ref 31), (.int (0))] (mkH hi hl sw kp) (am_ret (cW cd_79 (d + 1) Q) 60 [some (.ref 28), some (.ref 19)] []))
    : cW cd_79 (d + 1) Q 52 [some (.ref 28), some (.ref 19)] [] (mkH hi hl sw kp) :=
  cW.run (am_in [44, 52, 60]) 4 (cC.of (h1))
set_option maxRecDepth 100000 in
theorem k_79_60
    (h1 : Q none (mkH hi hl sw kp))
    : cW cd_79 (d + 1) Q 60 [some (.ref 28), some (.ref 19)] [] (mkH hi hl sw kp) :=
  cW.run (am_in [44, 52, 60]) 1 (cQ.of (h1))
-- 84: DogDecrees$State.dogBit()I
set_option maxRecDepth 100000 in
theorem k_84_0
    (h1 : (g_158 (hi 28 0) (0 : Int32) (7 : Int32)) = 0 → Q (some (.int (0))) (mkH hi hl sw kp))
    (h2 : ¬ ((g_158 (hi 28 0) (0 : Int32) (7 : Int32)) = 0) → Q (some (.int ((1) <<< ((hi 28 0) &&& 31)))) (mkH hi hl sw kp))
    : cW cd_84 (d + 1) Q 0 [some (.ref 28)] [] (mkH hi hl sw kp) :=
  cW.run (am_in []) 12 (cC.of (s_158 (And.intro (fun c1 => (cQ.of (h1 c1))) (fun c2 => (cQ.of (h2 c2))))))
theorem e_84
    (h1 : (g_158 (hi 28 0) (0 : Int32) (7 : Int32)) = 0 → Q (some (.int (0))) (mkH hi hl sw kp))
    (h2 : ¬ ((g_158 (hi 28 0) (0 : Int32) (7 : Int32)) = 0) → Q (some (.int ((1) <<< ((hi 28 0) &&& 31)))) (mkH hi hl sw kp))
    : cS ((d + 1) + 1) 84 [(.ref 28)] (mkH hi hl sw kp) Q := cS.of rfl (k_84_0 h1 h2)
def g_84 (hi : Nat → Nat → Int32) : Int32 := if (g_158 (hi 28 0) (0 : Int32) (7 : Int32)) = 0 then (0) else (((1) <<< ((hi 28 0) &&& 31)))
set_option maxRecDepth 100000 in
theorem s_84 (w : Q (some (.int (g_84 hi))) (mkH hi hl sw kp)) : cS ((d + 1) + 1) 84 [(.ref 28)] (mkH hi hl sw kp) Q :=
  e_84 (fun c1 => by
      have e : g_84 hi = (0) := by
        unfold g_84
        rw [if_pos c1]
      rw [e] at w
      exact w) (fun c2 => by
      have e : g_84 hi = ((1) <<< ((hi 28 0) &&& 31)) := by
        unfold g_84
        rw [if_neg c2]
      rw [e] at w
      exact w)
-- 106: DogDecrees$Village.clear()V
set_option maxRecDepth 100000 in
theorem k_106_0
    (h1 : cW cd_106 d Q 36 [some (.ref 5)] [] (mkH (u2 (u2 (u2 (u2 (u2 (u2 (u2 hi 5 0 (0)) 5 1 (0)) 5 2 (0)) 5 3 (0)) 5 4 (8)) 5 5 (1)) 5 6 (0)) hl sw kp))
    : cW cd_106 d Q 0 [some (.ref 5)] [] (mkH hi hl sw kp) :=
  cW.run (am_in [36, 54, 62, 69]) 21 (h1)
theorem e_106
    (h1 : cW cd_106 d Q 36 [some (.ref 5)] [] (mkH (u2 (u2 (u2 (u2 (u2 (u2 (u2 hi 5 0 (0)) 5 1 (0)) 5 2 (0)) 5 3 (0)) 5 4 (8)) 5 5 (1)) 5 6 (0)) hl sw kp))
    : cS (d + 1) 106 [(.ref 5)] (mkH hi hl sw kp) Q := cS.of rfl (k_106_0 h1)
set_option maxRecDepth 100000 in
theorem k_106_36
    (h1 : cS d 287 [(.ref 8), (.int (0))] (mkH (u2 (u2 hi 5 7 (0)) 5 8 (0)) hl sw kp) (am_ret (cW cd_106 d Q) 54 [some (.ref 5)] []))
    : cW cd_106 d Q 36 [some (.ref 5)] [] (mkH hi hl sw kp) :=
  cW.run (am_in [36, 54, 62, 69]) 10 (cC.of (h1))
set_option maxRecDepth 100000 in
theorem k_106_54
    (h1 : cS d 287 [(.ref 10), (.int (0))] (mkH hi hl sw kp) (am_ret (cW cd_106 d Q) 62 [some (.ref 5)] []))
    : cW cd_106 d Q 54 [some (.ref 5)] [] (mkH hi hl sw kp) :=
  cW.run (am_in [36, 54, 62, 69]) 4 (cC.of (h1))
set_option maxRecDepth 100000 in
theorem k_106_62
    (h1 : cS d 7 [(.ref 11)] (mkH hi hl sw kp) (am_ret (cW cd_106 d Q) 69 [some (.ref 5)] []))
    : cW cd_106 d Q 62 [some (.ref 5)] [] (mkH hi hl sw kp) :=
  cW.run (am_in [36, 54, 62, 69]) 3 (cC.of (h1))
set_option maxRecDepth 100000 in
theorem k_106_69
    (h1 : Q none (mkH hi hl sw kp))
    : cW cd_106 d Q 69 [some (.ref 5)] [] (mkH hi hl sw kp) :=
  cW.run (am_in [36, 54, 62, 69]) 1 (cQ.of (h1))
-- 107: DogDecrees$Village.copyFrom(LDogDecrees$Village;)V
set_option maxRecDepth 100000 in
theorem k_107_0
    (h1 : cW cd_107 d Q 56 [some (.ref 19), some (.ref 5)] [] (mkH (u2 (u2 (u2 (u2 (u2 (u2 (u2 hi 19 0 (hi 5 0)) 19 1 (hi 5 1)) 19 2 (hi 5 2)) 19 3 (hi 5 3)) 19 4 (hi 5 4)) 19 5 (hi 5 5)) 19 6 (hi 5 6)) hl sw kp))
    : cW cd_107 d Q 0 [some (.ref 19), some (.ref 5)] [] (mkH hi hl sw kp) :=
  cW.run (am_in [56, 146, 157]) 28 (h1)
theorem e_107
    (h1 : cW cd_107 d Q 56 [some (.ref 19), some (.ref 5)] [] (mkH (u2 (u2 (u2 (u2 (u2 (u2 (u2 hi 19 0 (hi 5 0)) 19 1 (hi 5 1)) 19 2 (hi 5 2)) 19 3 (hi 5 3)) 19 4 (hi 5 4)) 19 5 (hi 5 5)) 19 6 (hi 5 6)) hl sw kp))
    : cS (d + 1) 107 [(.ref 19), (.ref 5)] (mkH hi hl sw kp) Q := cS.of rfl (k_107_0 h1)
set_option maxRecDepth 100000 in
theorem k_107_56
    (h1 : cW cd_107 d Q 146 [some (.ref 19), some (.ref 5)] [] (mkH (uR (uR (uR (uR (uR (u2 (u2 hi 19 7 (hi 5 7)) 19 8 (hi 5 8)) 20 (va_cpy ((u2 (u2 hi 19 7 (hi 5 7)) 19 8 (hi 5 8)) 6) ((u2 (u2 hi 19 7 (hi 5 7)) 19 8 (hi 5 8)) 20) 0 0 8)) 21 (va_cpy ((uR (u2 (u2 hi 19 7 (hi 5 7)) 19 8 (hi 5 8)) 20 (va_cpy ((u2 (u2 hi 19 7 (hi 5 7)) 19 8 (hi 5 8)) 6) ((u2 (u2 hi 19 7 (hi 5 7)) 19 8 (hi 5 8)) 20) 0 0 8)) 7) ((uR (u2 (u2 hi 19 7 (hi 5 7)) 19 8 (hi 5 8)) 20 (va_cpy ((u2 (u2 hi 19 7 (hi 5 7)) 19 8 (hi 5 8)) 6) ((u2 (u2 hi 19 7 (hi 5 7)) 19 8 (hi 5 8)) 20) 0 0 8)) 21) 0 0 8)) 22 (va_cpy ((uR (uR (u2 (u2 hi 19 7 (hi 5 7)) 19 8 (hi 5 8)) 20 (va_cpy ((u2 (u2 hi 19 7 (hi 5 7)) 19 8 (hi 5 8)) 6) ((u2 (u2 hi 19 7 (hi 5 7)) 19 8 (hi 5 8)) 20) 0 0 8)) 21 (va_cpy ((uR (u2 (u2 hi 19 7 (hi 5 7)) 19 8 (hi 5 8)) 20 (va_cpy ((u2 (u2 hi 19 7 (hi 5 7)) 19 8 (hi 5 8)) 6) ((u2 (u2 hi 19 7 (hi 5 7)) 19 8 (hi 5 8)) 20) 0 0 8)) 7) ((uR (u2 (u2 hi 19 7 (hi 5 7)) 19 8 (hi 5 8)) 20 (va_cpy ((u2 (u2 hi 19 7 (hi 5 7)) 19 8 (hi 5 8)) 6) ((u2 (u2 hi 19 7 (hi 5 7)) 19 8 (hi 5 8)) 20) 0 0 8)) 21) 0 0 8)) 8) ((uR (uR (u2 (u2 hi 19 7 (hi 5 7)) 19 8 (hi 5 8)) 20 (va_cpy ((u2 (u2 hi 19 7 (hi 5 7)) 19 8 (hi 5 8)) 6) ((u2 (u2 hi 19 7 (hi 5 7)) 19 8 (hi 5 8)) 20) 0 0 8)) 21 (va_cpy ((uR (u2 (u2 hi 19 7 (hi 5 7)) 19 8 (hi 5 8)) 20 (va_cpy ((u2 (u2 hi 19 7 (hi 5 7)) 19 8 (hi 5 8)) 6) ((u2 (u2 hi 19 7 (hi 5 7)) 19 8 (hi 5 8)) 20) 0 0 8)) 7) ((uR (u2 (u2 hi 19 7 (hi 5 7)) 19 8 (hi 5 8)) 20 (va_cpy ((u2 (u2 hi 19 7 (hi 5 7)) 19 8 (hi 5 8)) 6) ((u2 (u2 hi 19 7 (hi 5 7)) 19 8 (hi 5 8)) 20) 0 0 8)) 21) 0 0 8)) 22) 0 0 8)) 23 (va_cpy ((uR (uR (uR (u2 (u2 hi 19 7 (hi 5 7)) 19 8 (hi 5 8)) 20 (va_cpy ((u2 (u2 hi 19 7 (hi 5 7)) 19 8 (hi 5 8)) 6) ((u2 (u2 hi 19 7 (hi 5 7)) 19 8 (hi 5 8)) 20) 0 0 8)) 21 (va_cpy ((uR (u2 (u2 hi 19 7 (hi 5 7)) 19 8 (hi 5 8)) 20 (va_cpy ((u2 (u2 hi 19 7 (hi 5 7)) 19 8 (hi 5 8)) 6) ((u2 (u2 hi 19 7 (hi 5 7)) 19 8 (hi 5 8)) 20) 0 0 8)) 7) ((uR (u2 (u2 hi 19 7 (hi 5 7)) 19 8 (hi 5 8)) 20 (va_cpy ((u2 (u2 hi 19 7 (hi 5 7)) 19 8 (hi 5 8)) 6) ((u2 (u2 hi 19 7 (hi 5 7)) 19 8 (hi 5 8)) 20) 0 0 8)) 21) 0 0 8)) 22 (va_cpy ((uR (uR (u2 (u2 hi 19 7 (hi 5 7)) 19 8 (hi 5 8)) 20 (va_cpy ((u2 (u2 hi 19 7 (hi 5 7)) 19 8 (hi 5 8)) 6) ((u2 (u2 hi 19 7 (hi 5 7)) 19 8 (hi 5 8)) 20) 0 0 8)) 21 (va_cpy ((uR (u2 (u2 hi 19 7 (hi 5 7)) 19 8 (hi 5 8)) 20 (va_cpy ((u2 (u2 hi 19 7 (hi 5 7)) 19 8 (hi 5 8)) 6) ((u2 (u2 hi 19 7 (hi 5 7)) 19 8 (hi 5 8)) 20) 0 0 8)) 7) ((uR (u2 (u2 hi 19 7 (hi 5 7)) 19 8 (hi 5 8)) 20 (va_cpy ((u2 (u2 hi 19 7 (hi 5 7)) 19 8 (hi 5 8)) 6) ((u2 (u2 hi 19 7 (hi 5 7)) 19 8 (hi 5 8)) 20) 0 0 8)) 21) 0 0 8)) 8) ((uR (uR (u2 (u2 hi 19 7 (hi 5 7)) 19 8 (hi 5 8)) 20 (va_cpy ((u2 (u2 hi 19 7 (hi 5 7)) 19 8 (hi 5 8)) 6) ((u2 (u2 hi 19 7 (hi 5 7)) 19 8 (hi 5 8)) 20) 0 0 8)) 21 (va_cpy ((uR (u2 (u2 hi 19 7 (hi 5 7)) 19 8 (hi 5 8)) 20 (va_cpy ((u2 (u2 hi 19 7 (hi 5 7)) 19 8 (hi 5 8)) 6) ((u2 (u2 hi 19 7 (hi 5 7)) 19 8 (hi 5 8)) 20) 0 0 8)) 7) ((uR (u2 (u2 hi 19 7 (hi 5 7)) 19 8 (hi 5 8)) 20 (va_cpy ((u2 (u2 hi 19 7 (hi 5 7)) 19 8 (hi 5 8)) 6) ((u2 (u2 hi 19 7 (hi 5 7)) 19 8 (hi 5 8)) 20) 0 0 8)) 21) 0 0 8)) 22) 0 0 8)) 9) ((uR (uR (uR (u2 (u2 hi 19 7 (hi 5 7)) 19 8 (hi 5 8)) 20 (va_cpy ((u2 (u2 hi 19 7 (hi 5 7)) 19 8 (hi 5 8)) 6) ((u2 (u2 hi 19 7 (hi 5 7)) 19 8 (hi 5 8)) 20) 0 0 8)) 21 (va_cpy ((uR (u2 (u2 hi 19 7 (hi 5 7)) 19 8 (hi 5 8)) 20 (va_cpy ((u2 (u2 hi 19 7 (hi 5 7)) 19 8 (hi 5 8)) 6) ((u2 (u2 hi 19 7 (hi 5 7)) 19 8 (hi 5 8)) 20) 0 0 8)) 7) ((uR (u2 (u2 hi 19 7 (hi 5 7)) 19 8 (hi 5 8)) 20 (va_cpy ((u2 (u2 hi 19 7 (hi 5 7)) 19 8 (hi 5 8)) 6) ((u2 (u2 hi 19 7 (hi 5 7)) 19 8 (hi 5 8)) 20) 0 0 8)) 21) 0 0 8)) 22 (va_cpy ((uR (uR (u2 (u2 hi 19 7 (hi 5 7)) 19 8 (hi 5 8)) 20 (va_cpy ((u2 (u2 hi 19 7 (hi 5 7)) 19 8 (hi 5 8)) 6) ((u2 (u2 hi 19 7 (hi 5 7)) 19 8 (hi 5 8)) 20) 0 0 8)) 21 (va_cpy ((uR (u2 (u2 hi 19 7 (hi 5 7)) 19 8 (hi 5 8)) 20 (va_cpy ((u2 (u2 hi 19 7 (hi 5 7)) 19 8 (hi 5 8)) 6) ((u2 (u2 hi 19 7 (hi 5 7)) 19 8 (hi 5 8)) 20) 0 0 8)) 7) ((uR (u2 (u2 hi 19 7 (hi 5 7)) 19 8 (hi 5 8)) 20 (va_cpy ((u2 (u2 hi 19 7 (hi 5 7)) 19 8 (hi 5 8)) 6) ((u2 (u2 hi 19 7 (hi 5 7)) 19 8 (hi 5 8)) 20) 0 0 8)) 21) 0 0 8)) 8) ((uR (uR (u2 (u2 hi 19 7 (hi 5 7)) 19 8 (hi 5 8)) 20 (va_cpy ((u2 (u2 hi 19 7 (hi 5 7)) 19 8 (hi 5 8)) 6) ((u2 (u2 hi 19 7 (hi 5 7)) 19 8 (hi 5 8)) 20) 0 0 8)) 21 (va_cpy ((uR (u2 (u2 hi 19 7 (hi 5 7)) 19 8 (hi 5 8)) 20 (va_cpy ((u2 (u2 hi 19 7 (hi 5 7)) 19 8 (hi 5 8)) 6) ((u2 (u2 hi 19 7 (hi 5 7)) 19 8 (hi 5 8)) 20) 0 0 8)) 7) ((uR (u2 (u2 hi 19 7 (hi 5 7)) 19 8 (hi 5 8)) 20 (va_cpy ((u2 (u2 hi 19 7 (hi 5 7)) 19 8 (hi 5 8)) 6) ((u2 (u2 hi 19 7 (hi 5 7)) 19 8 (hi 5 8)) 20) 0 0 8)) 21) 0 0 8)) 22) 0 0 8)) 23) 0 0 4)) 24 (va_cpy ((uR (uR (uR (uR (u2 (u2 hi 19 7 (hi 5 7)) 19 8 (hi 5 8)) 20 (va_cpy ((u2 (u2 hi 19 7 (hi 5 7)) 19 8 (hi 5 8)) 6) ((u2 (u2 hi 19 7 (hi 5 7)) 19 8 (hi 5 8)) 20) 0 0 8)) 21 (va_cpy ((uR (u2 (u2 hi 19 7 (hi 5 7)) 19 8 (hi 5 8)) 20 (va_cpy ((u2 (u2 hi 19 7 (hi 5 7)) 19 8 (hi 5 8)) 6) ((u2 (u2 hi 19 7 (hi 5 7)) 19 8 (hi 5 8)) 20) 0 0 8)) 7) ((uR (u2 (u2 hi 19 7 (hi 5 7)) 19 8 (hi 5 8)) 20 (va_cpy ((u2 (u2 hi 19 7 (hi 5 7)) 19 8 (hi 5 8)) 6) ((u2 (u2 hi 19 7 (hi 5 7)) 19 8 (hi 5 8)) 20) 0 0 8)) 21) 0 0 8)) 22 (va_cpy ((uR (uR (u2 (u2 hi 19 7 (hi 5 7)) 19 8 (hi 5 8)) 20 (va_cpy ((u2 (u2 hi 19 7 (hi 5 7)) 19 8 (hi 5 8)) 6) ((u2 (u2 hi 19 7 (hi 5 7)) 19 8 (hi 5 8)) 20) 0 0 8)) 21 (va_cpy ((uR (u2 (u2 hi 19 7 (hi 5 7)) 19 8 (hi 5 8)) 20 (va_cpy ((u2 (u2 hi 19 7 (hi 5 7)) 19 8 (hi 5 8)) 6) ((u2 (u2 hi 19 7 (hi 5 7)) 19 8 (hi 5 8)) 20) 0 0 8)) 7) ((uR (u2 (u2 hi 19 7 (hi 5 7)) 19 8 (hi 5 8)) 20 (va_cpy ((u2 (u2 hi 19 7 (hi 5 7)) 19 8 (hi 5 8)) 6) ((u2 (u2 hi 19 7 (hi 5 7)) 19 8 (hi 5 8)) 20) 0 0 8)) 21) 0 0 8)) 8) ((uR (uR (u2 (u2 hi 19 7 (hi 5 7)) 19 8 (hi 5 8)) 20 (va_cpy ((u2 (u2 hi 19 7 (hi 5 7)) 19 8 (hi 5 8)) 6) ((u2 (u2 hi 19 7 (hi 5 7)) 19 8 (hi 5 8)) 20) 0 0 8)) 21 (va_cpy ((uR (u2 (u2 hi 19 7 (hi 5 7)) 19 8 (hi 5 8)) 20 (va_cpy ((u2 (u2 hi 19 7 (hi 5 7)) 19 8 (hi 5 8)) 6) ((u2 (u2 hi 19 7 (hi 5 7)) 19 8 (hi 5 8)) 20) 0 0 8)) 7) ((uR (u2 (u2 hi 19 7 (hi 5 7)) 19 8 (hi 5 8)) 20 (va_cpy ((u2 (u2 hi 19 7 (hi 5 7)) 19 8 (hi 5 8)) 6) ((u2 (u2 hi 19 7 (hi 5 7)) 19 8 (hi 5 8)) 20) 0 0 8)) 21) 0 0 8)) 22) 0 0 8)) 23 (va_cpy ((uR (uR (uR (u2 (u2 hi 19 7 (hi 5 7)) 19 8 (hi 5 8)) 20 (va_cpy ((u2 (u2 hi 19 7 (hi 5 7)) 19 8 (hi 5 8)) 6) ((u2 (u2 hi 19 7 (hi 5 7)) 19 8 (hi 5 8)) 20) 0 0 8)) 21 (va_cpy ((uR (u2 (u2 hi 19 7 (hi 5 7)) 19 8 (hi 5 8)) 20 (va_cpy ((u2 (u2 hi 19 7 (hi 5 7)) 19 8 (hi 5 8)) 6) ((u2 (u2 hi 19 7 (hi 5 7)) 19 8 (hi 5 8)) 20) 0 0 8)) 7) ((uR (u2 (u2 hi 19 7 (hi 5 7)) 19 8 (hi 5 8)) 20 (va_cpy ((u2 (u2 hi 19 7 (hi 5 7)) 19 8 (hi 5 8)) 6) ((u2 (u2 hi 19 7 (hi 5 7)) 19 8 (hi 5 8)) 20) 0 0 8)) 21) 0 0 8)) 22 (va_cpy ((uR (uR (u2 (u2 hi 19 7 (hi 5 7)) 19 8 (hi 5 8)) 20 (va_cpy ((u2 (u2 hi 19 7 (hi 5 7)) 19 8 (hi 5 8)) 6) ((u2 (u2 hi 19 7 (hi 5 7)) 19 8 (hi 5 8)) 20) 0 0 8)) 21 (va_cpy ((uR (u2 (u2 hi 19 7 (hi 5 7)) 19 8 (hi 5 8)) 20 (va_cpy ((u2 (u2 hi 19 7 (hi 5 7)) 19 8 (hi 5 8)) 6) ((u2 (u2 hi 19 7 (hi 5 7)) 19 8 (hi 5 8)) 20) 0 0 8)) 7) ((uR (u2 (u2 hi 19 7 (hi 5 7)) 19 8 (hi 5 8)) 20 (va_cpy ((u2 (u2 hi 19 7 (hi 5 7)) 19 8 (hi 5 8)) 6) ((u2 (u2 hi 19 7 (hi 5 7)) 19 8 (hi 5 8)) 20) 0 0 8)) 21) 0 0 8)) 8) ((uR (uR (u2 (u2 hi 19 7 (hi 5 7)) 19 8 (hi 5 8)) 20 (va_cpy ((u2 (u2 hi 19 7 (hi 5 7)) 19 8 (hi 5 8)) 6) ((u2 (u2 hi 19 7 (hi 5 7)) 19 8 (hi 5 8)) 20) 0 0 8)) 21 (va_cpy ((uR (u2 (u2 hi 19 7 (hi 5 7)) 19 8 (hi 5 8)) 20 (va_cpy ((u2 (u2 hi 19 7 (hi 5 7)) 19 8 (hi 5 8)) 6) ((u2 (u2 hi 19 7 (hi 5 7)) 19 8 (hi 5 8)) 20) 0 0 8)) 7) ((uR (u2 (u2 hi 19 7 (hi 5 7)) 19 8 (hi 5 8)) 20 (va_cpy ((u2 (u2 hi 19 7 (hi 5 7)) 19 8 (hi 5 8)) 6) ((u2 (u2 hi 19 7 (hi 5 7)) 19 8 (hi 5 8)) 20) 0 0 8)) 21) 0 0 8)) 22) 0 0 8)) 9) ((uR (uR (uR (u2 (u2 hi 19 7 (hi 5 7)) 19 8 (hi 5 8)) 20 (va_cpy ((u2 (u2 hi 19 7 (hi 5 7)) 19 8 (hi 5 8)) 6) ((u2 (u2 hi 19 7 (hi 5 7)) 19 8 (hi 5 8)) 20) 0 0 8)) 21 (va_cpy ((uR (u2 (u2 hi 19 7 (hi 5 7)) 19 8 (hi 5 8)) 20 (va_cpy ((u2 (u2 hi 19 7 (hi 5 7)) 19 8 (hi 5 8)) 6) ((u2 (u2 hi 19 7 (hi 5 7)) 19 8 (hi 5 8)) 20) 0 0 8)) 7) ((uR (u2 (u2 hi 19 7 (hi 5 7)) 19 8 (hi 5 8)) 20 (va_cpy ((u2 (u2 hi 19 7 (hi 5 7)) 19 8 (hi 5 8)) 6) ((u2 (u2 hi 19 7 (hi 5 7)) 19 8 (hi 5 8)) 20) 0 0 8)) 21) 0 0 8)) 22 (va_cpy ((uR (uR (u2 (u2 hi 19 7 (hi 5 7)) 19 8 (hi 5 8)) 20 (va_cpy ((u2 (u2 hi 19 7 (hi 5 7)) 19 8 (hi 5 8)) 6) ((u2 (u2 hi 19 7 (hi 5 7)) 19 8 (hi 5 8)) 20) 0 0 8)) 21 (va_cpy ((uR (u2 (u2 hi 19 7 (hi 5 7)) 19 8 (hi 5 8)) 20 (va_cpy ((u2 (u2 hi 19 7 (hi 5 7)) 19 8 (hi 5 8)) 6) ((u2 (u2 hi 19 7 (hi 5 7)) 19 8 (hi 5 8)) 20) 0 0 8)) 7) ((uR (u2 (u2 hi 19 7 (hi 5 7)) 19 8 (hi 5 8)) 20 (va_cpy ((u2 (u2 hi 19 7 (hi 5 7)) 19 8 (hi 5 8)) 6) ((u2 (u2 hi 19 7 (hi 5 7)) 19 8 (hi 5 8)) 20) 0 0 8)) 21) 0 0 8)) 8) ((uR (uR (u2 (u2 hi 19 7 (hi 5 7)) 19 8 (hi 5 8)) 20 (va_cpy ((u2 (u2 hi 19 7 (hi 5 7)) 19 8 (hi 5 8)) 6) ((u2 (u2 hi 19 7 (hi 5 7)) 19 8 (hi 5 8)) 20) 0 0 8)) 21 (va_cpy ((uR (u2 (u2 hi 19 7 (hi 5 7)) 19 8 (hi 5 8)) 20 (va_cpy ((u2 (u2 hi 19 7 (hi 5 7)) 19 8 (hi 5 8)) 6) ((u2 (u2 hi 19 7 (hi 5 7)) 19 8 (hi 5 8)) 20) 0 0 8)) 7) ((uR (u2 (u2 hi 19 7 (hi 5 7)) 19 8 (hi 5 8)) 20 (va_cpy ((u2 (u2 hi 19 7 (hi 5 7)) 19 8 (hi 5 8)) 6) ((u2 (u2 hi 19 7 (hi 5 7)) 19 8 (hi 5 8)) 20) 0 0 8)) 21) 0 0 8)) 22) 0 0 8)) 23) 0 0 4)) 10) ((uR (uR (uR (uR (u2 (u2 hi 19 7 (hi 5 7)) 19 8 (hi 5 8)) 20 (va_cpy ((u2 (u2 hi 19 7 (hi 5 7)) 19 8 (hi 5 8)) 6) ((u2 (u2 hi 19 7 (hi 5 7)) 19 8 (hi 5 8)) 20) 0 0 8)) 21 (va_cpy ((uR (u2 (u2 hi 19 7 (hi 5 7)) 19 8 (hi 5 8)) 20 (va_cpy ((u2 (u2 hi 19 7 (hi 5 7)) 19 8 (hi 5 8)) 6) ((u2 (u2 hi 19 7 (hi 5 7)) 19 8 (hi 5 8)) 20) 0 0 8)) 7) ((uR (u2 (u2 hi 19 7 (hi 5 7)) 19 8 (hi 5 8)) 20 (va_cpy ((u2 (u2 hi 19 7 (hi 5 7)) 19 8 (hi 5 8)) 6) ((u2 (u2 hi 19 7 (hi 5 7)) 19 8 (hi 5 8)) 20) 0 0 8)) 21) 0 0 8)) 22 (va_cpy ((uR (uR (u2 (u2 hi 19 7 (hi 5 7)) 19 8 (hi 5 8)) 20 (va_cpy ((u2 (u2 hi 19 7 (hi 5 7)) 19 8 (hi 5 8)) 6) ((u2 (u2 hi 19 7 (hi 5 7)) 19 8 (hi 5 8)) 20) 0 0 8)) 21 (va_cpy ((uR (u2 (u2 hi 19 7 (hi 5 7)) 19 8 (hi 5 8)) 20 (va_cpy ((u2 (u2 hi 19 7 (hi 5 7)) 19 8 (hi 5 8)) 6) ((u2 (u2 hi 19 7 (hi 5 7)) 19 8 (hi 5 8)) 20) 0 0 8)) 7) ((uR (u2 (u2 hi 19 7 (hi 5 7)) 19 8 (hi 5 8)) 20 (va_cpy ((u2 (u2 hi 19 7 (hi 5 7)) 19 8 (hi 5 8)) 6) ((u2 (u2 hi 19 7 (hi 5 7)) 19 8 (hi 5 8)) 20) 0 0 8)) 21) 0 0 8)) 8) ((uR (uR (u2 (u2 hi 19 7 (hi 5 7)) 19 8 (hi 5 8)) 20 (va_cpy ((u2 (u2 hi 19 7 (hi 5 7)) 19 8 (hi 5 8)) 6) ((u2 (u2 hi 19 7 (hi 5 7)) 19 8 (hi 5 8)) 20) 0 0 8)) 21 (va_cpy ((uR (u2 (u2 hi 19 7 (hi 5 7)) 19 8 (hi 5 8)) 20 (va_cpy ((u2 (u2 hi 19 7 (hi 5 7)) 19 8 (hi 5 8)) 6) ((u2 (u2 hi 19 7 (hi 5 7)) 19 8 (hi 5 8)) 20) 0 0 8)) 7) ((uR (u2 (u2 hi 19 7 (hi 5 7)) 19 8 (hi 5 8)) 20 (va_cpy ((u2 (u2 hi 19 7 (hi 5 7)) 19 8 (hi 5 8)) 6) ((u2 (u2 hi 19 7 (hi 5 7)) 19 8 (hi 5 8)) 20) 0 0 8)) 21) 0 0 8)) 22) 0 0 8)) 23 (va_cpy ((uR (uR (uR (u2 (u2 hi 19 7 (hi 5 7)) 19 8 (hi 5 8)) 20 (va_cpy ((u2 (u2 hi 19 7 (hi 5 7)) 19 8 (hi 5 8)) 6) ((u2 (u2 hi 19 7 (hi 5 7)) 19 8 (hi 5 8)) 20) 0 0 8)) 21 (va_cpy ((uR (u2 (u2 hi 19 7 (hi 5 7)) 19 8 (hi 5 8)) 20 (va_cpy ((u2 (u2 hi 19 7 (hi 5 7)) 19 8 (hi 5 8)) 6) ((u2 (u2 hi 19 7 (hi 5 7)) 19 8 (hi 5 8)) 20) 0 0 8)) 7) ((uR (u2 (u2 hi 19 7 (hi 5 7)) 19 8 (hi 5 8)) 20 (va_cpy ((u2 (u2 hi 19 7 (hi 5 7)) 19 8 (hi 5 8)) 6) ((u2 (u2 hi 19 7 (hi 5 7)) 19 8 (hi 5 8)) 20) 0 0 8)) 21) 0 0 8)) 22 (va_cpy ((uR (uR (u2 (u2 hi 19 7 (hi 5 7)) 19 8 (hi 5 8)) 20 (va_cpy ((u2 (u2 hi 19 7 (hi 5 7)) 19 8 (hi 5 8)) 6) ((u2 (u2 hi 19 7 (hi 5 7)) 19 8 (hi 5 8)) 20) 0 0 8)) 21 (va_cpy ((uR (u2 (u2 hi 19 7 (hi 5 7)) 19 8 (hi 5 8)) 20 (va_cpy ((u2 (u2 hi 19 7 (hi 5 7)) 19 8 (hi 5 8)) 6) ((u2 (u2 hi 19 7 (hi 5 7)) 19 8 (hi 5 8)) 20) 0 0 8)) 7) ((uR (u2 (u2 hi 19 7 (hi 5 7)) 19 8 (hi 5 8)) 20 (va_cpy ((u2 (u2 hi 19 7 (hi 5 7)) 19 8 (hi 5 8)) 6) ((u2 (u2 hi 19 7 (hi 5 7)) 19 8 (hi 5 8)) 20) 0 0 8)) 21) 0 0 8)) 8) ((uR (uR (u2 (u2 hi 19 7 (hi 5 7)) 19 8 (hi 5 8)) 20 (va_cpy ((u2 (u2 hi 19 7 (hi 5 7)) 19 8 (hi 5 8)) 6) ((u2 (u2 hi 19 7 (hi 5 7)) 19 8 (hi 5 8)) 20) 0 0 8)) 21 (va_cpy ((uR (u2 (u2 hi 19 7 (hi 5 7)) 19 8 (hi 5 8)) 20 (va_cpy ((u2 (u2 hi 19 7 (hi 5 7)) 19 8 (hi 5 8)) 6) ((u2 (u2 hi 19 7 (hi 5 7)) 19 8 (hi 5 8)) 20) 0 0 8)) 7) ((uR (u2 (u2 hi 19 7 (hi 5 7)) 19 8 (hi 5 8)) 20 (va_cpy ((u2 (u2 hi 19 7 (hi 5 7)) 19 8 (hi 5 8)) 6) ((u2 (u2 hi 19 7 (hi 5 7)) 19 8 (hi 5 8)) 20) 0 0 8)) 21) 0 0 8)) 22) 0 0 8)) 9) ((uR (uR (uR (u2 (u2 hi 19 7 (hi 5 7)) 19 8 (hi 5 8)) 20 (va_cpy ((u2 (u2 hi 19 7 (hi 5 7)) 19 8 (hi 5 8)) 6) ((u2 (u2 hi 19 7 (hi 5 7)) 19 8 (hi 5 8)) 20) 0 0 8)) 21 (va_cpy ((uR (u2 (u2 hi 19 7 (hi 5 7)) 19 8 (hi 5 8)) 20 (va_cpy ((u2 (u2 hi 19 7 (hi 5 7)) 19 8 (hi 5 8)) 6) ((u2 (u2 hi 19 7 (hi 5 7)) 19 8 (hi 5 8)) 20) 0 0 8)) 7) ((uR (u2 (u2 hi 19 7 (hi 5 7)) 19 8 (hi 5 8)) 20 (va_cpy ((u2 (u2 hi 19 7 (hi 5 7)) 19 8 (hi 5 8)) 6) ((u2 (u2 hi 19 7 (hi 5 7)) 19 8 (hi 5 8)) 20) 0 0 8)) 21) 0 0 8)) 22 (va_cpy ((uR (uR (u2 (u2 hi 19 7 (hi 5 7)) 19 8 (hi 5 8)) 20 (va_cpy ((u2 (u2 hi 19 7 (hi 5 7)) 19 8 (hi 5 8)) 6) ((u2 (u2 hi 19 7 (hi 5 7)) 19 8 (hi 5 8)) 20) 0 0 8)) 21 (va_cpy ((uR (u2 (u2 hi 19 7 (hi 5 7)) 19 8 (hi 5 8)) 20 (va_cpy ((u2 (u2 hi 19 7 (hi 5 7)) 19 8 (hi 5 8)) 6) ((u2 (u2 hi 19 7 (hi 5 7)) 19 8 (hi 5 8)) 20) 0 0 8)) 7) ((uR (u2 (u2 hi 19 7 (hi 5 7)) 19 8 (hi 5 8)) 20 (va_cpy ((u2 (u2 hi 19 7 (hi 5 7)) 19 8 (hi 5 8)) 6) ((u2 (u2 hi 19 7 (hi 5 7)) 19 8 (hi 5 8)) 20) 0 0 8)) 21) 0 0 8)) 8) ((uR (uR (u2 (u2 hi 19 7 (hi 5 7)) 19 8 (hi 5 8)) 20 (va_cpy ((u2 (u2 hi 19 7 (hi 5 7)) 19 8 (hi 5 8)) 6) ((u2 (u2 hi 19 7 (hi 5 7)) 19 8 (hi 5 8)) 20) 0 0 8)) 21 (va_cpy ((uR (u2 (u2 hi 19 7 (hi 5 7)) 19 8 (hi 5 8)) 20 (va_cpy ((u2 (u2 hi 19 7 (hi 5 7)) 19 8 (hi 5 8)) 6) ((u2 (u2 hi 19 7 (hi 5 7)) 19 8 (hi 5 8)) 20) 0 0 8)) 7) ((uR (u2 (u2 hi 19 7 (hi 5 7)) 19 8 (hi 5 8)) 20 (va_cpy ((u2 (u2 hi 19 7 (hi 5 7)) 19 8 (hi 5 8)) 6) ((u2 (u2 hi 19 7 (hi 5 7)) 19 8 (hi 5 8)) 20) 0 0 8)) 21) 0 0 8)) 22) 0 0 8)) 23) 0 0 4)) 24) 0 0 16)) hl sw kp))
    : cW cd_107 d Q 56 [some (.ref 19), some (.ref 5)] [] (mkH hi hl sw kp) :=
  cW.run (am_in [56, 146, 157]) 48 (And.intro (show ¬ (0 : Int32) < 0 ∧ ¬ (0 : Int32) < 0 ∧ ¬ (8 : Int32) < 0 ∧ 0 + 8 ≤ 8 ∧ 0 + 8 ≤ 8 by decide +kernel) (And.intro (show ¬ (0 : Int32) < 0 ∧ ¬ (0 : Int32) < 0 ∧ ¬ (8 : Int32) < 0 ∧ 0 + 8 ≤ 8 ∧ 0 + 8 ≤ 8 by decide +kernel) (And.intro (show ¬ (0 : Int32) < 0 ∧ ¬ (0 : Int32) < 0 ∧ ¬ (8 : Int32) < 0 ∧ 0 + 8 ≤ 8 ∧ 0 + 8 ≤ 8 by decide +kernel) (And.intro (show ¬ (0 : Int32) < 0 ∧ ¬ (0 : Int32) < 0 ∧ ¬ (4 : Int32) < 0 ∧ 0 + 4 ≤ 4 ∧ 0 + 4 ≤ 4 by decide +kernel) (And.intro (show ¬ (0 : Int32) < 0 ∧ ¬ (0 : Int32) < 0 ∧ ¬ (16 : Int32) < 0 ∧ 0 + 16 ≤ 16 ∧ 0 + 16 ≤ 16 by decide +kernel) (h1))))))
set_option maxRecDepth 100000 in
theorem k_107_146
    (h1 : cS d 9 [(.ref 25), (.ref 11)] (mkH hi hl sw kp) (am_ret (cW cd_107 d Q) 157 [some (.ref 19), some (.ref 5)] []))
    : cW cd_107 d Q 146 [some (.ref 19), some (.ref 5)] [] (mkH hi hl sw kp) :=
  cW.run (am_in [56, 146, 157]) 5 (cC.of (h1))
set_option maxRecDepth 100000 in
theorem k_107_157
    (h1 : Q none (mkH hi hl sw kp))
    : cW cd_107 d Q 157 [some (.ref 19), some (.ref 5)] [] (mkH hi hl sw kp) :=
  cW.run (am_in [56, 146, 157]) 1 (cQ.of (h1))
-- 112: DogDecrees$Village.pathBetween(II)Z
set_option maxRecDepth 100000 in
theorem k_112_0 {x1 : Int32} {x2 : Int32}
    (h1 : (g_108d hi x1) = 0 → Q (some (.int (0))) (mkH hi hl sw kp))
    (h2 : ¬ ((g_108d hi x1) = 0) → vp_in x1 8)
    (h3 : ¬ ((g_108d hi x1) = 0) → (((hi 8 x1.toNatClampNeg) >>> (x2 &&& 31)) &&& (1)) = 0 → Q (some (.int (0))) (mkH hi hl sw kp))
    (h4 : ¬ ((g_108d hi x1) = 0) → ¬ ((((hi 8 x1.toNatClampNeg) >>> (x2 &&& 31)) &&& (1)) = 0) → Q (some (.int (1))) (mkH hi hl sw kp))
    : cW cd_112 (d + 1) Q 0 [some (.ref 5), some (.int x1), some (.int x2)] [] (mkH hi hl sw kp) :=
  cW.run (am_in []) 16 (cC.of (s_108d (And.intro (fun c1 => (And.intro (Or.inl rfl) (cQ.of (h1 c1)))) (fun c2 => (And.intro (h2 c2) (And.intro (fun c3 => (And.intro (Or.inl rfl) (cQ.of (h3 c2 c3)))) (fun c4 => (And.intro (Or.inr rfl) (cQ.of (h4 c2 c4))))))))))
theorem e_112 {x1 : Int32} {x2 : Int32}
    (h1 : (g_108d hi x1) = 0 → Q (some (.int (0))) (mkH hi hl sw kp))
    (h2 : ¬ ((g_108d hi x1) = 0) → vp_in x1 8)
    (h3 : ¬ ((g_108d hi x1) = 0) → (((hi 8 x1.toNatClampNeg) >>> (x2 &&& 31)) &&& (1)) = 0 → Q (some (.int (0))) (mkH hi hl sw kp))
    (h4 : ¬ ((g_108d hi x1) = 0) → ¬ ((((hi 8 x1.toNatClampNeg) >>> (x2 &&& 31)) &&& (1)) = 0) → Q (some (.int (1))) (mkH hi hl sw kp))
    : cS ((d + 1) + 1) 112 [(.ref 5), (.int x1), (.int x2)] (mkH hi hl sw kp) Q := cS.of rfl (k_112_0 h1 h2 h3 h4)
def g_112 (hi : Nat → Nat → Int32) (x1 : Int32) (x2 : Int32) : Int32 := if (g_108d hi x1) = 0 then (0) else (if (((hi 8 x1.toNatClampNeg) >>> (x2 &&& 31)) &&& (1)) = 0 then (0) else ((1)))
theorem g_112_01 (hi : Nat → Nat → Int32) (x1 : Int32) (x2 : Int32) : g_112 hi x1 x2 = 0 ∨ g_112 hi x1 x2 = 1 := by
  unfold g_112
  exact (ite01 (Or.inl rfl) (ite01 (Or.inl rfl) (Or.inr rfl)))
set_option maxRecDepth 100000 in
theorem s_112 {x1 : Int32} {x2 : Int32} (o1 : ¬ ((g_108d hi x1) = 0) → vp_in x1 8) (w : Q (some (.int (g_112 hi x1 x2))) (mkH hi hl sw kp)) : cS ((d + 1) + 1) 112 [(.ref 5), (.int x1), (.int x2)] (mkH hi hl sw kp) Q :=
  e_112 (fun c1 => by
      have e : g_112 hi x1 x2 = (0) := by
        unfold g_112
        rw [if_pos c1]
      rw [e] at w
      exact w) o1 (fun c2 c3 => by
      have e : g_112 hi x1 x2 = (0) := by
        unfold g_112
        rw [if_neg c2, if_pos c3]
      rw [e] at w
      exact w) (fun c2 c4 => by
      have e : g_112 hi x1 x2 = (1) := by
        unfold g_112
        rw [if_neg c2, if_neg c4]
      rw [e] at w
      exact w)
-- 113: DogDecrees$Village.addPath(II)V
set_option maxRecDepth 100000 in
theorem k_113_0 {x1 : Int32} {x2 : Int32}
    (h1 : (g_108d hi x1) = 0 → Q none (mkH hi hl sw kp))
    (h2 : ¬ ((g_108d hi x1) = 0) → (g_108d hi x2) = 0 → Q none (mkH hi hl sw kp))
    (h3 : ¬ ((g_108d hi x1) = 0) → ¬ ((g_108d hi x2) = 0) → vp_in x1 8)
    (h4 : ¬ ((g_108d hi x1) = 0) → ¬ ((g_108d hi x2) = 0) → vp_in x2 8)
    (h5 : ¬ ((g_108d hi x1) = 0) → ¬ ((g_108d hi x2) = 0) → Q none (mkH (u2 (u2 (u2 hi 8 x1.toNatClampNeg ((hi 8 x1.toNatClampNeg) ||| ((1) <<< (x2 &&& 31)))) 8 x2.toNatClampNeg (((u2 hi 8 x1.toNatClampNeg ((hi 8 x1.toNatClampNeg) ||| ((1) <<< (x2 &&& 31)))) 8 x2.toNatClampNeg) ||| ((1) <<< (x1 &&& 31)))) 5 2 ((hi 5 2) + (1))) hl sw kp))
    : cW cd_113 (d + 1) Q 0 [some (.ref 5), some (.int x1), some (.int x2)] [] (mkH hi hl sw kp) :=
  cW.run (am_in []) 35 (cC.of (s_108d (And.intro (fun c1 => (cQ.of (h1 c1))) (fun c2 => (cC.of (s_108d (And.intro (fun c3 => (cQ.of (h2 c2 c3))) (fun c4 => (And.intro rfl (And.intro rfl (And.intro (h3 c2 c4) (And.intro (h3 c2 c4) (And.intro rfl (And.intro rfl (And.intro (h4 c2 c4) (And.intro (h4 c2 c4) (And.intro rfl (cQ.of (h5 c2 c4)))))))))))))))))))
theorem e_113 {x1 : Int32} {x2 : Int32}
    (h1 : (g_108d hi x1) = 0 → Q none (mkH hi hl sw kp))
    (h2 : ¬ ((g_108d hi x1) = 0) → (g_108d hi x2) = 0 → Q none (mkH hi hl sw kp))
    (h3 : ¬ ((g_108d hi x1) = 0) → ¬ ((g_108d hi x2) = 0) → vp_in x1 8)
    (h4 : ¬ ((g_108d hi x1) = 0) → ¬ ((g_108d hi x2) = 0) → vp_in x2 8)
    (h5 : ¬ ((g_108d hi x1) = 0) → ¬ ((g_108d hi x2) = 0) → Q none (mkH (u2 (u2 (u2 hi 8 x1.toNatClampNeg ((hi 8 x1.toNatClampNeg) ||| ((1) <<< (x2 &&& 31)))) 8 x2.toNatClampNeg (((u2 hi 8 x1.toNatClampNeg ((hi 8 x1.toNatClampNeg) ||| ((1) <<< (x2 &&& 31)))) 8 x2.toNatClampNeg) ||| ((1) <<< (x1 &&& 31)))) 5 2 ((hi 5 2) + (1))) hl sw kp))
    : cS ((d + 1) + 1) 113 [(.ref 5), (.int x1), (.int x2)] (mkH hi hl sw kp) Q := cS.of rfl (k_113_0 h1 h2 h3 h4 h5)
-- 115: DogDecrees$Village.setCount(III)V
set_option maxRecDepth 100000 in
theorem k_115_0 {x1 : Int32} {x2 : Int32} {x3 : Int32}
    (h1 : (g_110d hi x1) = 0 → Q none (mkH hi hl sw kp))
    (h2 : ¬ ((g_110d hi x1) = 0) → (g_109d hi x2) = 0 → Q none (mkH hi hl sw kp))
    (h3 : ¬ ((g_110d hi x1) = 0) → ¬ ((g_109d hi x2) = 0) → vp_in ((x1 * (4)) + x2) 16)
    (h4 : ¬ ((g_110d hi x1) = 0) → ¬ ((g_109d hi x2) = 0) → Q none (mkH (u2 hi 10 ((x1 * (4)) + x2).toNatClampNeg x3) hl sw kp))
    : cW cd_115 (d + 1) Q 0 [some (.ref 5), some (.int x1), some (.int x2), some (.int x3)] [] (mkH hi hl sw kp) :=
  cW.run (am_in []) 18 (cC.of (s_110d (And.intro (fun c1 => (cQ.of (h1 c1))) (fun c2 => (cC.of (s_109d (And.intro (fun c3 => (cQ.of (h2 c2 c3))) (fun c4 => (And.intro (h3 c2 c4) (cQ.of (h4 c2 c4)))))))))))
theorem e_115 {x1 : Int32} {x2 : Int32} {x3 : Int32}
    (h1 : (g_110d hi x1) = 0 → Q none (mkH hi hl sw kp))
    (h2 : ¬ ((g_110d hi x1) = 0) → (g_109d hi x2) = 0 → Q none (mkH hi hl sw kp))
    (h3 : ¬ ((g_110d hi x1) = 0) → ¬ ((g_109d hi x2) = 0) → vp_in ((x1 * (4)) + x2) 16)
    (h4 : ¬ ((g_110d hi x1) = 0) → ¬ ((g_109d hi x2) = 0) → Q none (mkH (u2 hi 10 ((x1 * (4)) + x2).toNatClampNeg x3) hl sw kp))
    : cS ((d + 1) + 1) 115 [(.ref 5), (.int x1), (.int x2), (.int x3)] (mkH hi hl sw kp) Q := cS.of rfl (k_115_0 h1 h2 h3 h4)
-- 116: DogDecrees$Village.countAt(II)I
set_option maxRecDepth 100000 in
theorem k_116_0 {x1 : Int32} {x2 : Int32}
    (h1 : (g_108 hi x1) = 0 → Q (some (.int (0))) (mkH hi hl sw kp))
    (h2 : ¬ ((g_108 hi x1) = 0) → (g_109 hi x2) = 0 → Q (some (.int (0))) (mkH hi hl sw kp))
    (h3 : ¬ ((g_108 hi x1) = 0) → ¬ ((g_109 hi x2) = 0) → vp_in x1 8)
    (h4 : ¬ ((g_108 hi x1) = 0) → ¬ ((g_109 hi x2) = 0) → (g_110 hi (hi 21 x1.toNatClampNeg)) = 0 → Q (some (.int (0))) (mkH hi hl sw kp))
    (h5 : ¬ ((g_108 hi x1) = 0) → ¬ ((g_109 hi x2) = 0) → ¬ ((g_110 hi (hi 21 x1.toNatClampNeg)) = 0) → vp_in (((hi 21 x1.toNatClampNeg) * (4)) + x2) 16)
    (h6 : ¬ ((g_108 hi x1) = 0) → ¬ ((g_109 hi x2) = 0) → ¬ ((g_110 hi (hi 21 x1.toNatClampNeg)) = 0) → Q (some (.int (hi 24 (((hi 21 x1.toNatClampNeg) * (4)) + x2).toNatClampNeg))) (mkH hi hl sw kp))
    : cW cd_116 (d + 1) Q 0 [some (.ref 19), some (.int x1), some (.int x2)] [] (mkH hi hl sw kp) :=
  cW.run (am_in []) 27 (cC.of (s_108 (And.intro (fun c1 => (cQ.of (h1 c1))) (fun c2 => (cC.of (s_109 (And.intro (fun c3 => (cQ.of (h2 c2 c3))) (fun c4 => (And.intro (h3 c2 c4) (cC.of (s_110 (And.intro (fun c5 => (cQ.of (h4 c2 c4 c5))) (fun c6 => (And.intro (h3 c2 c4) (And.intro (h5 c2 c4 c6) (cQ.of (h6 c2 c4 c6)))))))))))))))))
theorem e_116 {x1 : Int32} {x2 : Int32}
    (h1 : (g_108 hi x1) = 0 → Q (some (.int (0))) (mkH hi hl sw kp))
    (h2 : ¬ ((g_108 hi x1) = 0) → (g_109 hi x2) = 0 → Q (some (.int (0))) (mkH hi hl sw kp))
    (h3 : ¬ ((g_108 hi x1) = 0) → ¬ ((g_109 hi x2) = 0) → vp_in x1 8)
    (h4 : ¬ ((g_108 hi x1) = 0) → ¬ ((g_109 hi x2) = 0) → (g_110 hi (hi 21 x1.toNatClampNeg)) = 0 → Q (some (.int (0))) (mkH hi hl sw kp))
    (h5 : ¬ ((g_108 hi x1) = 0) → ¬ ((g_109 hi x2) = 0) → ¬ ((g_110 hi (hi 21 x1.toNatClampNeg)) = 0) → vp_in (((hi 21 x1.toNatClampNeg) * (4)) + x2) 16)
    (h6 : ¬ ((g_108 hi x1) = 0) → ¬ ((g_109 hi x2) = 0) → ¬ ((g_110 hi (hi 21 x1.toNatClampNeg)) = 0) → Q (some (.int (hi 24 (((hi 21 x1.toNatClampNeg) * (4)) + x2).toNatClampNeg))) (mkH hi hl sw kp))
    : cS ((d + 1) + 1) 116 [(.ref 19), (.int x1), (.int x2)] (mkH hi hl sw kp) Q := cS.of rfl (k_116_0 h1 h2 h3 h4 h5 h6)
def g_116 (hi : Nat → Nat → Int32) (x1 : Int32) (x2 : Int32) : Int32 := if (g_108 hi x1) = 0 then (0) else (if (g_109 hi x2) = 0 then (0) else (if (g_110 hi (hi 21 x1.toNatClampNeg)) = 0 then (0) else ((hi 24 (((hi 21 x1.toNatClampNeg) * (4)) + x2).toNatClampNeg))))
set_option maxRecDepth 100000 in
theorem s_116 {x1 : Int32} {x2 : Int32} (o1 : ¬ ((g_108 hi x1) = 0) → ¬ ((g_109 hi x2) = 0) → vp_in x1 8) (o2 : ¬ ((g_108 hi x1) = 0) → ¬ ((g_109 hi x2) = 0) → ¬ ((g_110 hi (hi 21 x1.toNatClampNeg)) = 0) → vp_in (((hi 21 x1.toNatClampNeg) * (4)) + x2) 16) (w : Q (some (.int (g_116 hi x1 x2))) (mkH hi hl sw kp)) : cS ((d + 1) + 1) 116 [(.ref 19), (.int x1), (.int x2)] (mkH hi hl sw kp) Q :=
  e_116 (fun c1 => by
      have e : g_116 hi x1 x2 = (0) := by
        unfold g_116
        rw [if_pos c1]
      rw [e] at w
      exact w) (fun c2 c3 => by
      have e : g_116 hi x1 x2 = (0) := by
        unfold g_116
        rw [if_neg c2, if_pos c3]
      rw [e] at w
      exact w) o1 (fun c2 c4 c5 => by
      have e : g_116 hi x1 x2 = (0) := by
        unfold g_116
        rw [if_neg c2, if_neg c4, if_pos c5]
      rw [e] at w
      exact w) o2 (fun c2 c4 c6 => by
      have e : g_116 hi x1 x2 = (hi 24 (((hi 21 x1.toNatClampNeg) * (4)) + x2).toNatClampNeg) := by
        unfold g_116
        rw [if_neg c2, if_neg c4, if_neg c6]
      rw [e] at w
      exact w)
-- 119: DogDecrees$Village.ageAt(I)I
set_option maxRecDepth 100000 in
theorem k_119_0 {x1 : Int32}
    (h1 : Q (some (.int (if ((hi 19 7) + (g_118 hi x1)) < (99) then ((hi 19 7) + (g_118 hi x1)) else (99)))) (mkH hi hl sw kp))
    : cW cd_119 (d + 1) Q 0 [some (.ref 19), some (.int x1)] [] (mkH hi hl sw kp) :=
  cW.run (am_in []) 9 (cC.of (s_118 (cQ.of (h1))))
theorem e_119 {x1 : Int32}
    (h1 : Q (some (.int (if ((hi 19 7) + (g_118 hi x1)) < (99) then ((hi 19 7) + (g_118 hi x1)) else (99)))) (mkH hi hl sw kp))
    : cS ((d + 1) + 1) 119 [(.ref 19), (.int x1)] (mkH hi hl sw kp) Q := cS.of rfl (k_119_0 h1)
def g_119 (hi : Nat → Nat → Int32) (x1 : Int32) : Int32 := (if ((hi 19 7) + (g_118 hi x1)) < (99) then ((hi 19 7) + (g_118 hi x1)) else (99))
set_option maxRecDepth 100000 in
theorem s_119 {x1 : Int32} (w : Q (some (.int (g_119 hi x1))) (mkH hi hl sw kp)) : cS ((d + 1) + 1) 119 [(.ref 19), (.int x1)] (mkH hi hl sw kp) Q :=
  e_119 (by
      have e : g_119 hi x1 = (if ((hi 19 7) + (g_118 hi x1)) < (99) then ((hi 19 7) + (g_118 hi x1)) else (99)) := by
        unfold g_119
        rfl
      rw [e] at w
      exact w)
end BLK
