/-! ===== the law's loop over any relation that every operation keeps ===== -/
abbrev am_R : Type := (Nat → Nat → Int32) → (Nat → Nat → Int64) → Bool → (Nat → Nat) → Prop
/-- an operation: the class answers, then the reference answers the same, and the relation holds again -/
def OpI (Rel : am_R) (d X M : Nat) (args : List Value) : Prop := ∀ (hi : Nat → Nat → Int32) (hl : Nat → Nat → Int64) (sw : Bool) (kp : Nat → Nat) (Q : am_Q), Rel hi hl sw kp →
  (∀ (v : Int32) (hi1 : Nat → Nat → Int32) (hl1 : Nat → Nat → Int64) (sw1 : Bool) (kp1 : Nat → Nat), (∀ Q2 : am_Q, (∀ (hi2 : Nat → Nat → Int32) (hl2 : Nat → Nat → Int64) (sw2 : Bool) (kp2 : Nat → Nat), Rel hi2 hl2 sw2 kp2 → Q2 (some (.int v)) (mkH hi2 hl2 sw2 kp2)) → cS d M (.ref 279 :: args) (mkH hi1 hl1 sw1 kp1) Q2) → Q (some (.int v)) (mkH hi1 hl1 sw1 kp1)) → cS d X (.ref 0 :: args) (mkH hi hl sw kp) Q
def OpJ (Rel : am_R) (d X M : Nat) (args : List Value) : Prop := ∀ (hi : Nat → Nat → Int32) (hl : Nat → Nat → Int64) (sw : Bool) (kp : Nat → Nat) (Q : am_Q), Rel hi hl sw kp →
  (∀ (v : Int64) (hi1 : Nat → Nat → Int32) (hl1 : Nat → Nat → Int64) (sw1 : Bool) (kp1 : Nat → Nat), (∀ Q2 : am_Q, (∀ (hi2 : Nat → Nat → Int32) (hl2 : Nat → Nat → Int64) (sw2 : Bool) (kp2 : Nat → Nat), Rel hi2 hl2 sw2 kp2 → Q2 (some (.long v)) (mkH hi2 hl2 sw2 kp2)) → cS d M (.ref 279 :: args) (mkH hi1 hl1 sw1 kp1) Q2) → Q (some (.long v)) (mkH hi1 hl1 sw1 kp1)) → cS d X (.ref 0 :: args) (mkH hi hl sw kp) Q
theorem vin_s {L j k : Nat} {K : Int32} (hK : K = nI k) (hL : L ≤ 3584) (h : j + k < L) : vp_in (nI j + K) L := by
  rw [hK, nI_add]
  exact vp_in_nI h (by omega)
theorem lg_cmp_self (v : Int64) : lg_cmp v v = 0 := by
  unfold lg_cmp
  simp
/-- all operations -/
def OpsOK (Rel : am_R) (d : Nat) : Prop := (∀ a1 a2 a3 a4 a5 a6 : Int32,
    OpI Rel d 123 163 [.int a1, .int a2, .int a3, .int a4, .int a5] ∧
    OpI Rel d 124 165 [.int a1] ∧
    OpI Rel d 125 205 [] ∧
    OpI Rel d 126 206 [.int a1] ∧
    OpI Rel d 127 219 [.int a1, .int a2] ∧
    OpI Rel d 128 220 [.int a1, .int a2] ∧
    OpI Rel d 129 221 [.int a1, .int a2] ∧
    OpI Rel d 130 222 [.int a1] ∧
    OpI Rel d 131 227 [] ∧
    OpI Rel d 132 228 [.int a1] ∧
    OpI Rel d 133 229 [.int a1] ∧
    OpI Rel d 134 230 [] ∧
    OpI Rel d 135 231 [] ∧
    OpJ Rel d 136 237 [.int a1, .int a2, .int a3] ∧
    OpJ Rel d 137 246 [.int a1, .int a2, .int a3] ∧
    OpI Rel d 138 238 [.int a1] ∧
    OpI Rel d 139 248 [.int a1] ∧
    OpJ Rel d 140 254 [.int a1, .int a2, .int a3, .int a4] ∧
    OpI Rel d 141 255 [.int a1, .int a2] ∧
    OpI Rel d 142 257 [.int a1, .int a2, .int a3] ∧
    OpI Rel d 143 258 [.int a1, .int a2] ∧
    OpI Rel d 144 259 [] ∧
    OpI Rel d 145 261 [.int a1] ∧
    OpI Rel d 146 263 [.int a1] ∧
    OpI Rel d 147 264 [.int a1] ∧
    OpI Rel d 148 265 [.int a1, .int a2, .int a3, .int a4, .int a5, .int a6] ∧
    OpI Rel d 149 266 [.int a1] ∧
    OpI Rel d 150 267 [.int a1] ∧
    OpI Rel d 151 270 [.int a1, .int a2] ∧
    OpI Rel d 152 271 [.int a1, .int a2, .int a3] ∧
    OpI Rel d 153 273 [.int a1, .int a2, .int a3] ∧
    OpI Rel d 154 275 [.int a1] ∧
    OpI Rel d 155 276 [.int a1] ∧
    OpI Rel d 156 278 [.int a1])
set_option maxRecDepth 100000 in
set_option maxHeartbeats 4000000 in
theorem law_loop {L : Nat} {xs : Nat → Int32} {d : Nat} (hL : L ≤ 3584) {Rel : am_R} (ops : OpsOK Rel d) : ∀ (n j : Nat) (hi : Nat → Nat → Int32) (hl : Nat → Nat → Int64) (sw : Bool) (kp : Nat → Nat), j ≤ L → L < j + n → Rel hi hl sw kp → lW L xs d 18 [some (.retAddr 5), some (.ref 0), some (.ref 279), some (.int (nI j))] [] (mkH hi hl sw kp) := by
  intro n
  induction n with
  | zero => intro j hi hl sw kp h1 h2; exact absurd h2 (by omega)
  | succ n ih =>
    intro j hi hl sw kp hj hn hR
    have eL : (Int32.ofNat L - 7).toInt = (L : Int) - 7 := by
      have := pk_sub_toInt (a := L) (b := 7) (by omega) (by omega)
      exact this
    have ej : (nI j).toInt = (j : Int) := nI_toInt (by omega)
    have fin : ∀ (hi : Nat → Nat → Int32) (hl : Nat → Nat → Int64) (sw : Bool) (kp : Nat → Nat), j + 7 ≤ L → Rel hi hl sw kp → lW L xs d 1201 [some (.retAddr 5), some (.ref 0), some (.ref 279), some (.int (nI j))] [] (mkH hi hl sw kp) := by
      intro hi hl sw kp h7 hR
      refine kL_dflt ?_
      have e7 : nI j + 7 = nI (j + 7) := nI_add j 7
      rw [e7]
      exact ih (j + 7) hi hl sw kp (by omega) (by omega) hR
    have in7 : ¬ (Int32.ofNat L - 7) < nI j → j + 7 ≤ L := by
      intro c
      have c' : ¬ (Int32.ofNat L - 7).toInt < (nI j).toInt := fun q => c (Int32.lt_iff_toInt_lt.mpr q)
      rw [eL, ej] at c'
      omega
    refine kL_head (fun _ => qL.of) (fun c => vp_in_nI (by have := in7 c; omega) (by omega)) ?_ ?_ ?_ ?_ ?_ ?_ ?_ ?_ ?_ ?_ ?_ ?_ ?_ ?_ ?_ ?_ ?_ ?_ ?_ ?_ ?_ ?_ ?_ ?_ ?_ ?_ ?_ ?_ ?_ ?_ ?_ ?_ ?_ ?_ ?_
    · intro c _
      have h7 := in7 c
      refine kL_0 (vin_s (k := 1) rfl hL (by omega)) (vin_s (k := 2) rfl hL (by omega)) (vin_s (k := 3) rfl hL (by omega)) (vin_s (k := 4) rfl hL (by omega)) (vin_s (k := 5) rfl hL (by omega)) (cL.of (by decide) ((ops (xs ((nI j) + (1)).toNatClampNeg) (xs ((nI j) + (2)).toNatClampNeg) (xs ((nI j) + (3)).toNatClampNeg) (xs ((nI j) + (4)).toNatClampNeg) (xs ((nI j) + (5)).toNatClampNeg) (0)).1 hi hl sw kp _ hR (fun v hi1 hl1 sw1 kp1 hM => ?_)))
      refine kL_0_x (s0 := v) (vin_s (k := 1) rfl hL (by omega)) (vin_s (k := 2) rfl hL (by omega)) (vin_s (k := 3) rfl hL (by omega)) (vin_s (k := 4) rfl hL (by omega)) (vin_s (k := 5) rfl hL (by omega)) (cL.of (by decide) (hM _ (fun hi2 hl2 sw2 kp2 hR2 => ?_)))
      exact kL_0_m (s0 := v) (s1 := v) (fun _ => fin hi2 hl2 sw2 kp2 h7 hR2) (fun q => absurd rfl q)
    · intro c _ _
      have h7 := in7 c
      refine kL_1 (vin_s (k := 1) rfl hL (by omega)) (cL.of (by decide) ((ops (xs ((nI j) + (1)).toNatClampNeg) (0) (0) (0) (0) (0)).2.1 hi hl sw kp _ hR (fun v hi1 hl1 sw1 kp1 hM => ?_)))
      refine kL_1_x (s0 := v) (vin_s (k := 1) rfl hL (by omega)) (cL.of (by decide) (hM _ (fun hi2 hl2 sw2 kp2 hR2 => ?_)))
      exact kL_1_m (s0 := v) (s1 := v) (fun _ => fin hi2 hl2 sw2 kp2 h7 hR2) (fun q => absurd rfl q)
    · intro c _ _ _
      have h7 := in7 c
      refine kL_2  (cL.of (by decide) ((ops (0) (0) (0) (0) (0) (0)).2.2.1 hi hl sw kp _ hR (fun v hi1 hl1 sw1 kp1 hM => ?_)))
      refine kL_2_x (s0 := v)  (cL.of (by decide) (hM _ (fun hi2 hl2 sw2 kp2 hR2 => ?_)))
      exact kL_2_m (s0 := v) (s1 := v) (fun _ => fin hi2 hl2 sw2 kp2 h7 hR2) (fun q => absurd rfl q)
    · intro c _ _ _ _
      have h7 := in7 c
      refine kL_3 (vin_s (k := 1) rfl hL (by omega)) (cL.of (by decide) ((ops (xs ((nI j) + (1)).toNatClampNeg) (0) (0) (0) (0) (0)).2.2.2.1 hi hl sw kp _ hR (fun v hi1 hl1 sw1 kp1 hM => ?_)))
      refine kL_3_x (s0 := v) (vin_s (k := 1) rfl hL (by omega)) (cL.of (by decide) (hM _ (fun hi2 hl2 sw2 kp2 hR2 => ?_)))
      exact kL_3_m (s0 := v) (s1 := v) (fun _ => fin hi2 hl2 sw2 kp2 h7 hR2) (fun q => absurd rfl q)
    · intro c _ _ _ _ _
      have h7 := in7 c
      refine kL_4 (vin_s (k := 1) rfl hL (by omega)) (vin_s (k := 2) rfl hL (by omega)) (cL.of (by decide) ((ops (xs ((nI j) + (1)).toNatClampNeg) (xs ((nI j) + (2)).toNatClampNeg) (0) (0) (0) (0)).2.2.2.2.1 hi hl sw kp _ hR (fun v hi1 hl1 sw1 kp1 hM => ?_)))
      refine kL_4_x (s0 := v) (vin_s (k := 1) rfl hL (by omega)) (vin_s (k := 2) rfl hL (by omega)) (cL.of (by decide) (hM _ (fun hi2 hl2 sw2 kp2 hR2 => ?_)))
      exact kL_4_m (s0 := v) (s1 := v) (fun _ => fin hi2 hl2 sw2 kp2 h7 hR2) (fun q => absurd rfl q)
    · intro c _ _ _ _ _ _
      have h7 := in7 c
      refine kL_5 (vin_s (k := 1) rfl hL (by omega)) (vin_s (k := 2) rfl hL (by omega)) (cL.of (by decide) ((ops (xs ((nI j) + (1)).toNatClampNeg) (xs ((nI j) + (2)).toNatClampNeg) (0) (0) (0) (0)).2.2.2.2.2.1 hi hl sw kp _ hR (fun v hi1 hl1 sw1 kp1 hM => ?_)))
      refine kL_5_x (s0 := v) (vin_s (k := 1) rfl hL (by omega)) (vin_s (k := 2) rfl hL (by omega)) (cL.of (by decide) (hM _ (fun hi2 hl2 sw2 kp2 hR2 => ?_)))
      exact kL_5_m (s0 := v) (s1 := v) (fun _ => fin hi2 hl2 sw2 kp2 h7 hR2) (fun q => absurd rfl q)
    · intro c _ _ _ _ _ _ _
      have h7 := in7 c
      refine kL_6 (vin_s (k := 1) rfl hL (by omega)) (vin_s (k := 2) rfl hL (by omega)) (cL.of (by decide) ((ops (xs ((nI j) + (1)).toNatClampNeg) (xs ((nI j) + (2)).toNatClampNeg) (0) (0) (0) (0)).2.2.2.2.2.2.1 hi hl sw kp _ hR (fun v hi1 hl1 sw1 kp1 hM => ?_)))
      refine kL_6_x (s0 := v) (vin_s (k := 1) rfl hL (by omega)) (vin_s (k := 2) rfl hL (by omega)) (cL.of (by decide) (hM _ (fun hi2 hl2 sw2 kp2 hR2 => ?_)))
      exact kL_6_m (s0 := v) (s1 := v) (fun _ => fin hi2 hl2 sw2 kp2 h7 hR2) (fun q => absurd rfl q)
    · intro c _ _ _ _ _ _ _ _
      have h7 := in7 c
      refine kL_7 (vin_s (k := 1) rfl hL (by omega)) (cL.of (by decide) ((ops (xs ((nI j) + (1)).toNatClampNeg) (0) (0) (0) (0) (0)).2.2.2.2.2.2.2.1 hi hl sw kp _ hR (fun v hi1 hl1 sw1 kp1 hM => ?_)))
      refine kL_7_x (s0 := v) (vin_s (k := 1) rfl hL (by omega)) (cL.of (by decide) (hM _ (fun hi2 hl2 sw2 kp2 hR2 => ?_)))
      exact kL_7_m (s0 := v) (s1 := v) (fun _ => fin hi2 hl2 sw2 kp2 h7 hR2) (fun q => absurd rfl q)
    · intro c _ _ _ _ _ _ _ _ _
      have h7 := in7 c
      refine kL_8  (cL.of (by decide) ((ops (0) (0) (0) (0) (0) (0)).2.2.2.2.2.2.2.2.1 hi hl sw kp _ hR (fun v hi1 hl1 sw1 kp1 hM => ?_)))
      refine kL_8_x (s0 := v)  (cL.of (by decide) (hM _ (fun hi2 hl2 sw2 kp2 hR2 => ?_)))
      exact kL_8_m (s0 := v) (s1 := v) (fun _ => fin hi2 hl2 sw2 kp2 h7 hR2) (fun q => absurd rfl q)
    · intro c _ _ _ _ _ _ _ _ _ _
      have h7 := in7 c
      refine kL_9 (vin_s (k := 1) rfl hL (by omega)) (cL.of (by decide) ((ops (xs ((nI j) + (1)).toNatClampNeg) (0) (0) (0) (0) (0)).2.2.2.2.2.2.2.2.2.1 hi hl sw kp _ hR (fun v hi1 hl1 sw1 kp1 hM => ?_)))
      refine kL_9_x (s0 := v) (vin_s (k := 1) rfl hL (by omega)) (cL.of (by decide) (hM _ (fun hi2 hl2 sw2 kp2 hR2 => ?_)))
      exact kL_9_m (s0 := v) (s1 := v) (fun _ => fin hi2 hl2 sw2 kp2 h7 hR2) (fun q => absurd rfl q)
    · intro c _ _ _ _ _ _ _ _ _ _ _
      have h7 := in7 c
      refine kL_10 (vin_s (k := 1) rfl hL (by omega)) (cL.of (by decide) ((ops (xs ((nI j) + (1)).toNatClampNeg) (0) (0) (0) (0) (0)).2.2.2.2.2.2.2.2.2.2.1 hi hl sw kp _ hR (fun v hi1 hl1 sw1 kp1 hM => ?_)))
      refine kL_10_x (s0 := v) (vin_s (k := 1) rfl hL (by omega)) (cL.of (by decide) (hM _ (fun hi2 hl2 sw2 kp2 hR2 => ?_)))
      exact kL_10_m (s0 := v) (s1 := v) (fun _ => fin hi2 hl2 sw2 kp2 h7 hR2) (fun q => absurd rfl q)
    · intro c _ _ _ _ _ _ _ _ _ _ _ _
      have h7 := in7 c
      refine kL_11  (cL.of (by decide) ((ops (0) (0) (0) (0) (0) (0)).2.2.2.2.2.2.2.2.2.2.2.1 hi hl sw kp _ hR (fun v hi1 hl1 sw1 kp1 hM => ?_)))
      refine kL_11_x (s0 := v)  (cL.of (by decide) (hM _ (fun hi2 hl2 sw2 kp2 hR2 => ?_)))
      exact kL_11_m (s0 := v) (s1 := v) (fun _ => fin hi2 hl2 sw2 kp2 h7 hR2) (fun q => absurd rfl q)
    · intro c _ _ _ _ _ _ _ _ _ _ _ _ _
      have h7 := in7 c
      refine kL_12  (cL.of (by decide) ((ops (0) (0) (0) (0) (0) (0)).2.2.2.2.2.2.2.2.2.2.2.2.1 hi hl sw kp _ hR (fun v hi1 hl1 sw1 kp1 hM => ?_)))
      refine kL_12_x (s0 := v)  (cL.of (by decide) (hM _ (fun hi2 hl2 sw2 kp2 hR2 => ?_)))
      exact kL_12_m (s0 := v) (s1 := v) (fun _ => fin hi2 hl2 sw2 kp2 h7 hR2) (fun q => absurd rfl q)
    · intro c _ _ _ _ _ _ _ _ _ _ _ _ _ _
      have h7 := in7 c
      refine kL_13 (vin_s (k := 1) rfl hL (by omega)) (vin_s (k := 2) rfl hL (by omega)) (vin_s (k := 3) rfl hL (by omega)) (cL.of (by decide) ((ops (xs ((nI j) + (1)).toNatClampNeg) (xs ((nI j) + (2)).toNatClampNeg) (xs ((nI j) + (3)).toNatClampNeg) (0) (0) (0)).2.2.2.2.2.2.2.2.2.2.2.2.2.1 hi hl sw kp _ hR (fun v hi1 hl1 sw1 kp1 hM => ?_)))
      refine kL_13_x (s0 := v) (vin_s (k := 1) rfl hL (by omega)) (vin_s (k := 2) rfl hL (by omega)) (vin_s (k := 3) rfl hL (by omega)) (cL.of (by decide) (hM _ (fun hi2 hl2 sw2 kp2 hR2 => ?_)))
      exact kL_13_m (s0 := v) (s1 := v) (fun _ => fin hi2 hl2 sw2 kp2 h7 hR2) (fun q => absurd (lg_cmp_self v) q)
    · intro c _ _ _ _ _ _ _ _ _ _ _ _ _ _ _
      have h7 := in7 c
      refine kL_14 (vin_s (k := 1) rfl hL (by omega)) (vin_s (k := 2) rfl hL (by omega)) (vin_s (k := 3) rfl hL (by omega)) (cL.of (by decide) ((ops (xs ((nI j) + (1)).toNatClampNeg) (xs ((nI j) + (2)).toNatClampNeg) (xs ((nI j) + (3)).toNatClampNeg) (0) (0) (0)).2.2.2.2.2.2.2.2.2.2.2.2.2.2.1 hi hl sw kp _ hR (fun v hi1 hl1 sw1 kp1 hM => ?_)))
      refine kL_14_x (s0 := v) (vin_s (k := 1) rfl hL (by omega)) (vin_s (k := 2) rfl hL (by omega)) (vin_s (k := 3) rfl hL (by omega)) (cL.of (by decide) (hM _ (fun hi2 hl2 sw2 kp2 hR2 => ?_)))
      exact kL_14_m (s0 := v) (s1 := v) (fun _ => fin hi2 hl2 sw2 kp2 h7 hR2) (fun q => absurd (lg_cmp_self v) q)
    · intro c _ _ _ _ _ _ _ _ _ _ _ _ _ _ _ _
      have h7 := in7 c
      refine kL_15 (vin_s (k := 1) rfl hL (by omega)) (cL.of (by decide) ((ops (xs ((nI j) + (1)).toNatClampNeg) (0) (0) (0) (0) (0)).2.2.2.2.2.2.2.2.2.2.2.2.2.2.2.1 hi hl sw kp _ hR (fun v hi1 hl1 sw1 kp1 hM => ?_)))
      refine kL_15_x (s0 := v) (vin_s (k := 1) rfl hL (by omega)) (cL.of (by decide) (hM _ (fun hi2 hl2 sw2 kp2 hR2 => ?_)))
      exact kL_15_m (s0 := v) (s1 := v) (fun _ => fin hi2 hl2 sw2 kp2 h7 hR2) (fun q => absurd rfl q)
    · intro c _ _ _ _ _ _ _ _ _ _ _ _ _ _ _ _ _
      have h7 := in7 c
      refine kL_16 (vin_s (k := 1) rfl hL (by omega)) (cL.of (by decide) ((ops (xs ((nI j) + (1)).toNatClampNeg) (0) (0) (0) (0) (0)).2.2.2.2.2.2.2.2.2.2.2.2.2.2.2.2.1 hi hl sw kp _ hR (fun v hi1 hl1 sw1 kp1 hM => ?_)))
      refine kL_16_x (s0 := v) (vin_s (k := 1) rfl hL (by omega)) (cL.of (by decide) (hM _ (fun hi2 hl2 sw2 kp2 hR2 => ?_)))
      exact kL_16_m (s0 := v) (s1 := v) (fun _ => fin hi2 hl2 sw2 kp2 h7 hR2) (fun q => absurd rfl q)
    · intro c _ _ _ _ _ _ _ _ _ _ _ _ _ _ _ _ _ _
      have h7 := in7 c
      refine kL_17 (vin_s (k := 1) rfl hL (by omega)) (vin_s (k := 2) rfl hL (by omega)) (vin_s (k := 3) rfl hL (by omega)) (vin_s (k := 4) rfl hL (by omega)) (cL.of (by decide) ((ops (xs ((nI j) + (1)).toNatClampNeg) (xs ((nI j) + (2)).toNatClampNeg) (xs ((nI j) + (3)).toNatClampNeg) (xs ((nI j) + (4)).toNatClampNeg) (0) (0)).2.2.2.2.2.2.2.2.2.2.2.2.2.2.2.2.2.1 hi hl sw kp _ hR (fun v hi1 hl1 sw1 kp1 hM => ?_)))
      refine kL_17_x (s0 := v) (vin_s (k := 1) rfl hL (by omega)) (vin_s (k := 2) rfl hL (by omega)) (vin_s (k := 3) rfl hL (by omega)) (vin_s (k := 4) rfl hL (by omega)) (cL.of (by decide) (hM _ (fun hi2 hl2 sw2 kp2 hR2 => ?_)))
      exact kL_17_m (s0 := v) (s1 := v) (fun _ => fin hi2 hl2 sw2 kp2 h7 hR2) (fun q => absurd (lg_cmp_self v) q)
    · intro c _ _ _ _ _ _ _ _ _ _ _ _ _ _ _ _ _ _ _
      have h7 := in7 c
      refine kL_18 (vin_s (k := 1) rfl hL (by omega)) (vin_s (k := 2) rfl hL (by omega)) (cL.of (by decide) ((ops (xs ((nI j) + (1)).toNatClampNeg) (xs ((nI j) + (2)).toNatClampNeg) (0) (0) (0) (0)).2.2.2.2.2.2.2.2.2.2.2.2.2.2.2.2.2.2.1 hi hl sw kp _ hR (fun v hi1 hl1 sw1 kp1 hM => ?_)))
      refine kL_18_x (s0 := v) (vin_s (k := 1) rfl hL (by omega)) (vin_s (k := 2) rfl hL (by omega)) (cL.of (by decide) (hM _ (fun hi2 hl2 sw2 kp2 hR2 => ?_)))
      exact kL_18_m (s0 := v) (s1 := v) (fun _ => fin hi2 hl2 sw2 kp2 h7 hR2) (fun q => absurd rfl q)
    · intro c _ _ _ _ _ _ _ _ _ _ _ _ _ _ _ _ _ _ _ _
      have h7 := in7 c
      refine kL_19 (vin_s (k := 1) rfl hL (by omega)) (vin_s (k := 2) rfl hL (by omega)) (vin_s (k := 3) rfl hL (by omega)) (cL.of (by decide) ((ops (xs ((nI j) + (1)).toNatClampNeg) (xs ((nI j) + (2)).toNatClampNeg) (xs ((nI j) + (3)).toNatClampNeg) (0) (0) (0)).2.2.2.2.2.2.2.2.2.2.2.2.2.2.2.2.2.2.2.1 hi hl sw kp _ hR (fun v hi1 hl1 sw1 kp1 hM => ?_)))
      refine kL_19_x (s0 := v) (vin_s (k := 1) rfl hL (by omega)) (vin_s (k := 2) rfl hL (by omega)) (vin_s (k := 3) rfl hL (by omega)) (cL.of (by decide) (hM _ (fun hi2 hl2 sw2 kp2 hR2 => ?_)))
      exact kL_19_m (s0 := v) (s1 := v) (fun _ => fin hi2 hl2 sw2 kp2 h7 hR2) (fun q => absurd rfl q)
    · intro c _ _ _ _ _ _ _ _ _ _ _ _ _ _ _ _ _ _ _ _ _
      have h7 := in7 c
      refine kL_20 (vin_s (k := 1) rfl hL (by omega)) (vin_s (k := 2) rfl hL (by omega)) (cL.of (by decide) ((ops (xs ((nI j) + (1)).toNatClampNeg) (xs ((nI j) + (2)).toNatClampNeg) (0) (0) (0) (0)).2.2.2.2.2.2.2.2.2.2.2.2.2.2.2.2.2.2.2.2.1 hi hl sw kp _ hR (fun v hi1 hl1 sw1 kp1 hM => ?_)))
      refine kL_20_x (s0 := v) (vin_s (k := 1) rfl hL (by omega)) (vin_s (k := 2) rfl hL (by omega)) (cL.of (by decide) (hM _ (fun hi2 hl2 sw2 kp2 hR2 => ?_)))
      exact kL_20_m (s0 := v) (s1 := v) (fun _ => fin hi2 hl2 sw2 kp2 h7 hR2) (fun q => absurd rfl q)
    · intro c _ _ _ _ _ _ _ _ _ _ _ _ _ _ _ _ _ _ _ _ _ _
      have h7 := in7 c
      refine kL_21  (cL.of (by decide) ((ops (0) (0) (0) (0) (0) (0)).2.2.2.2.2.2.2.2.2.2.2.2.2.2.2.2.2.2.2.2.2.1 hi hl sw kp _ hR (fun v hi1 hl1 sw1 kp1 hM => ?_)))
      refine kL_21_x (s0 := v)  (cL.of (by decide) (hM _ (fun hi2 hl2 sw2 kp2 hR2 => ?_)))
      exact kL_21_m (s0 := v) (s1 := v) (fun _ => fin hi2 hl2 sw2 kp2 h7 hR2) (fun q => absurd rfl q)
    · intro c _ _ _ _ _ _ _ _ _ _ _ _ _ _ _ _ _ _ _ _ _ _ _
      have h7 := in7 c
      refine kL_22 (vin_s (k := 1) rfl hL (by omega)) (cL.of (by decide) ((ops (xs ((nI j) + (1)).toNatClampNeg) (0) (0) (0) (0) (0)).2.2.2.2.2.2.2.2.2.2.2.2.2.2.2.2.2.2.2.2.2.2.1 hi hl sw kp _ hR (fun v hi1 hl1 sw1 kp1 hM => ?_)))
      refine kL_22_x (s0 := v) (vin_s (k := 1) rfl hL (by omega)) (cL.of (by decide) (hM _ (fun hi2 hl2 sw2 kp2 hR2 => ?_)))
      exact kL_22_m (s0 := v) (s1 := v) (fun _ => fin hi2 hl2 sw2 kp2 h7 hR2) (fun q => absurd rfl q)
    · intro c _ _ _ _ _ _ _ _ _ _ _ _ _ _ _ _ _ _ _ _ _ _ _ _
      have h7 := in7 c
      refine kL_23 (vin_s (k := 1) rfl hL (by omega)) (cL.of (by decide) ((ops (xs ((nI j) + (1)).toNatClampNeg) (0) (0) (0) (0) (0)).2.2.2.2.2.2.2.2.2.2.2.2.2.2.2.2.2.2.2.2.2.2.2.1 hi hl sw kp _ hR (fun v hi1 hl1 sw1 kp1 hM => ?_)))
      refine kL_23_x (s0 := v) (vin_s (k := 1) rfl hL (by omega)) (cL.of (by decide) (hM _ (fun hi2 hl2 sw2 kp2 hR2 => ?_)))
      exact kL_23_m (s0 := v) (s1 := v) (fun _ => fin hi2 hl2 sw2 kp2 h7 hR2) (fun q => absurd rfl q)
    · intro c _ _ _ _ _ _ _ _ _ _ _ _ _ _ _ _ _ _ _ _ _ _ _ _ _
      have h7 := in7 c
      refine kL_24 (vin_s (k := 1) rfl hL (by omega)) (cL.of (by decide) ((ops (xs ((nI j) + (1)).toNatClampNeg) (0) (0) (0) (0) (0)).2.2.2.2.2.2.2.2.2.2.2.2.2.2.2.2.2.2.2.2.2.2.2.2.1 hi hl sw kp _ hR (fun v hi1 hl1 sw1 kp1 hM => ?_)))
      refine kL_24_x (s0 := v) (vin_s (k := 1) rfl hL (by omega)) (cL.of (by decide) (hM _ (fun hi2 hl2 sw2 kp2 hR2 => ?_)))
      exact kL_24_m (s0 := v) (s1 := v) (fun _ => fin hi2 hl2 sw2 kp2 h7 hR2) (fun q => absurd rfl q)
    · intro c _ _ _ _ _ _ _ _ _ _ _ _ _ _ _ _ _ _ _ _ _ _ _ _ _ _
      have h7 := in7 c
      refine kL_25 (vin_s (k := 1) rfl hL (by omega)) (vin_s (k := 2) rfl hL (by omega)) (vin_s (k := 3) rfl hL (by omega)) (vin_s (k := 4) rfl hL (by omega)) (vin_s (k := 5) rfl hL (by omega)) (vin_s (k := 6) rfl hL (by omega)) (cL.of (by decide) ((ops (xs ((nI j) + (1)).toNatClampNeg) (xs ((nI j) + (2)).toNatClampNeg) (xs ((nI j) + (3)).toNatClampNeg) (xs ((nI j) + (4)).toNatClampNeg) (xs ((nI j) + (5)).toNatClampNeg) (xs ((nI j) + (6)).toNatClampNeg)).2.2.2.2.2.2.2.2.2.2.2.2.2.2.2.2.2.2.2.2.2.2.2.2.2.1 hi hl sw kp _ hR (fun v hi1 hl1 sw1 kp1 hM => ?_)))
      refine kL_25_x (s0 := v) (vin_s (k := 1) rfl hL (by omega)) (vin_s (k := 2) rfl hL (by omega)) (vin_s (k := 3) rfl hL (by omega)) (vin_s (k := 4) rfl hL (by omega)) (vin_s (k := 5) rfl hL (by omega)) (vin_s (k := 6) rfl hL (by omega)) (cL.of (by decide) (hM _ (fun hi2 hl2 sw2 kp2 hR2 => ?_)))
      exact kL_25_m (s0 := v) (s1 := v) (fun _ => fin hi2 hl2 sw2 kp2 h7 hR2) (fun q => absurd rfl q)
    · intro c _ _ _ _ _ _ _ _ _ _ _ _ _ _ _ _ _ _ _ _ _ _ _ _ _ _ _
      have h7 := in7 c
      refine kL_26 (vin_s (k := 1) rfl hL (by omega)) (cL.of (by decide) ((ops (xs ((nI j) + (1)).toNatClampNeg) (0) (0) (0) (0) (0)).2.2.2.2.2.2.2.2.2.2.2.2.2.2.2.2.2.2.2.2.2.2.2.2.2.2.1 hi hl sw kp _ hR (fun v hi1 hl1 sw1 kp1 hM => ?_)))
      refine kL_26_x (s0 := v) (vin_s (k := 1) rfl hL (by omega)) (cL.of (by decide) (hM _ (fun hi2 hl2 sw2 kp2 hR2 => ?_)))
      exact kL_26_m (s0 := v) (s1 := v) (fun _ => fin hi2 hl2 sw2 kp2 h7 hR2) (fun q => absurd rfl q)
    · intro c _ _ _ _ _ _ _ _ _ _ _ _ _ _ _ _ _ _ _ _ _ _ _ _ _ _ _ _
      have h7 := in7 c
      refine kL_27 (vin_s (k := 1) rfl hL (by omega)) (cL.of (by decide) ((ops (xs ((nI j) + (1)).toNatClampNeg) (0) (0) (0) (0) (0)).2.2.2.2.2.2.2.2.2.2.2.2.2.2.2.2.2.2.2.2.2.2.2.2.2.2.2.1 hi hl sw kp _ hR (fun v hi1 hl1 sw1 kp1 hM => ?_)))
      refine kL_27_x (s0 := v) (vin_s (k := 1) rfl hL (by omega)) (cL.of (by decide) (hM _ (fun hi2 hl2 sw2 kp2 hR2 => ?_)))
      exact kL_27_m (s0 := v) (s1 := v) (fun _ => fin hi2 hl2 sw2 kp2 h7 hR2) (fun q => absurd rfl q)
    · intro c _ _ _ _ _ _ _ _ _ _ _ _ _ _ _ _ _ _ _ _ _ _ _ _ _ _ _ _ _
      have h7 := in7 c
      refine kL_28 (vin_s (k := 1) rfl hL (by omega)) (vin_s (k := 2) rfl hL (by omega)) (cL.of (by decide) ((ops (xs ((nI j) + (1)).toNatClampNeg) (xs ((nI j) + (2)).toNatClampNeg) (0) (0) (0) (0)).2.2.2.2.2.2.2.2.2.2.2.2.2.2.2.2.2.2.2.2.2.2.2.2.2.2.2.2.1 hi hl sw kp _ hR (fun v hi1 hl1 sw1 kp1 hM => ?_)))
      refine kL_28_x (s0 := v) (vin_s (k := 1) rfl hL (by omega)) (vin_s (k := 2) rfl hL (by omega)) (cL.of (by decide) (hM _ (fun hi2 hl2 sw2 kp2 hR2 => ?_)))
      exact kL_28_m (s0 := v) (s1 := v) (fun _ => fin hi2 hl2 sw2 kp2 h7 hR2) (fun q => absurd rfl q)
    · intro c _ _ _ _ _ _ _ _ _ _ _ _ _ _ _ _ _ _ _ _ _ _ _ _ _ _ _ _ _ _
      have h7 := in7 c
      refine kL_29 (vin_s (k := 1) rfl hL (by omega)) (vin_s (k := 2) rfl hL (by omega)) (vin_s (k := 3) rfl hL (by omega)) (cL.of (by decide) ((ops (xs ((nI j) + (1)).toNatClampNeg) (xs ((nI j) + (2)).toNatClampNeg) (xs ((nI j) + (3)).toNatClampNeg) (0) (0) (0)).2.2.2.2.2.2.2.2.2.2.2.2.2.2.2.2.2.2.2.2.2.2.2.2.2.2.2.2.2.1 hi hl sw kp _ hR (fun v hi1 hl1 sw1 kp1 hM => ?_)))
      refine kL_29_x (s0 := v) (vin_s (k := 1) rfl hL (by omega)) (vin_s (k := 2) rfl hL (by omega)) (vin_s (k := 3) rfl hL (by omega)) (cL.of (by decide) (hM _ (fun hi2 hl2 sw2 kp2 hR2 => ?_)))
      exact kL_29_m (s0 := v) (s1 := v) (fun _ => fin hi2 hl2 sw2 kp2 h7 hR2) (fun q => absurd rfl q)
    · intro c _ _ _ _ _ _ _ _ _ _ _ _ _ _ _ _ _ _ _ _ _ _ _ _ _ _ _ _ _ _ _
      have h7 := in7 c
      refine kL_30 (vin_s (k := 1) rfl hL (by omega)) (vin_s (k := 2) rfl hL (by omega)) (vin_s (k := 3) rfl hL (by omega)) (cL.of (by decide) ((ops (xs ((nI j) + (1)).toNatClampNeg) (xs ((nI j) + (2)).toNatClampNeg) (xs ((nI j) + (3)).toNatClampNeg) (0) (0) (0)).2.2.2.2.2.2.2.2.2.2.2.2.2.2.2.2.2.2.2.2.2.2.2.2.2.2.2.2.2.2.1 hi hl sw kp _ hR (fun v hi1 hl1 sw1 kp1 hM => ?_)))
      refine kL_30_x (s0 := v) (vin_s (k := 1) rfl hL (by omega)) (vin_s (k := 2) rfl hL (by omega)) (vin_s (k := 3) rfl hL (by omega)) (cL.of (by decide) (hM _ (fun hi2 hl2 sw2 kp2 hR2 => ?_)))
      exact kL_30_m (s0 := v) (s1 := v) (fun _ => fin hi2 hl2 sw2 kp2 h7 hR2) (fun q => absurd rfl q)
    · intro c _ _ _ _ _ _ _ _ _ _ _ _ _ _ _ _ _ _ _ _ _ _ _ _ _ _ _ _ _ _ _ _
      have h7 := in7 c
      refine kL_31 (vin_s (k := 1) rfl hL (by omega)) (cL.of (by decide) ((ops (xs ((nI j) + (1)).toNatClampNeg) (0) (0) (0) (0) (0)).2.2.2.2.2.2.2.2.2.2.2.2.2.2.2.2.2.2.2.2.2.2.2.2.2.2.2.2.2.2.2.1 hi hl sw kp _ hR (fun v hi1 hl1 sw1 kp1 hM => ?_)))
      refine kL_31_x (s0 := v) (vin_s (k := 1) rfl hL (by omega)) (cL.of (by decide) (hM _ (fun hi2 hl2 sw2 kp2 hR2 => ?_)))
      exact kL_31_m (s0 := v) (s1 := v) (fun _ => fin hi2 hl2 sw2 kp2 h7 hR2) (fun q => absurd rfl q)
    · intro c _ _ _ _ _ _ _ _ _ _ _ _ _ _ _ _ _ _ _ _ _ _ _ _ _ _ _ _ _ _ _ _ _
      have h7 := in7 c
      refine kL_32 (vin_s (k := 1) rfl hL (by omega)) (cL.of (by decide) ((ops (xs ((nI j) + (1)).toNatClampNeg) (0) (0) (0) (0) (0)).2.2.2.2.2.2.2.2.2.2.2.2.2.2.2.2.2.2.2.2.2.2.2.2.2.2.2.2.2.2.2.2.1 hi hl sw kp _ hR (fun v hi1 hl1 sw1 kp1 hM => ?_)))
      refine kL_32_x (s0 := v) (vin_s (k := 1) rfl hL (by omega)) (cL.of (by decide) (hM _ (fun hi2 hl2 sw2 kp2 hR2 => ?_)))
      exact kL_32_m (s0 := v) (s1 := v) (fun _ => fin hi2 hl2 sw2 kp2 h7 hR2) (fun q => absurd rfl q)
    · intro c _ _ _ _ _ _ _ _ _ _ _ _ _ _ _ _ _ _ _ _ _ _ _ _ _ _ _ _ _ _ _ _ _ _
      have h7 := in7 c
      refine kL_33 (vin_s (k := 1) rfl hL (by omega)) (cL.of (by decide) ((ops (xs ((nI j) + (1)).toNatClampNeg) (0) (0) (0) (0) (0)).2.2.2.2.2.2.2.2.2.2.2.2.2.2.2.2.2.2.2.2.2.2.2.2.2.2.2.2.2.2.2.2.2 hi hl sw kp _ hR (fun v hi1 hl1 sw1 kp1 hM => ?_)))
      refine kL_33_x (s0 := v) (vin_s (k := 1) rfl hL (by omega)) (cL.of (by decide) (hM _ (fun hi2 hl2 sw2 kp2 hR2 => ?_)))
      exact kL_33_m (s0 := v) (s1 := v) (fun _ => fin hi2 hl2 sw2 kp2 h7 hR2) (fun q => absurd rfl q)
    · intro c _ _ _ _ _ _ _ _ _ _ _ _ _ _ _ _ _ _ _ _ _ _ _ _ _ _ _ _ _ _ _ _ _ _
      exact fin hi hl sw kp (in7 c) hR
