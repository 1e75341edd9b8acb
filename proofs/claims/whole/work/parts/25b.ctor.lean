/-! ===== the constructors, by program ===== -/
/-- what the loop over the text makes of its signs -/
def rd_F : List Int32 → Int64 → Nat → (Nat → Int64) → (Nat → Int64)
  | [], _, _, w => w
  | c :: l, p, f, w => if c = 32 then (if 21 ≤ f then rd_F l p f w else rd_F l 0 (f + 1) (fun j => if j = f then p else w j)) else rd_F l (p * 32 + (c - 97 + 1).toInt64) f w
def rd_cs : List Int32 := (List.range am_strN).map tx_c
def rd_W : Nat → Int64 := rd_F rd_cs 0 0 (fun _ => 0)
theorem rd_drop {k : Nat} (h : k < am_strN) : rd_cs.drop k = tx_c k :: rd_cs.drop (k + 1) := by
  have hl : k < rd_cs.length := by simp [rd_cs, h]
  rw [List.drop_eq_getElem_cons hl]
  simp [rd_cs]
theorem rd_up {L0 : Nat → Nat → Int64} {w : Nat → Int64} {j : Nat} {x : Int64} : u2 (uR L0 4 w) 4 j x = uR L0 4 (fun i => if i = j then x else w i) := by
  funext a b
  rw [u2_eq, uR_eq, uR_eq]
  by_cases h1 : a = 4 <;> by_cases h2 : b = j <;> simp [h1, h2]
theorem rd_z {L0 : Nat → Nat → Int64} (h : L0 4 = fun _ => 0) : L0 = uR L0 4 (fun _ => 0) := by
  funext a b
  rw [uR_eq]
  by_cases h1 : a = 4
  · rw [if_pos h1, h1, h]
  · rw [if_neg h1]

def S_0 : Nat → Nat × Nat := fun _ => (0, 0)
def I_0 : Nat → Nat → Int32 := fun _ _ => 0
def L_0 : Nat → Nat → Int64 := fun _ _ => 0
def R_0 : Nat → Nat → Option Nat := fun _ _ => none
def S_1 : Nat → Nat × Nat := fun i => bif Nat.beq i 0 then (11, 14) else (S_0) i
def I_1 : Nat → Nat → Int32 := uR (I_0) 0 (fun _ => 0)
def L_1 : Nat → Nat → Int64 := uR (L_0) 0 (fun _ => 0)
def R_1 : Nat → Nat → Option Nat := uR (R_0) 0 (fun _ => none)
abbrev HC_1 : am_Hp := (1, 14, S_1, I_1, L_1, R_1)
def S_2 : Nat → Nat × Nat := fun i => bif Nat.beq i 1 then (8, 2) else (S_1) i
def I_2 : Nat → Nat → Int32 := uR (I_1) 1 (fun _ => 0)
def L_2 : Nat → Nat → Int64 := uR (L_1) 1 (fun _ => 0)
def R_2 : Nat → Nat → Option Nat := uR (R_1) 1 (fun _ => none)
abbrev HC_2 : am_Hp := (2, 16, S_2, I_2, L_2, R_2)
def S_3 : Nat → Nat × Nat := fun i => bif Nat.beq i 2 then (101, 1600) else (S_2) i
def I_3 : Nat → Nat → Int32 := u2 (uR (I_2) 2 (fun _ => 0)) 1 1 (0)
def L_3 : Nat → Nat → Int64 := uR (L_2) 2 (fun _ => 0)
def R_3 : Nat → Nat → Option Nat := u2 (uR (R_2) 2 (fun _ => none)) 1 0 (some 2)
abbrev HC_3 : am_Hp := (3, 1616, S_3, I_3, L_3, R_3)
set_option maxRecDepth 100000 in
theorem q_2_1 {d : Nat} {Q : am_Q} (w : Q none HC_3) : pW cd_86 (3, 1616) d Q 0 [some (.ref 1)] [] HC_2 := pW.run (am_in []) 11 (And.intro (show ¬ (1600 : Int32) < 0 by decide +kernel) (And.intro (show (1600 : Int32).toNatClampNeg ≤ 10000 by decide +kernel) (And.intro (by decide +kernel) (And.intro (by decide +kernel) ⟨rfl, rfl, w⟩))))
set_option maxRecDepth 100000 in
theorem ct_2 {d : Nat} {Q : am_Q} (w : Q none HC_3) : am_Spec PR (d + 1) 86 (3, 1616) [(.ref 1)] HC_2 Q := pS.of rfl (q_2_1 w)
def S_4 : Nat → Nat × Nat := fun i => bif Nat.beq i 3 then (6, 9) else (S_3) i
def I_4 : Nat → Nat → Int32 := uR (I_3) 3 (fun _ => 0)
def L_4 : Nat → Nat → Int64 := uR (L_3) 3 (fun _ => 0)
def R_4 : Nat → Nat → Option Nat := uR (u2 (R_3) 0 0 (some 1)) 3 (fun _ => none)
abbrev HC_4 : am_Hp := (4, 1625, S_4, I_4, L_4, R_4)
def S_5 : Nat → Nat × Nat := fun i => bif Nat.beq i 4 then (103, 21) else (S_4) i
def I_5 : Nat → Nat → Int32 := u2 (u2 (uR (I_4) 4 (fun _ => 0)) 3 2 (0)) 3 3 (0)
def L_5 : Nat → Nat → Int64 := uR (L_4) 4 (fun _ => 0)
def R_5 : Nat → Nat → Option Nat := u2 (uR (R_4) 4 (fun _ => none)) 3 1 (some 4)
abbrev HC_5 : am_Hp := (5, 1646, S_5, I_5, L_5, R_5)
def I_6 : Nat → Nat → Int32 := u2 (u2 (u2 (I_5) 3 4 (0)) 3 6 (0)) 3 7 (0)
def L_6 : Nat → Nat → Int64 := u2 (L_5) 3 5 (0)
abbrev HC_6 : am_Hp := (5, 1646, S_5, I_6, L_6, R_5)
def I_7 : Nat → Nat → Int32 := u2 (I_6) 3 8 (-1)
def R_7 : Nat → Nat → Option Nat := u2 (R_5) 3 0 (some 1)
abbrev HC_7 : am_Hp := (5, 1646, S_5, I_7, L_6, R_7)
def L_8 : Nat → Nat → Int64 := uR L_6 4 rd_W
abbrev HC_8 : am_Hp := (5, 1646, S_5, I_7, L_8, R_7)
set_option maxRecDepth 100000 in
theorem q_3_1 {d : Nat} {Q : am_Q} (h : pW cd_65 (5, 1646) (d + 4) Q 22 [some (.ref 3), some (.ref 1), none, none, none, none, none] [] HC_5) : pW cd_65 (5, 1646) (d + 4) Q 0 [some (.ref 3), some (.ref 1), none, none, none, none, none] [] HC_4 := pW.run (am_in [22]) 13 (And.intro (show ¬ (21 : Int32) < 0 by decide +kernel) (And.intro (show (21 : Int32).toNatClampNeg ≤ 10000 by decide +kernel) (And.intro (by decide +kernel) (And.intro (by decide +kernel) h))))
set_option maxRecDepth 100000 in
theorem q_3_2 {d : Nat} {Q : am_Q} (h : pW cd_65 (5, 1646) (d + 4) Q 42 [some (.ref 3), some (.ref 1), none, none, none, none, none] [] HC_6) : pW cd_65 (5, 1646) (d + 4) Q 22 [some (.ref 3), some (.ref 1), none, none, none, none, none] [] HC_5 := pW.run (am_in [42]) 13 h
set_option maxRecDepth 100000 in
theorem q_3_3 {d : Nat} {Q : am_Q} (h : pW cd_65 (5, 1646) (d + 4) Q 60 [some (.ref 3), some (.ref 1), some (.long (0)), none, some (.int (0)), some (.int (0)), none] [] HC_7) : pW cd_65 (5, 1646) (d + 4) Q 42 [some (.ref 3), some (.ref 1), none, none, none, none, none] [] HC_6 := pW.run (am_in [60]) 13 (And.intro (Nat.le_of_ble_eq_true rfl) (And.intro (Nat.le_of_ble_eq_true rfl) (And.intro (Nat.le_of_ble_eq_true rfl) h)))
set_option maxRecDepth 100000 in
set_option maxHeartbeats 4000000 in
theorem rd_loop {d : Nat} {Q : am_Q} : ∀ (n k f : Nat) (p : Int64) (w : Nat → Int64) (o6 : Option Value), am_strN < k + n → k ≤ am_strN → f ≤ 21 → Q none (5, 1646, S_5, I_7, uR L_6 4 (rd_F (rd_cs.drop k) p f w), R_7) → pW cd_65 (5, 1646) (d + 4) Q 60 [some (.ref 3), some (.ref 1), some (.long p), none, some (.int (nI f)), some (.int (nI k)), o6] [] (5, 1646, S_5, I_7, uR L_6 4 w, R_7) := by
  intro n
  induction n with
  | zero => intro k f p w o6 h1 h2; exact absurd h1 (by omega)
  | succ n ih =>
    intro k f p w o6 h1 h2 hf hQ
    refine pW.run (am_in [67]) 3 (pC.of (h := (5, 1646, S_5, I_7, uR L_6 4 w, R_7)) (Nat.le_of_ble_eq_true rfl) (Nat.le_of_ble_eq_true rfl) (p_length ?_))
    have eN : am_strN < 2 ^ 31 := by decide
    refine pW.run (am_in [70]) 2 (And.intro (fun c => ⟨rfl, rfl, ?_⟩) (fun c => ?_))
    · have hk : k = am_strN := by
        rcases Nat.lt_or_ge k am_strN with q | q
        · exact absurd c (nI_ge q eN)
        · omega
      have e0 : rd_cs.drop k = [] := by
        rw [hk]
        exact List.drop_eq_nil_of_le (by simp [rd_cs])
      rw [e0] at hQ
      exact hQ
    · have hk : k < am_strN := by
        rcases Nat.lt_or_ge k am_strN with q | q
        · exact q
        · exact absurd (nI_le q (by omega)) c
      have k31 : k < 2 ^ 31 := by omega
      refine pW.run (am_in [77]) 3 (pC.of (h := (5, 1646, S_5, I_7, uR L_6 4 w, R_7)) (Nat.le_of_ble_eq_true rfl) (Nat.le_of_ble_eq_true rfl) (p_charAt (nI_pos k31) (nI_lt hk eN) (vp_in_nI hk eN) ?_))
      rw [nI_clamp k31]
      rw [rd_drop hk] at hQ
      have e1 : nI k + 1 = nI (k + 1) := nI_1 k
      by_cases h32 : tx_c k = 32
      · unfold rd_F at hQ
        rw [if_pos h32] at hQ
        by_cases hf2 : 21 ≤ f
        · rw [if_pos hf2] at hQ
          refine pW.run (am_in [60]) 10 (And.intro (Nat.le_of_ble_eq_true rfl) (And.intro (fun _ => And.intro (fun _ => And.intro (Nat.le_of_ble_eq_true rfl) ?_) (fun c => absurd (nI_le (a := 21) (b := f) hf2 (by omega)) c)) (fun c => absurd h32 c)))
          exact e1 ▸ ih (k + 1) f p w _ (by omega) (by omega) hf hQ
        · rw [if_neg hf2] at hQ
          have hf3 : f < 21 := by omega
          refine pW.run (am_in [60]) 20 (And.intro (Nat.le_of_ble_eq_true rfl) (And.intro (fun _ => And.intro (fun c => absurd c (nI_ge hf3 (by decide))) (fun _ => And.intro (show vp_in (nI f) 21 from vp_in_nI hf3 (by decide)) (And.intro (Nat.le_of_ble_eq_true rfl) (And.intro (Nat.le_of_ble_eq_true rfl) (And.intro (Nat.le_of_ble_eq_true rfl) ?_))))) (fun c => absurd h32 c)))
          have e2 : nI f + 1 = nI (f + 1) := nI_1 f
          have e3 : (nI f).toNatClampNeg = f := nI_clamp (by omega)
          have k1 := ih (k + 1) (f + 1) 0 (fun j => if j = (nI f).toNatClampNeg then p else w j) (some (.int (tx_c k))) (by omega) (by omega) (by omega) (by rw [e3]; exact hQ)
          rw [← e1, ← e2, ← rd_up] at k1
          exact k1
      · unfold rd_F at hQ
        rw [if_neg h32] at hQ
        refine pW.run (am_in [60]) 20 (And.intro (Nat.le_of_ble_eq_true rfl) (And.intro (fun c => absurd c h32) (fun _ => And.intro (Nat.le_of_ble_eq_true rfl) (And.intro (Nat.le_of_ble_eq_true rfl) ?_))))
        have k1 := ih (k + 1) f (p * 32 + (tx_c k - 97 + 1).toInt64) w (some (.int (tx_c k))) (by omega) (by omega) hf hQ
        rw [← e1] at k1
        exact k1
set_option maxRecDepth 100000 in
theorem q_3_4 {d : Nat} {Q : am_Q} (w : Q none HC_8) : pW cd_65 (5, 1646) (d + 4) Q 60 [some (.ref 3), some (.ref 1), some (.long (0)), none, some (.int (0)), some (.int (0)), none] [] HC_7 := by
  have hz : L_6 = uR L_6 4 (fun _ => 0) := rd_z (by rfl)
  have k := rd_loop (d := d) (Q := Q) (am_strN + 1) 0 0 0 (fun _ => 0) none (by omega) (Nat.zero_le _) (Nat.zero_le _) w
  rw [← hz] at k
  exact k

set_option maxRecDepth 100000 in
theorem ct_3 {d : Nat} {Q : am_Q} (w : Q none HC_8) : am_Spec PR (d + 5) 65 (5, 1646) [(.ref 3), (.ref 1)] HC_4 Q := pS.of rfl (q_3_1 (q_3_2 (q_3_3 (q_3_4 w))))
def S_9 : Nat → Nat × Nat := fun i => bif Nat.beq i 5 then (10, 15) else (S_5) i
def I_9 : Nat → Nat → Int32 := uR (I_7) 5 (fun _ => 0)
def L_9 : Nat → Nat → Int64 := uR (L_8) 5 (fun _ => 0)
def R_9 : Nat → Nat → Option Nat := uR (u2 (R_7) 0 1 (some 3)) 5 (fun _ => none)
abbrev HC_9 : am_Hp := (6, 1661, S_9, I_9, L_9, R_9)
def I_10 : Nat → Nat → Int32 := u2 (u2 (u2 (u2 (I_9) 5 0 (0)) 5 1 (0)) 5 2 (0)) 5 3 (0)
abbrev HC_10 : am_Hp := (6, 1661, S_9, I_10, L_9, R_9)
def I_11 : Nat → Nat → Int32 := u2 (u2 (u2 (u2 (I_10) 5 4 (8)) 5 5 (1)) 5 6 (0)) 5 7 (0)
abbrev HC_11 : am_Hp := (6, 1661, S_9, I_11, L_9, R_9)
def S_12 : Nat → Nat × Nat := fun i => bif Nat.beq i 7 then (100, 8) else (fun i => bif Nat.beq i 6 then (100, 8) else (S_9) i) i
def I_12 : Nat → Nat → Int32 := uR (uR (u2 (I_11) 5 8 (0)) 6 (fun _ => 0)) 7 (fun _ => 0)
def L_12 : Nat → Nat → Int64 := uR (uR (L_9) 6 (fun _ => 0)) 7 (fun _ => 0)
def R_12 : Nat → Nat → Option Nat := uR (u2 (uR (R_9) 6 (fun _ => none)) 5 9 (some 6)) 7 (fun _ => none)
abbrev HC_12 : am_Hp := (8, 1677, S_12, I_12, L_12, R_12)
def S_13 : Nat → Nat × Nat := fun i => bif Nat.beq i 9 then (100, 4) else (fun i => bif Nat.beq i 8 then (100, 8) else (S_12) i) i
def I_13 : Nat → Nat → Int32 := uR (uR (I_12) 8 (fun _ => 0)) 9 (fun _ => 0)
def L_13 : Nat → Nat → Int64 := uR (uR (L_12) 8 (fun _ => 0)) 9 (fun _ => 0)
def R_13 : Nat → Nat → Option Nat := uR (u2 (uR (u2 (R_12) 5 10 (some 7)) 8 (fun _ => none)) 5 11 (some 8)) 9 (fun _ => none)
abbrev HC_13 : am_Hp := (10, 1689, S_13, I_13, L_13, R_13)
def S_14 : Nat → Nat × Nat := fun i => bif Nat.beq i 11 then (1, 4) else (fun i => bif Nat.beq i 10 then (100, 16) else (S_13) i) i
def I_14 : Nat → Nat → Int32 := uR (uR (I_13) 10 (fun _ => 0)) 11 (fun _ => 0)
def L_14 : Nat → Nat → Int64 := uR (uR (L_13) 10 (fun _ => 0)) 11 (fun _ => 0)
def R_14 : Nat → Nat → Option Nat := uR (u2 (uR (u2 (R_13) 5 12 (some 9)) 10 (fun _ => none)) 5 13 (some 10)) 11 (fun _ => none)
abbrev HC_14 : am_Hp := (12, 1709, S_14, I_14, L_14, R_14)
def S_15 : Nat → Nat × Nat := fun i => bif Nat.beq i 13 then (100, 30) else (fun i => bif Nat.beq i 12 then (100, 269) else (S_14) i) i
def I_15 : Nat → Nat → Int32 := uR (uR (I_14) 12 (fun _ => 0)) 13 (fun _ => 0)
def L_15 : Nat → Nat → Int64 := uR (uR (L_14) 12 (fun _ => 0)) 13 (fun _ => 0)
def R_15 : Nat → Nat → Option Nat := u2 (uR (u2 (uR (R_14) 12 (fun _ => none)) 11 0 (some 12)) 13 (fun _ => none)) 11 1 (some 13)
abbrev HC_15 : am_Hp := (14, 2008, S_15, I_15, L_15, R_15)
def I_16 : Nat → Nat → Int32 := u2 (u2 (I_15) 11 2 (0)) 11 3 (0)
abbrev HC_16 : am_Hp := (14, 2008, S_15, I_16, L_15, R_15)
set_option maxRecDepth 100000 in
theorem q_5_1 {d : Nat} {Q : am_Q} (h : pW cd_6 (14, 2008) d Q 21 [some (.ref 11)] [] HC_15) : pW cd_6 (14, 2008) d Q 0 [some (.ref 11)] [] HC_14 := pW.run (am_in [21]) 11 (And.intro (show ¬ (269 : Int32) < 0 by decide +kernel) (And.intro (show (269 : Int32).toNatClampNeg ≤ 10000 by decide +kernel) (And.intro (by decide +kernel) (And.intro (by decide +kernel) (And.intro (show ¬ (30 : Int32) < 0 by decide +kernel) (And.intro (show (30 : Int32).toNatClampNeg ≤ 10000 by decide +kernel) (And.intro (by decide +kernel) (And.intro (by decide +kernel) h))))))))
set_option maxRecDepth 100000 in
theorem q_5_2 {d : Nat} {Q : am_Q} (w : Q none HC_16) : pW cd_6 (14, 2008) d Q 21 [some (.ref 11)] [] HC_15 := pW.run (am_in []) 8 ⟨rfl, rfl, w⟩
set_option maxRecDepth 100000 in
theorem ct_5 {d : Nat} {Q : am_Q} (w : Q none HC_16) : am_Spec PR (d + 1) 6 (14, 2008) [(.ref 11)] HC_14 Q := pS.of rfl (q_5_1 (q_5_2 w))
def R_17 : Nat → Nat → Option Nat := u2 (R_15) 5 14 (some 11)
abbrev HC_17 : am_Hp := (14, 2008, S_15, I_16, L_15, R_17)
set_option maxRecDepth 100000 in
theorem q_4_1 {d : Nat} {Q : am_Q} (h : pW cd_105 (14, 2008) (d + 1) Q 24 [some (.ref 5)] [] HC_10) : pW cd_105 (14, 2008) (d + 1) Q 0 [some (.ref 5)] [] HC_9 := pW.run (am_in [24]) 15 h
set_option maxRecDepth 100000 in
theorem q_4_2 {d : Nat} {Q : am_Q} (h : pW cd_105 (14, 2008) (d + 1) Q 45 [some (.ref 5)] [] HC_11) : pW cd_105 (14, 2008) (d + 1) Q 24 [some (.ref 5)] [] HC_10 := pW.run (am_in [45]) 13 h
set_option maxRecDepth 100000 in
theorem q_4_3 {d : Nat} {Q : am_Q} (h : pW cd_105 (14, 2008) (d + 1) Q 63 [some (.ref 5)] [(.ref 7), (.ref 5)] HC_12) : pW cd_105 (14, 2008) (d + 1) Q 45 [some (.ref 5)] [] HC_11 := pW.run (am_in [63]) 11 (And.intro (show ¬ (8 : Int32) < 0 by decide +kernel) (And.intro (show (8 : Int32).toNatClampNeg ≤ 10000 by decide +kernel) (And.intro (by decide +kernel) (And.intro (by decide +kernel) (And.intro (show ¬ (8 : Int32) < 0 by decide +kernel) (And.intro (show (8 : Int32).toNatClampNeg ≤ 10000 by decide +kernel) (And.intro (by decide +kernel) (And.intro (by decide +kernel) h))))))))
set_option maxRecDepth 100000 in
theorem q_4_4 {d : Nat} {Q : am_Q} (h : pW cd_105 (14, 2008) (d + 1) Q 78 [some (.ref 5)] [(.ref 9), (.ref 5)] HC_13) : pW cd_105 (14, 2008) (d + 1) Q 63 [some (.ref 5)] [(.ref 7), (.ref 5)] HC_12 := pW.run (am_in [78]) 9 (And.intro (show ¬ (8 : Int32) < 0 by decide +kernel) (And.intro (show (8 : Int32).toNatClampNeg ≤ 10000 by decide +kernel) (And.intro (by decide +kernel) (And.intro (by decide +kernel) (And.intro (show ¬ (4 : Int32) < 0 by decide +kernel) (And.intro (show (4 : Int32).toNatClampNeg ≤ 10000 by decide +kernel) (And.intro (by decide +kernel) (And.intro (by decide +kernel) h))))))))
set_option maxRecDepth 100000 in
theorem q_4_5 {d : Nat} {Q : am_Q} (h : pW cd_105 (14, 2008) (d + 1) Q 93 [some (.ref 5)] [(.ref 11), (.ref 5)] HC_14) : pW cd_105 (14, 2008) (d + 1) Q 78 [some (.ref 5)] [(.ref 9), (.ref 5)] HC_13 := pW.run (am_in [93]) 8 (And.intro (show ¬ (16 : Int32) < 0 by decide +kernel) (And.intro (show (16 : Int32).toNatClampNeg ≤ 10000 by decide +kernel) (And.intro (by decide +kernel) (And.intro (by decide +kernel) (And.intro (by decide +kernel) (And.intro (by decide +kernel) h))))))
set_option maxRecDepth 100000 in
theorem q_4_6 {d : Nat} {Q : am_Q} (h : pC (14, 2008) (d + 1) 6 [(.ref 11)] HC_14 (am_ret (pW cd_105 (14, 2008) (d + 1) Q) 97 [some (.ref 5)] [(.ref 11), (.ref 5)])) : pW cd_105 (14, 2008) (d + 1) Q 93 [some (.ref 5)] [(.ref 11), (.ref 5)] HC_14 := pW.run (am_in [97]) 3 (And.intro rfl h)
set_option maxRecDepth 100000 in
theorem q_4_7 {d : Nat} {Q : am_Q} (w : Q none HC_17) : pW cd_105 (14, 2008) (d + 1) Q 97 [some (.ref 5)] [(.ref 11), (.ref 5)] HC_16 := pW.run (am_in []) 3 ⟨rfl, rfl, w⟩
set_option maxRecDepth 100000 in
theorem ct_4 {d : Nat} {Q : am_Q} (w : Q none HC_17) : am_Spec PR (d + 2) 105 (14, 2008) [(.ref 5)] HC_9 Q := pS.of rfl (q_4_1 (q_4_2 (q_4_3 (q_4_4 (q_4_5 (q_4_6 ⟨(14, 2008), Nat.le_of_ble_eq_true rfl, Nat.le_of_ble_eq_true rfl, Nat.le_of_ble_eq_true rfl, Nat.le_of_ble_eq_true rfl, ct_5 (q_4_7 w)⟩))))))
def S_18 : Nat → Nat × Nat := fun i => bif Nat.beq i 14 then (9, 8) else (S_15) i
def I_18 : Nat → Nat → Int32 := uR (I_16) 14 (fun _ => 0)
def L_18 : Nat → Nat → Int64 := uR (L_15) 14 (fun _ => 0)
def R_18 : Nat → Nat → Option Nat := uR (u2 (R_17) 0 3 (some 5)) 14 (fun _ => none)
abbrev HC_18 : am_Hp := (15, 2016, S_18, I_18, L_18, R_18)
def S_19 : Nat → Nat × Nat := fun i => bif Nat.beq i 16 then (103, 8) else (fun i => bif Nat.beq i 15 then (103, 4) else (S_18) i) i
def I_19 : Nat → Nat → Int32 := uR (uR (I_18) 15 (fun _ => 0)) 16 (fun _ => 0)
def L_19 : Nat → Nat → Int64 := uR (uR (L_18) 15 (fun _ => 0)) 16 (fun _ => 0)
def R_19 : Nat → Nat → Option Nat := u2 (uR (u2 (uR (R_18) 15 (fun _ => none)) 14 3 (some 15)) 16 (fun _ => none)) 14 4 (some 16)
abbrev HC_19 : am_Hp := (17, 2028, S_19, I_19, L_19, R_19)
def S_20 : Nat → Nat × Nat := fun i => bif Nat.beq i 17 then (103, 4) else (S_19) i
def I_20 : Nat → Nat → Int32 := u2 (u2 (uR (I_19) 17 (fun _ => 0)) 14 6 (0)) 14 7 (0)
def L_20 : Nat → Nat → Int64 := uR (L_19) 17 (fun _ => 0)
def R_20 : Nat → Nat → Option Nat := u2 (uR (R_19) 17 (fun _ => none)) 14 5 (some 17)
abbrev HC_20 : am_Hp := (18, 2032, S_20, I_20, L_20, R_20)
def S_21 : Nat → Nat × Nat := fun i => bif Nat.beq i 18 then (5, 2) else (S_20) i
def I_21 : Nat → Nat → Int32 := uR (I_20) 18 (fun _ => 0)
def L_21 : Nat → Nat → Int64 := uR (L_20) 18 (fun _ => 0)
def R_21 : Nat → Nat → Option Nat := uR (u2 (u2 (R_20) 14 0 (some 3)) 14 1 (some 5)) 18 (fun _ => none)
abbrev HC_21 : am_Hp := (19, 2034, S_21, I_21, L_21, R_21)
def R_22 : Nat → Nat → Option Nat := u2 (u2 (R_21) 18 0 (some 3)) 18 1 (some 11)
abbrev HC_22 : am_Hp := (19, 2034, S_21, I_21, L_21, R_22)
set_option maxRecDepth 100000 in
theorem q_7_1 {d : Nat} {Q : am_Q} (w : Q none HC_22) : pW cd_55 (19, 2034) d Q 0 [some (.ref 18), some (.ref 3), some (.ref 11)] [] HC_21 := pW.run (am_in []) 10 ⟨rfl, rfl, w⟩
set_option maxRecDepth 100000 in
theorem ct_7 {d : Nat} {Q : am_Q} (w : Q none HC_22) : am_Spec PR (d + 1) 55 (19, 2034) [(.ref 18), (.ref 3), (.ref 11)] HC_21 Q := pS.of rfl (q_7_1 w)
def R_23 : Nat → Nat → Option Nat := u2 (R_22) 14 2 (some 18)
abbrev HC_23 : am_Hp := (19, 2034, S_21, I_21, L_21, R_23)
set_option maxRecDepth 100000 in
theorem q_6_1 {d : Nat} {Q : am_Q} (h : pW cd_89 (19, 2034) (d + 1) Q 19 [some (.ref 14), some (.ref 3), some (.ref 5)] [] HC_19) : pW cd_89 (19, 2034) (d + 1) Q 0 [some (.ref 14), some (.ref 3), some (.ref 5)] [] HC_18 := pW.run (am_in [19]) 11 (And.intro (show ¬ (4 : Int32) < 0 by decide +kernel) (And.intro (show (4 : Int32).toNatClampNeg ≤ 10000 by decide +kernel) (And.intro (by decide +kernel) (And.intro (by decide +kernel) (And.intro (show ¬ (8 : Int32) < 0 by decide +kernel) (And.intro (show (8 : Int32).toNatClampNeg ≤ 10000 by decide +kernel) (And.intro (by decide +kernel) (And.intro (by decide +kernel) h))))))))
set_option maxRecDepth 100000 in
theorem q_6_2 {d : Nat} {Q : am_Q} (h : pW cd_89 (19, 2034) (d + 1) Q 36 [some (.ref 14), some (.ref 3), some (.ref 5)] [] HC_20) : pW cd_89 (19, 2034) (d + 1) Q 19 [some (.ref 14), some (.ref 3), some (.ref 5)] [] HC_19 := pW.run (am_in [36]) 11 (And.intro (show ¬ (4 : Int32) < 0 by decide +kernel) (And.intro (show (4 : Int32).toNatClampNeg ≤ 10000 by decide +kernel) (And.intro (by decide +kernel) (And.intro (by decide +kernel) h))))
set_option maxRecDepth 100000 in
theorem q_6_3 {d : Nat} {Q : am_Q} (h : pC (19, 2034) (d + 1) 55 [(.ref 18), (.ref 3), (.ref 11)] HC_21 (am_ret (pW cd_89 (19, 2034) (d + 1) Q) 59 [some (.ref 14), some (.ref 3), some (.ref 5)] [(.ref 18), (.ref 14)])) : pW cd_89 (19, 2034) (d + 1) Q 36 [some (.ref 14), some (.ref 3), some (.ref 5)] [] HC_20 := pW.run (am_in [59]) 14 (And.intro (by decide +kernel) (And.intro (by decide +kernel) (And.intro rfl h)))
set_option maxRecDepth 100000 in
theorem q_6_4 {d : Nat} {Q : am_Q} (w : Q none HC_23) : pW cd_89 (19, 2034) (d + 1) Q 59 [some (.ref 14), some (.ref 3), some (.ref 5)] [(.ref 18), (.ref 14)] HC_22 := pW.run (am_in []) 3 ⟨rfl, rfl, w⟩
set_option maxRecDepth 100000 in
theorem ct_6 {d : Nat} {Q : am_Q} (w : Q none HC_23) : am_Spec PR (d + 2) 89 (19, 2034) [(.ref 14), (.ref 3), (.ref 5)] HC_18 Q := pS.of rfl (q_6_1 (q_6_2 (q_6_3 ⟨(19, 2034), Nat.le_of_ble_eq_true rfl, Nat.le_of_ble_eq_true rfl, Nat.le_of_ble_eq_true rfl, Nat.le_of_ble_eq_true rfl, ct_7 (q_6_4 w)⟩)))
def S_24 : Nat → Nat × Nat := fun i => bif Nat.beq i 19 then (10, 15) else (S_21) i
def I_24 : Nat → Nat → Int32 := uR (I_21) 19 (fun _ => 0)
def L_24 : Nat → Nat → Int64 := uR (L_21) 19 (fun _ => 0)
def R_24 : Nat → Nat → Option Nat := uR (u2 (R_23) 0 2 (some 14)) 19 (fun _ => none)
abbrev HC_24 : am_Hp := (20, 2049, S_24, I_24, L_24, R_24)
def I_25 : Nat → Nat → Int32 := u2 (u2 (u2 (u2 (I_24) 19 0 (0)) 19 1 (0)) 19 2 (0)) 19 3 (0)
abbrev HC_25 : am_Hp := (20, 2049, S_24, I_25, L_24, R_24)
def I_26 : Nat → Nat → Int32 := u2 (u2 (u2 (u2 (I_25) 19 4 (8)) 19 5 (1)) 19 6 (0)) 19 7 (0)
abbrev HC_26 : am_Hp := (20, 2049, S_24, I_26, L_24, R_24)
def S_27 : Nat → Nat × Nat := fun i => bif Nat.beq i 21 then (100, 8) else (fun i => bif Nat.beq i 20 then (100, 8) else (S_24) i) i
def I_27 : Nat → Nat → Int32 := uR (uR (u2 (I_26) 19 8 (0)) 20 (fun _ => 0)) 21 (fun _ => 0)
def L_27 : Nat → Nat → Int64 := uR (uR (L_24) 20 (fun _ => 0)) 21 (fun _ => 0)
def R_27 : Nat → Nat → Option Nat := uR (u2 (uR (R_24) 20 (fun _ => none)) 19 9 (some 20)) 21 (fun _ => none)
abbrev HC_27 : am_Hp := (22, 2065, S_27, I_27, L_27, R_27)
def S_28 : Nat → Nat × Nat := fun i => bif Nat.beq i 23 then (100, 4) else (fun i => bif Nat.beq i 22 then (100, 8) else (S_27) i) i
def I_28 : Nat → Nat → Int32 := uR (uR (I_27) 22 (fun _ => 0)) 23 (fun _ => 0)
def L_28 : Nat → Nat → Int64 := uR (uR (L_27) 22 (fun _ => 0)) 23 (fun _ => 0)
def R_28 : Nat → Nat → Option Nat := uR (u2 (uR (u2 (R_27) 19 10 (some 21)) 22 (fun _ => none)) 19 11 (some 22)) 23 (fun _ => none)
abbrev HC_28 : am_Hp := (24, 2077, S_28, I_28, L_28, R_28)
def S_29 : Nat → Nat × Nat := fun i => bif Nat.beq i 25 then (1, 4) else (fun i => bif Nat.beq i 24 then (100, 16) else (S_28) i) i
def I_29 : Nat → Nat → Int32 := uR (uR (I_28) 24 (fun _ => 0)) 25 (fun _ => 0)
def L_29 : Nat → Nat → Int64 := uR (uR (L_28) 24 (fun _ => 0)) 25 (fun _ => 0)
def R_29 : Nat → Nat → Option Nat := uR (u2 (uR (u2 (R_28) 19 12 (some 23)) 24 (fun _ => none)) 19 13 (some 24)) 25 (fun _ => none)
abbrev HC_29 : am_Hp := (26, 2097, S_29, I_29, L_29, R_29)
def S_30 : Nat → Nat × Nat := fun i => bif Nat.beq i 27 then (100, 30) else (fun i => bif Nat.beq i 26 then (100, 269) else (S_29) i) i
def I_30 : Nat → Nat → Int32 := uR (uR (I_29) 26 (fun _ => 0)) 27 (fun _ => 0)
def L_30 : Nat → Nat → Int64 := uR (uR (L_29) 26 (fun _ => 0)) 27 (fun _ => 0)
def R_30 : Nat → Nat → Option Nat := u2 (uR (u2 (uR (R_29) 26 (fun _ => none)) 25 0 (some 26)) 27 (fun _ => none)) 25 1 (some 27)
abbrev HC_30 : am_Hp := (28, 2396, S_30, I_30, L_30, R_30)
def I_31 : Nat → Nat → Int32 := u2 (u2 (I_30) 25 2 (0)) 25 3 (0)
abbrev HC_31 : am_Hp := (28, 2396, S_30, I_31, L_30, R_30)
set_option maxRecDepth 100000 in
theorem q_9_1 {d : Nat} {Q : am_Q} (h : pW cd_6 (28, 2396) d Q 21 [some (.ref 25)] [] HC_30) : pW cd_6 (28, 2396) d Q 0 [some (.ref 25)] [] HC_29 := pW.run (am_in [21]) 11 (And.intro (show ¬ (269 : Int32) < 0 by decide +kernel) (And.intro (show (269 : Int32).toNatClampNeg ≤ 10000 by decide +kernel) (And.intro (by decide +kernel) (And.intro (by decide +kernel) (And.intro (show ¬ (30 : Int32) < 0 by decide +kernel) (And.intro (show (30 : Int32).toNatClampNeg ≤ 10000 by decide +kernel) (And.intro (by decide +kernel) (And.intro (by decide +kernel) h))))))))
set_option maxRecDepth 100000 in
theorem q_9_2 {d : Nat} {Q : am_Q} (w : Q none HC_31) : pW cd_6 (28, 2396) d Q 21 [some (.ref 25)] [] HC_30 := pW.run (am_in []) 8 ⟨rfl, rfl, w⟩
set_option maxRecDepth 100000 in
theorem ct_9 {d : Nat} {Q : am_Q} (w : Q none HC_31) : am_Spec PR (d + 1) 6 (28, 2396) [(.ref 25)] HC_29 Q := pS.of rfl (q_9_1 (q_9_2 w))
def R_32 : Nat → Nat → Option Nat := u2 (R_30) 19 14 (some 25)
abbrev HC_32 : am_Hp := (28, 2396, S_30, I_31, L_30, R_32)
set_option maxRecDepth 100000 in
theorem q_8_1 {d : Nat} {Q : am_Q} (h : pW cd_105 (28, 2396) (d + 1) Q 24 [some (.ref 19)] [] HC_25) : pW cd_105 (28, 2396) (d + 1) Q 0 [some (.ref 19)] [] HC_24 := pW.run (am_in [24]) 15 h
set_option maxRecDepth 100000 in
theorem q_8_2 {d : Nat} {Q : am_Q} (h : pW cd_105 (28, 2396) (d + 1) Q 45 [some (.ref 19)] [] HC_26) : pW cd_105 (28, 2396) (d + 1) Q 24 [some (.ref 19)] [] HC_25 := pW.run (am_in [45]) 13 h
set_option maxRecDepth 100000 in
theorem q_8_3 {d : Nat} {Q : am_Q} (h : pW cd_105 (28, 2396) (d + 1) Q 63 [some (.ref 19)] [(.ref 21), (.ref 19)] HC_27) : pW cd_105 (28, 2396) (d + 1) Q 45 [some (.ref 19)] [] HC_26 := pW.run (am_in [63]) 11 (And.intro (show ¬ (8 : Int32) < 0 by decide +kernel) (And.intro (show (8 : Int32).toNatClampNeg ≤ 10000 by decide +kernel) (And.intro (by decide +kernel) (And.intro (by decide +kernel) (And.intro (show ¬ (8 : Int32) < 0 by decide +kernel) (And.intro (show (8 : Int32).toNatClampNeg ≤ 10000 by decide +kernel) (And.intro (by decide +kernel) (And.intro (by decide +kernel) h))))))))
set_option maxRecDepth 100000 in
theorem q_8_4 {d : Nat} {Q : am_Q} (h : pW cd_105 (28, 2396) (d + 1) Q 78 [some (.ref 19)] [(.ref 23), (.ref 19)] HC_28) : pW cd_105 (28, 2396) (d + 1) Q 63 [some (.ref 19)] [(.ref 21), (.ref 19)] HC_27 := pW.run (am_in [78]) 9 (And.intro (show ¬ (8 : Int32) < 0 by decide +kernel) (And.intro (show (8 : Int32).toNatClampNeg ≤ 10000 by decide +kernel) (And.intro (by decide +kernel) (And.intro (by decide +kernel) (And.intro (show ¬ (4 : Int32) < 0 by decide +kernel) (And.intro (show (4 : Int32).toNatClampNeg ≤ 10000 by decide +kernel) (And.intro (by decide +kernel) (And.intro (by decide +kernel) h))))))))
set_option maxRecDepth 100000 in
theorem q_8_5 {d : Nat} {Q : am_Q} (h : pW cd_105 (28, 2396) (d + 1) Q 93 [some (.ref 19)] [(.ref 25), (.ref 19)] HC_29) : pW cd_105 (28, 2396) (d + 1) Q 78 [some (.ref 19)] [(.ref 23), (.ref 19)] HC_28 := pW.run (am_in [93]) 8 (And.intro (show ¬ (16 : Int32) < 0 by decide +kernel) (And.intro (show (16 : Int32).toNatClampNeg ≤ 10000 by decide +kernel) (And.intro (by decide +kernel) (And.intro (by decide +kernel) (And.intro (by decide +kernel) (And.intro (by decide +kernel) h))))))
set_option maxRecDepth 100000 in
theorem q_8_6 {d : Nat} {Q : am_Q} (h : pC (28, 2396) (d + 1) 6 [(.ref 25)] HC_29 (am_ret (pW cd_105 (28, 2396) (d + 1) Q) 97 [some (.ref 19)] [(.ref 25), (.ref 19)])) : pW cd_105 (28, 2396) (d + 1) Q 93 [some (.ref 19)] [(.ref 25), (.ref 19)] HC_29 := pW.run (am_in [97]) 3 (And.intro rfl h)
set_option maxRecDepth 100000 in
theorem q_8_7 {d : Nat} {Q : am_Q} (w : Q none HC_32) : pW cd_105 (28, 2396) (d + 1) Q 97 [some (.ref 19)] [(.ref 25), (.ref 19)] HC_31 := pW.run (am_in []) 3 ⟨rfl, rfl, w⟩
set_option maxRecDepth 100000 in
theorem ct_8 {d : Nat} {Q : am_Q} (w : Q none HC_32) : am_Spec PR (d + 2) 105 (28, 2396) [(.ref 19)] HC_24 Q := pS.of rfl (q_8_1 (q_8_2 (q_8_3 (q_8_4 (q_8_5 (q_8_6 ⟨(28, 2396), Nat.le_of_ble_eq_true rfl, Nat.le_of_ble_eq_true rfl, Nat.le_of_ble_eq_true rfl, Nat.le_of_ble_eq_true rfl, ct_9 (q_8_7 w)⟩))))))
def S_33 : Nat → Nat × Nat := fun i => bif Nat.beq i 28 then (7, 7) else (S_30) i
def I_33 : Nat → Nat → Int32 := uR (I_31) 28 (fun _ => 0)
def L_33 : Nat → Nat → Int64 := uR (L_30) 28 (fun _ => 0)
def R_33 : Nat → Nat → Option Nat := uR (u2 (R_32) 0 4 (some 19)) 28 (fun _ => none)
abbrev HC_33 : am_Hp := (29, 2403, S_33, I_33, L_33, R_33)
def S_34 : Nat → Nat × Nat := fun i => bif Nat.beq i 29 then (100, 8) else (S_33) i
def I_34 : Nat → Nat → Int32 := uR (u2 (u2 (u2 (I_33) 28 0 (-1)) 28 1 (0)) 28 2 (0)) 29 (fun _ => 0)
def L_34 : Nat → Nat → Int64 := uR (L_33) 29 (fun _ => 0)
def R_34 : Nat → Nat → Option Nat := uR (R_33) 29 (fun _ => none)
abbrev HC_34 : am_Hp := (30, 2411, S_34, I_34, L_34, R_34)
def S_35 : Nat → Nat × Nat := fun i => bif Nat.beq i 31 then (100, 4) else (fun i => bif Nat.beq i 30 then (100, 4) else (S_34) i) i
def I_35 : Nat → Nat → Int32 := uR (uR (I_34) 30 (fun _ => 0)) 31 (fun _ => 0)
def L_35 : Nat → Nat → Int64 := uR (uR (L_34) 30 (fun _ => 0)) 31 (fun _ => 0)
def R_35 : Nat → Nat → Option Nat := uR (u2 (uR (u2 (R_34) 28 3 (some 29)) 30 (fun _ => none)) 28 4 (some 30)) 31 (fun _ => none)
abbrev HC_35 : am_Hp := (32, 2419, S_35, I_35, L_35, R_35)
def S_36 : Nat → Nat × Nat := fun i => bif Nat.beq i 32 then (100, 60) else (S_35) i
def I_36 : Nat → Nat → Int32 := uR (I_35) 32 (fun _ => 0)
def L_36 : Nat → Nat → Int64 := uR (L_35) 32 (fun _ => 0)
def R_36 : Nat → Nat → Option Nat := u2 (uR (u2 (R_35) 28 5 (some 31)) 32 (fun _ => none)) 28 6 (some 32)
abbrev HC_36 : am_Hp := (33, 2479, S_36, I_36, L_36, R_36)
set_option maxRecDepth 100000 in
theorem q_10_1 {d : Nat} {Q : am_Q} (h : pW cd_78 (33, 2479) d Q 24 [some (.ref 28)] [(.ref 29), (.ref 28)] HC_34) : pW cd_78 (33, 2479) d Q 0 [some (.ref 28)] [] HC_33 := pW.run (am_in [24]) 15 (And.intro (show ¬ (8 : Int32) < 0 by decide +kernel) (And.intro (show (8 : Int32).toNatClampNeg ≤ 10000 by decide +kernel) (And.intro (by decide +kernel) (And.intro (by decide +kernel) h))))
set_option maxRecDepth 100000 in
theorem q_10_2 {d : Nat} {Q : am_Q} (h : pW cd_78 (33, 2479) d Q 38 [some (.ref 28)] [(.ref 31), (.ref 28)] HC_35) : pW cd_78 (33, 2479) d Q 24 [some (.ref 28)] [(.ref 29), (.ref 28)] HC_34 := pW.run (am_in [38]) 9 (And.intro (show ¬ (4 : Int32) < 0 by decide +kernel) (And.intro (show (4 : Int32).toNatClampNeg ≤ 10000 by decide +kernel) (And.intro (by decide +kernel) (And.intro (by decide +kernel) (And.intro (show ¬ (4 : Int32) < 0 by decide +kernel) (And.intro (show (4 : Int32).toNatClampNeg ≤ 10000 by decide +kernel) (And.intro (by decide +kernel) (And.intro (by decide +kernel) h))))))))
set_option maxRecDepth 100000 in
theorem q_10_3 {d : Nat} {Q : am_Q} (w : Q none HC_36) : pW cd_78 (33, 2479) d Q 38 [some (.ref 28)] [(.ref 31), (.ref 28)] HC_35 := pW.run (am_in []) 7 (And.intro (show ¬ (60 : Int32) < 0 by decide +kernel) (And.intro (show (60 : Int32).toNatClampNeg ≤ 10000 by decide +kernel) (And.intro (by decide +kernel) (And.intro (by decide +kernel) ⟨rfl, rfl, w⟩))))
set_option maxRecDepth 100000 in
theorem ct_10 {d : Nat} {Q : am_Q} (w : Q none HC_36) : am_Spec PR (d + 1) 78 (33, 2479) [(.ref 28)] HC_33 Q := pS.of rfl (q_10_1 (q_10_2 (q_10_3 w)))
def S_37 : Nat → Nat × Nat := fun i => bif Nat.beq i 33 then (0, 3) else (S_36) i
def I_37 : Nat → Nat → Int32 := uR (I_36) 33 (fun _ => 0)
def L_37 : Nat → Nat → Int64 := uR (L_36) 33 (fun _ => 0)
def R_37 : Nat → Nat → Option Nat := uR (u2 (R_36) 0 5 (some 28)) 33 (fun _ => none)
abbrev HC_37 : am_Hp := (34, 2482, S_37, I_37, L_37, R_37)
def S_38 : Nat → Nat × Nat := fun i => bif Nat.beq i 34 then (104, 41) else (S_37) i
def I_38 : Nat → Nat → Int32 := u2 (u2 (uR (I_37) 34 (fun _ => 0)) 33 1 (0)) 33 2 (0)
def L_38 : Nat → Nat → Int64 := uR (L_37) 34 (fun _ => 0)
def R_38 : Nat → Nat → Option Nat := u2 (uR (R_37) 34 (fun _ => none)) 33 0 (some 34)
abbrev HC_38 : am_Hp := (35, 2523, S_38, I_38, L_38, R_38)
def S_39 : Nat → Nat × Nat := fun i => bif Nat.beq i 35 then (7, 7) else (S_38) i
def I_39 : Nat → Nat → Int32 := uR (I_38) 35 (fun _ => 0)
def L_39 : Nat → Nat → Int64 := uR (L_38) 35 (fun _ => 0)
def R_39 : Nat → Nat → Option Nat := uR (R_38) 35 (fun _ => none)
abbrev HC_39 : am_Hp := (36, 2530, S_39, I_39, L_39, R_39)
def S_40 : Nat → Nat × Nat := fun i => bif Nat.beq i 36 then (100, 8) else (S_39) i
def I_40 : Nat → Nat → Int32 := uR (u2 (u2 (u2 (I_39) 35 0 (-1)) 35 1 (0)) 35 2 (0)) 36 (fun _ => 0)
def L_40 : Nat → Nat → Int64 := uR (L_39) 36 (fun _ => 0)
def R_40 : Nat → Nat → Option Nat := uR (R_39) 36 (fun _ => none)
abbrev HC_40 : am_Hp := (37, 2538, S_40, I_40, L_40, R_40)
def S_41 : Nat → Nat × Nat := fun i => bif Nat.beq i 38 then (100, 4) else (fun i => bif Nat.beq i 37 then (100, 4) else (S_40) i) i
def I_41 : Nat → Nat → Int32 := uR (uR (I_40) 37 (fun _ => 0)) 38 (fun _ => 0)
def L_41 : Nat → Nat → Int64 := uR (uR (L_40) 37 (fun _ => 0)) 38 (fun _ => 0)
def R_41 : Nat → Nat → Option Nat := uR (u2 (uR (u2 (R_40) 35 3 (some 36)) 37 (fun _ => none)) 35 4 (some 37)) 38 (fun _ => none)
abbrev HC_41 : am_Hp := (39, 2546, S_41, I_41, L_41, R_41)
def S_42 : Nat → Nat × Nat := fun i => bif Nat.beq i 39 then (100, 60) else (S_41) i
def I_42 : Nat → Nat → Int32 := uR (I_41) 39 (fun _ => 0)
def L_42 : Nat → Nat → Int64 := uR (L_41) 39 (fun _ => 0)
def R_42 : Nat → Nat → Option Nat := u2 (uR (u2 (R_41) 35 5 (some 38)) 39 (fun _ => none)) 35 6 (some 39)
abbrev HC_42 : am_Hp := (40, 2606, S_42, I_42, L_42, R_42)
set_option maxRecDepth 100000 in
theorem q_12_1 {d : Nat} {Q : am_Q} (h : pW cd_78 (40, 2606) d Q 24 [some (.ref 35)] [(.ref 36), (.ref 35)] HC_40) : pW cd_78 (40, 2606) d Q 0 [some (.ref 35)] [] HC_39 := pW.run (am_in [24]) 15 (And.intro (show ¬ (8 : Int32) < 0 by decide +kernel) (And.intro (show (8 : Int32).toNatClampNeg ≤ 10000 by decide +kernel) (And.intro (by decide +kernel) (And.intro (by decide +kernel) h))))
set_option maxRecDepth 100000 in
theorem q_12_2 {d : Nat} {Q : am_Q} (h : pW cd_78 (40, 2606) d Q 38 [some (.ref 35)] [(.ref 38), (.ref 35)] HC_41) : pW cd_78 (40, 2606) d Q 24 [some (.ref 35)] [(.ref 36), (.ref 35)] HC_40 := pW.run (am_in [38]) 9 (And.intro (show ¬ (4 : Int32) < 0 by decide +kernel) (And.intro (show (4 : Int32).toNatClampNeg ≤ 10000 by decide +kernel) (And.intro (by decide +kernel) (And.intro (by decide +kernel) (And.intro (show ¬ (4 : Int32) < 0 by decide +kernel) (And.intro (show (4 : Int32).toNatClampNeg ≤ 10000 by decide +kernel) (And.intro (by decide +kernel) (And.intro (by decide +kernel) h))))))))
set_option maxRecDepth 100000 in
theorem q_12_3 {d : Nat} {Q : am_Q} (w : Q none HC_42) : pW cd_78 (40, 2606) d Q 38 [some (.ref 35)] [(.ref 38), (.ref 35)] HC_41 := pW.run (am_in []) 7 (And.intro (show ¬ (60 : Int32) < 0 by decide +kernel) (And.intro (show (60 : Int32).toNatClampNeg ≤ 10000 by decide +kernel) (And.intro (by decide +kernel) (And.intro (by decide +kernel) ⟨rfl, rfl, w⟩))))
set_option maxRecDepth 100000 in
theorem ct_12 {d : Nat} {Q : am_Q} (w : Q none HC_42) : am_Spec PR (d + 1) 78 (40, 2606) [(.ref 35)] HC_39 Q := pS.of rfl (q_12_1 (q_12_2 (q_12_3 w)))
def R_43 : Nat → Nat → Option Nat := u2 (R_42) 34 0 (some 35)
abbrev HC_43 : am_Hp := (40, 2606, S_42, I_42, L_42, R_43)
def S_44 : Nat → Nat × Nat := fun i => bif Nat.beq i 40 then (7, 7) else (S_42) i
def I_44 : Nat → Nat → Int32 := uR (I_42) 40 (fun _ => 0)
def L_44 : Nat → Nat → Int64 := uR (L_42) 40 (fun _ => 0)
def R_44 : Nat → Nat → Option Nat := uR (R_43) 40 (fun _ => none)
abbrev HC_44 : am_Hp := (41, 2613, S_44, I_44, L_44, R_44)
def S_45 : Nat → Nat × Nat := fun i => bif Nat.beq i 41 then (100, 8) else (S_44) i
def I_45 : Nat → Nat → Int32 := uR (u2 (u2 (u2 (I_44) 40 0 (-1)) 40 1 (0)) 40 2 (0)) 41 (fun _ => 0)
def L_45 : Nat → Nat → Int64 := uR (L_44) 41 (fun _ => 0)
def R_45 : Nat → Nat → Option Nat := uR (R_44) 41 (fun _ => none)
abbrev HC_45 : am_Hp := (42, 2621, S_45, I_45, L_45, R_45)
def S_46 : Nat → Nat × Nat := fun i => bif Nat.beq i 43 then (100, 4) else (fun i => bif Nat.beq i 42 then (100, 4) else (S_45) i) i
def I_46 : Nat → Nat → Int32 := uR (uR (I_45) 42 (fun _ => 0)) 43 (fun _ => 0)
def L_46 : Nat → Nat → Int64 := uR (uR (L_45) 42 (fun _ => 0)) 43 (fun _ => 0)
def R_46 : Nat → Nat → Option Nat := uR (u2 (uR (u2 (R_45) 40 3 (some 41)) 42 (fun _ => none)) 40 4 (some 42)) 43 (fun _ => none)
abbrev HC_46 : am_Hp := (44, 2629, S_46, I_46, L_46, R_46)
def S_47 : Nat → Nat × Nat := fun i => bif Nat.beq i 44 then (100, 60) else (S_46) i
def I_47 : Nat → Nat → Int32 := uR (I_46) 44 (fun _ => 0)
def L_47 : Nat → Nat → Int64 := uR (L_46) 44 (fun _ => 0)
def R_47 : Nat → Nat → Option Nat := u2 (uR (u2 (R_46) 40 5 (some 43)) 44 (fun _ => none)) 40 6 (some 44)
abbrev HC_47 : am_Hp := (45, 2689, S_47, I_47, L_47, R_47)
set_option maxRecDepth 100000 in
theorem q_13_1 {d : Nat} {Q : am_Q} (h : pW cd_78 (45, 2689) d Q 24 [some (.ref 40)] [(.ref 41), (.ref 40)] HC_45) : pW cd_78 (45, 2689) d Q 0 [some (.ref 40)] [] HC_44 := pW.run (am_in [24]) 15 (And.intro (show ¬ (8 : Int32) < 0 by decide +kernel) (And.intro (show (8 : Int32).toNatClampNeg ≤ 10000 by decide +kernel) (And.intro (by decide +kernel) (And.intro (by decide +kernel) h))))
set_option maxRecDepth 100000 in
theorem q_13_2 {d : Nat} {Q : am_Q} (h : pW cd_78 (45, 2689) d Q 38 [some (.ref 40)] [(.ref 43), (.ref 40)] HC_46) : pW cd_78 (45, 2689) d Q 24 [some (.ref 40)] [(.ref 41), (.ref 40)] HC_45 := pW.run (am_in [38]) 9 (And.intro (show ¬ (4 : Int32) < 0 by decide +kernel) (And.intro (show (4 : Int32).toNatClampNeg ≤ 10000 by decide +kernel) (And.intro (by decide +kernel) (And.intro (by decide +kernel) (And.intro (show ¬ (4 : Int32) < 0 by decide +kernel) (And.intro (show (4 : Int32).toNatClampNeg ≤ 10000 by decide +kernel) (And.intro (by decide +kernel) (And.intro (by decide +kernel) h))))))))
set_option maxRecDepth 100000 in
theorem q_13_3 {d : Nat} {Q : am_Q} (w : Q none HC_47) : pW cd_78 (45, 2689) d Q 38 [some (.ref 40)] [(.ref 43), (.ref 40)] HC_46 := pW.run (am_in []) 7 (And.intro (show ¬ (60 : Int32) < 0 by decide +kernel) (And.intro (show (60 : Int32).toNatClampNeg ≤ 10000 by decide +kernel) (And.intro (by decide +kernel) (And.intro (by decide +kernel) ⟨rfl, rfl, w⟩))))
set_option maxRecDepth 100000 in
theorem ct_13 {d : Nat} {Q : am_Q} (w : Q none HC_47) : am_Spec PR (d + 1) 78 (45, 2689) [(.ref 40)] HC_44 Q := pS.of rfl (q_13_1 (q_13_2 (q_13_3 w)))
def R_48 : Nat → Nat → Option Nat := u2 (R_47) 34 1 (some 40)
abbrev HC_48 : am_Hp := (45, 2689, S_47, I_47, L_47, R_48)
def S_49 : Nat → Nat × Nat := fun i => bif Nat.beq i 45 then (7, 7) else (S_47) i
def I_49 : Nat → Nat → Int32 := uR (I_47) 45 (fun _ => 0)
def L_49 : Nat → Nat → Int64 := uR (L_47) 45 (fun _ => 0)
def R_49 : Nat → Nat → Option Nat := uR (R_48) 45 (fun _ => none)
abbrev HC_49 : am_Hp := (46, 2696, S_49, I_49, L_49, R_49)
def S_50 : Nat → Nat × Nat := fun i => bif Nat.beq i 46 then (100, 8) else (S_49) i
def I_50 : Nat → Nat → Int32 := uR (u2 (u2 (u2 (I_49) 45 0 (-1)) 45 1 (0)) 45 2 (0)) 46 (fun _ => 0)
def L_50 : Nat → Nat → Int64 := uR (L_49) 46 (fun _ => 0)
def R_50 : Nat → Nat → Option Nat := uR (R_49) 46 (fun _ => none)
abbrev HC_50 : am_Hp := (47, 2704, S_50, I_50, L_50, R_50)
def S_51 : Nat → Nat × Nat := fun i => bif Nat.beq i 48 then (100, 4) else (fun i => bif Nat.beq i 47 then (100, 4) else (S_50) i) i
def I_51 : Nat → Nat → Int32 := uR (uR (I_50) 47 (fun _ => 0)) 48 (fun _ => 0)
def L_51 : Nat → Nat → Int64 := uR (uR (L_50) 47 (fun _ => 0)) 48 (fun _ => 0)
def R_51 : Nat → Nat → Option Nat := uR (u2 (uR (u2 (R_50) 45 3 (some 46)) 47 (fun _ => none)) 45 4 (some 47)) 48 (fun _ => none)
abbrev HC_51 : am_Hp := (49, 2712, S_51, I_51, L_51, R_51)
def S_52 : Nat → Nat × Nat := fun i => bif Nat.beq i 49 then (100, 60) else (S_51) i
def I_52 : Nat → Nat → Int32 := uR (I_51) 49 (fun _ => 0)
def L_52 : Nat → Nat → Int64 := uR (L_51) 49 (fun _ => 0)
def R_52 : Nat → Nat → Option Nat := u2 (uR (u2 (R_51) 45 5 (some 48)) 49 (fun _ => none)) 45 6 (some 49)
abbrev HC_52 : am_Hp := (50, 2772, S_52, I_52, L_52, R_52)
set_option maxRecDepth 100000 in
theorem q_14_1 {d : Nat} {Q : am_Q} (h : pW cd_78 (50, 2772) d Q 24 [some (.ref 45)] [(.ref 46), (.ref 45)] HC_50) : pW cd_78 (50, 2772) d Q 0 [some (.ref 45)] [] HC_49 := pW.run (am_in [24]) 15 (And.intro (show ¬ (8 : Int32) < 0 by decide +kernel) (And.intro (show (8 : Int32).toNatClampNeg ≤ 10000 by decide +kernel) (And.intro (by decide +kernel) (And.intro (by decide +kernel) h))))
set_option maxRecDepth 100000 in
theorem q_14_2 {d : Nat} {Q : am_Q} (h : pW cd_78 (50, 2772) d Q 38 [some (.ref 45)] [(.ref 48), (.ref 45)] HC_51) : pW cd_78 (50, 2772) d Q 24 [some (.ref 45)] [(.ref 46), (.ref 45)] HC_50 := pW.run (am_in [38]) 9 (And.intro (show ¬ (4 : Int32) < 0 by decide +kernel) (And.intro (show (4 : Int32).toNatClampNeg ≤ 10000 by decide +kernel) (And.intro (by decide +kernel) (And.intro (by decide +kernel) (And.intro (show ¬ (4 : Int32) < 0 by decide +kernel) (And.intro (show (4 : Int32).toNatClampNeg ≤ 10000 by decide +kernel) (And.intro (by decide +kernel) (And.intro (by decide +kernel) h))))))))
set_option maxRecDepth 100000 in
theorem q_14_3 {d : Nat} {Q : am_Q} (w : Q none HC_52) : pW cd_78 (50, 2772) d Q 38 [some (.ref 45)] [(.ref 48), (.ref 45)] HC_51 := pW.run (am_in []) 7 (And.intro (show ¬ (60 : Int32) < 0 by decide +kernel) (And.intro (show (60 : Int32).toNatClampNeg ≤ 10000 by decide +kernel) (And.intro (by decide +kernel) (And.intro (by decide +kernel) ⟨rfl, rfl, w⟩))))
set_option maxRecDepth 100000 in
theorem ct_14 {d : Nat} {Q : am_Q} (w : Q none HC_52) : am_Spec PR (d + 1) 78 (50, 2772) [(.ref 45)] HC_49 Q := pS.of rfl (q_14_1 (q_14_2 (q_14_3 w)))
def R_53 : Nat → Nat → Option Nat := u2 (R_52) 34 2 (some 45)
abbrev HC_53 : am_Hp := (50, 2772, S_52, I_52, L_52, R_53)
def S_54 : Nat → Nat × Nat := fun i => bif Nat.beq i 50 then (7, 7) else (S_52) i
def I_54 : Nat → Nat → Int32 := uR (I_52) 50 (fun _ => 0)
def L_54 : Nat → Nat → Int64 := uR (L_52) 50 (fun _ => 0)
def R_54 : Nat → Nat → Option Nat := uR (R_53) 50 (fun _ => none)
abbrev HC_54 : am_Hp := (51, 2779, S_54, I_54, L_54, R_54)
def S_55 : Nat → Nat × Nat := fun i => bif Nat.beq i 51 then (100, 8) else (S_54) i
def I_55 : Nat → Nat → Int32 := uR (u2 (u2 (u2 (I_54) 50 0 (-1)) 50 1 (0)) 50 2 (0)) 51 (fun _ => 0)
def L_55 : Nat → Nat → Int64 := uR (L_54) 51 (fun _ => 0)
def R_55 : Nat → Nat → Option Nat := uR (R_54) 51 (fun _ => none)
abbrev HC_55 : am_Hp := (52, 2787, S_55, I_55, L_55, R_55)
def S_56 : Nat → Nat × Nat := fun i => bif Nat.beq i 53 then (100, 4) else (fun i => bif Nat.beq i 52 then (100, 4) else (S_55) i) i
def I_56 : Nat → Nat → Int32 := uR (uR (I_55) 52 (fun _ => 0)) 53 (fun _ => 0)
def L_56 : Nat → Nat → Int64 := uR (uR (L_55) 52 (fun _ => 0)) 53 (fun _ => 0)
def R_56 : Nat → Nat → Option Nat := uR (u2 (uR (u2 (R_55) 50 3 (some 51)) 52 (fun _ => none)) 50 4 (some 52)) 53 (fun _ => none)
abbrev HC_56 : am_Hp := (54, 2795, S_56, I_56, L_56, R_56)
def S_57 : Nat → Nat × Nat := fun i => bif Nat.beq i 54 then (100, 60) else (S_56) i
def I_57 : Nat → Nat → Int32 := uR (I_56) 54 (fun _ => 0)
def L_57 : Nat → Nat → Int64 := uR (L_56) 54 (fun _ => 0)
def R_57 : Nat → Nat → Option Nat := u2 (uR (u2 (R_56) 50 5 (some 53)) 54 (fun _ => none)) 50 6 (some 54)
abbrev HC_57 : am_Hp := (55, 2855, S_57, I_57, L_57, R_57)
set_option maxRecDepth 100000 in
theorem q_15_1 {d : Nat} {Q : am_Q} (h : pW cd_78 (55, 2855) d Q 24 [some (.ref 50)] [(.ref 51), (.ref 50)] HC_55) : pW cd_78 (55, 2855) d Q 0 [some (.ref 50)] [] HC_54 := pW.run (am_in [24]) 15 (And.intro (show ¬ (8 : Int32) < 0 by decide +kernel) (And.intro (show (8 : Int32).toNatClampNeg ≤ 10000 by decide +kernel) (And.intro (by decide +kernel) (And.intro (by decide +kernel) h))))
set_option maxRecDepth 100000 in
theorem q_15_2 {d : Nat} {Q : am_Q} (h : pW cd_78 (55, 2855) d Q 38 [some (.ref 50)] [(.ref 53), (.ref 50)] HC_56) : pW cd_78 (55, 2855) d Q 24 [some (.ref 50)] [(.ref 51), (.ref 50)] HC_55 := pW.run (am_in [38]) 9 (And.intro (show ¬ (4 : Int32) < 0 by decide +kernel) (And.intro (show (4 : Int32).toNatClampNeg ≤ 10000 by decide +kernel) (And.intro (by decide +kernel) (And.intro (by decide +kernel) (And.intro (show ¬ (4 : Int32) < 0 by decide +kernel) (And.intro (show (4 : Int32).toNatClampNeg ≤ 10000 by decide +kernel) (And.intro (by decide +kernel) (And.intro (by decide +kernel) h))))))))
set_option maxRecDepth 100000 in
theorem q_15_3 {d : Nat} {Q : am_Q} (w : Q none HC_57) : pW cd_78 (55, 2855) d Q 38 [some (.ref 50)] [(.ref 53), (.ref 50)] HC_56 := pW.run (am_in []) 7 (And.intro (show ¬ (60 : Int32) < 0 by decide +kernel) (And.intro (show (60 : Int32).toNatClampNeg ≤ 10000 by decide +kernel) (And.intro (by decide +kernel) (And.intro (by decide +kernel) ⟨rfl, rfl, w⟩))))
set_option maxRecDepth 100000 in
theorem ct_15 {d : Nat} {Q : am_Q} (w : Q none HC_57) : am_Spec PR (d + 1) 78 (55, 2855) [(.ref 50)] HC_54 Q := pS.of rfl (q_15_1 (q_15_2 (q_15_3 w)))
def R_58 : Nat → Nat → Option Nat := u2 (R_57) 34 3 (some 50)
abbrev HC_58 : am_Hp := (55, 2855, S_57, I_57, L_57, R_58)
def S_59 : Nat → Nat × Nat := fun i => bif Nat.beq i 55 then (7, 7) else (S_57) i
def I_59 : Nat → Nat → Int32 := uR (I_57) 55 (fun _ => 0)
def L_59 : Nat → Nat → Int64 := uR (L_57) 55 (fun _ => 0)
def R_59 : Nat → Nat → Option Nat := uR (R_58) 55 (fun _ => none)
abbrev HC_59 : am_Hp := (56, 2862, S_59, I_59, L_59, R_59)
def S_60 : Nat → Nat × Nat := fun i => bif Nat.beq i 56 then (100, 8) else (S_59) i
def I_60 : Nat → Nat → Int32 := uR (u2 (u2 (u2 (I_59) 55 0 (-1)) 55 1 (0)) 55 2 (0)) 56 (fun _ => 0)
def L_60 : Nat → Nat → Int64 := uR (L_59) 56 (fun _ => 0)
def R_60 : Nat → Nat → Option Nat := uR (R_59) 56 (fun _ => none)
abbrev HC_60 : am_Hp := (57, 2870, S_60, I_60, L_60, R_60)
def S_61 : Nat → Nat × Nat := fun i => bif Nat.beq i 58 then (100, 4) else (fun i => bif Nat.beq i 57 then (100, 4) else (S_60) i) i
def I_61 : Nat → Nat → Int32 := uR (uR (I_60) 57 (fun _ => 0)) 58 (fun _ => 0)
def L_61 : Nat → Nat → Int64 := uR (uR (L_60) 57 (fun _ => 0)) 58 (fun _ => 0)
def R_61 : Nat → Nat → Option Nat := uR (u2 (uR (u2 (R_60) 55 3 (some 56)) 57 (fun _ => none)) 55 4 (some 57)) 58 (fun _ => none)
abbrev HC_61 : am_Hp := (59, 2878, S_61, I_61, L_61, R_61)
def S_62 : Nat → Nat × Nat := fun i => bif Nat.beq i 59 then (100, 60) else (S_61) i
def I_62 : Nat → Nat → Int32 := uR (I_61) 59 (fun _ => 0)
def L_62 : Nat → Nat → Int64 := uR (L_61) 59 (fun _ => 0)
def R_62 : Nat → Nat → Option Nat := u2 (uR (u2 (R_61) 55 5 (some 58)) 59 (fun _ => none)) 55 6 (some 59)
abbrev HC_62 : am_Hp := (60, 2938, S_62, I_62, L_62, R_62)
set_option maxRecDepth 100000 in
theorem q_16_1 {d : Nat} {Q : am_Q} (h : pW cd_78 (60, 2938) d Q 24 [some (.ref 55)] [(.ref 56), (.ref 55)] HC_60) : pW cd_78 (60, 2938) d Q 0 [some (.ref 55)] [] HC_59 := pW.run (am_in [24]) 15 (And.intro (show ¬ (8 : Int32) < 0 by decide +kernel) (And.intro (show (8 : Int32).toNatClampNeg ≤ 10000 by decide +kernel) (And.intro (by decide +kernel) (And.intro (by decide +kernel) h))))
set_option maxRecDepth 100000 in
theorem q_16_2 {d : Nat} {Q : am_Q} (h : pW cd_78 (60, 2938) d Q 38 [some (.ref 55)] [(.ref 58), (.ref 55)] HC_61) : pW cd_78 (60, 2938) d Q 24 [some (.ref 55)] [(.ref 56), (.ref 55)] HC_60 := pW.run (am_in [38]) 9 (And.intro (show ¬ (4 : Int32) < 0 by decide +kernel) (And.intro (show (4 : Int32).toNatClampNeg ≤ 10000 by decide +kernel) (And.intro (by decide +kernel) (And.intro (by decide +kernel) (And.intro (show ¬ (4 : Int32) < 0 by decide +kernel) (And.intro (show (4 : Int32).toNatClampNeg ≤ 10000 by decide +kernel) (And.intro (by decide +kernel) (And.intro (by decide +kernel) h))))))))
set_option maxRecDepth 100000 in
theorem q_16_3 {d : Nat} {Q : am_Q} (w : Q none HC_62) : pW cd_78 (60, 2938) d Q 38 [some (.ref 55)] [(.ref 58), (.ref 55)] HC_61 := pW.run (am_in []) 7 (And.intro (show ¬ (60 : Int32) < 0 by decide +kernel) (And.intro (show (60 : Int32).toNatClampNeg ≤ 10000 by decide +kernel) (And.intro (by decide +kernel) (And.intro (by decide +kernel) ⟨rfl, rfl, w⟩))))
set_option maxRecDepth 100000 in
theorem ct_16 {d : Nat} {Q : am_Q} (w : Q none HC_62) : am_Spec PR (d + 1) 78 (60, 2938) [(.ref 55)] HC_59 Q := pS.of rfl (q_16_1 (q_16_2 (q_16_3 w)))
def R_63 : Nat → Nat → Option Nat := u2 (R_62) 34 4 (some 55)
abbrev HC_63 : am_Hp := (60, 2938, S_62, I_62, L_62, R_63)
def S_64 : Nat → Nat × Nat := fun i => bif Nat.beq i 60 then (7, 7) else (S_62) i
def I_64 : Nat → Nat → Int32 := uR (I_62) 60 (fun _ => 0)
def L_64 : Nat → Nat → Int64 := uR (L_62) 60 (fun _ => 0)
def R_64 : Nat → Nat → Option Nat := uR (R_63) 60 (fun _ => none)
abbrev HC_64 : am_Hp := (61, 2945, S_64, I_64, L_64, R_64)
def S_65 : Nat → Nat × Nat := fun i => bif Nat.beq i 61 then (100, 8) else (S_64) i
def I_65 : Nat → Nat → Int32 := uR (u2 (u2 (u2 (I_64) 60 0 (-1)) 60 1 (0)) 60 2 (0)) 61 (fun _ => 0)
def L_65 : Nat → Nat → Int64 := uR (L_64) 61 (fun _ => 0)
def R_65 : Nat → Nat → Option Nat := uR (R_64) 61 (fun _ => none)
abbrev HC_65 : am_Hp := (62, 2953, S_65, I_65, L_65, R_65)
def S_66 : Nat → Nat × Nat := fun i => bif Nat.beq i 63 then (100, 4) else (fun i => bif Nat.beq i 62 then (100, 4) else (S_65) i) i
def I_66 : Nat → Nat → Int32 := uR (uR (I_65) 62 (fun _ => 0)) 63 (fun _ => 0)
def L_66 : Nat → Nat → Int64 := uR (uR (L_65) 62 (fun _ => 0)) 63 (fun _ => 0)
def R_66 : Nat → Nat → Option Nat := uR (u2 (uR (u2 (R_65) 60 3 (some 61)) 62 (fun _ => none)) 60 4 (some 62)) 63 (fun _ => none)
abbrev HC_66 : am_Hp := (64, 2961, S_66, I_66, L_66, R_66)
def S_67 : Nat → Nat × Nat := fun i => bif Nat.beq i 64 then (100, 60) else (S_66) i
def I_67 : Nat → Nat → Int32 := uR (I_66) 64 (fun _ => 0)
def L_67 : Nat → Nat → Int64 := uR (L_66) 64 (fun _ => 0)
def R_67 : Nat → Nat → Option Nat := u2 (uR (u2 (R_66) 60 5 (some 63)) 64 (fun _ => none)) 60 6 (some 64)
abbrev HC_67 : am_Hp := (65, 3021, S_67, I_67, L_67, R_67)
set_option maxRecDepth 100000 in
theorem q_17_1 {d : Nat} {Q : am_Q} (h : pW cd_78 (65, 3021) d Q 24 [some (.ref 60)] [(.ref 61), (.ref 60)] HC_65) : pW cd_78 (65, 3021) d Q 0 [some (.ref 60)] [] HC_64 := pW.run (am_in [24]) 15 (And.intro (show ¬ (8 : Int32) < 0 by decide +kernel) (And.intro (show (8 : Int32).toNatClampNeg ≤ 10000 by decide +kernel) (And.intro (by decide +kernel) (And.intro (by decide +kernel) h))))
set_option maxRecDepth 100000 in
theorem q_17_2 {d : Nat} {Q : am_Q} (h : pW cd_78 (65, 3021) d Q 38 [some (.ref 60)] [(.ref 63), (.ref 60)] HC_66) : pW cd_78 (65, 3021) d Q 24 [some (.ref 60)] [(.ref 61), (.ref 60)] HC_65 := pW.run (am_in [38]) 9 (And.intro (show ¬ (4 : Int32) < 0 by decide +kernel) (And.intro (show (4 : Int32).toNatClampNeg ≤ 10000 by decide +kernel) (And.intro (by decide +kernel) (And.intro (by decide +kernel) (And.intro (show ¬ (4 : Int32) < 0 by decide +kernel) (And.intro (show (4 : Int32).toNatClampNeg ≤ 10000 by decide +kernel) (And.intro (by decide +kernel) (And.intro (by decide +kernel) h))))))))
set_option maxRecDepth 100000 in
theorem q_17_3 {d : Nat} {Q : am_Q} (w : Q none HC_67) : pW cd_78 (65, 3021) d Q 38 [some (.ref 60)] [(.ref 63), (.ref 60)] HC_66 := pW.run (am_in []) 7 (And.intro (show ¬ (60 : Int32) < 0 by decide +kernel) (And.intro (show (60 : Int32).toNatClampNeg ≤ 10000 by decide +kernel) (And.intro (by decide +kernel) (And.intro (by decide +kernel) ⟨rfl, rfl, w⟩))))
set_option maxRecDepth 100000 in
theorem ct_17 {d : Nat} {Q : am_Q} (w : Q none HC_67) : am_Spec PR (d + 1) 78 (65, 3021) [(.ref 60)] HC_64 Q := pS.of rfl (q_17_1 (q_17_2 (q_17_3 w)))
def R_68 : Nat → Nat → Option Nat := u2 (R_67) 34 5 (some 60)
abbrev HC_68 : am_Hp := (65, 3021, S_67, I_67, L_67, R_68)
def S_69 : Nat → Nat × Nat := fun i => bif Nat.beq i 65 then (7, 7) else (S_67) i
def I_69 : Nat → Nat → Int32 := uR (I_67) 65 (fun _ => 0)
def L_69 : Nat → Nat → Int64 := uR (L_67) 65 (fun _ => 0)
def R_69 : Nat → Nat → Option Nat := uR (R_68) 65 (fun _ => none)
abbrev HC_69 : am_Hp := (66, 3028, S_69, I_69, L_69, R_69)
def S_70 : Nat → Nat × Nat := fun i => bif Nat.beq i 66 then (100, 8) else (S_69) i
def I_70 : Nat → Nat → Int32 := uR (u2 (u2 (u2 (I_69) 65 0 (-1)) 65 1 (0)) 65 2 (0)) 66 (fun _ => 0)
def L_70 : Nat → Nat → Int64 := uR (L_69) 66 (fun _ => 0)
def R_70 : Nat → Nat → Option Nat := uR (R_69) 66 (fun _ => none)
abbrev HC_70 : am_Hp := (67, 3036, S_70, I_70, L_70, R_70)
def S_71 : Nat → Nat × Nat := fun i => bif Nat.beq i 68 then (100, 4) else (fun i => bif Nat.beq i 67 then (100, 4) else (S_70) i) i
def I_71 : Nat → Nat → Int32 := uR (uR (I_70) 67 (fun _ => 0)) 68 (fun _ => 0)
def L_71 : Nat → Nat → Int64 := uR (uR (L_70) 67 (fun _ => 0)) 68 (fun _ => 0)
def R_71 : Nat → Nat → Option Nat := uR (u2 (uR (u2 (R_70) 65 3 (some 66)) 67 (fun _ => none)) 65 4 (some 67)) 68 (fun _ => none)
abbrev HC_71 : am_Hp := (69, 3044, S_71, I_71, L_71, R_71)
def S_72 : Nat → Nat × Nat := fun i => bif Nat.beq i 69 then (100, 60) else (S_71) i
def I_72 : Nat → Nat → Int32 := uR (I_71) 69 (fun _ => 0)
def L_72 : Nat → Nat → Int64 := uR (L_71) 69 (fun _ => 0)
def R_72 : Nat → Nat → Option Nat := u2 (uR (u2 (R_71) 65 5 (some 68)) 69 (fun _ => none)) 65 6 (some 69)
abbrev HC_72 : am_Hp := (70, 3104, S_72, I_72, L_72, R_72)
set_option maxRecDepth 100000 in
theorem q_18_1 {d : Nat} {Q : am_Q} (h : pW cd_78 (70, 3104) d Q 24 [some (.ref 65)] [(.ref 66), (.ref 65)] HC_70) : pW cd_78 (70, 3104) d Q 0 [some (.ref 65)] [] HC_69 := pW.run (am_in [24]) 15 (And.intro (show ¬ (8 : Int32) < 0 by decide +kernel) (And.intro (show (8 : Int32).toNatClampNeg ≤ 10000 by decide +kernel) (And.intro (by decide +kernel) (And.intro (by decide +kernel) h))))
set_option maxRecDepth 100000 in
theorem q_18_2 {d : Nat} {Q : am_Q} (h : pW cd_78 (70, 3104) d Q 38 [some (.ref 65)] [(.ref 68), (.ref 65)] HC_71) : pW cd_78 (70, 3104) d Q 24 [some (.ref 65)] [(.ref 66), (.ref 65)] HC_70 := pW.run (am_in [38]) 9 (And.intro (show ¬ (4 : Int32) < 0 by decide +kernel) (And.intro (show (4 : Int32).toNatClampNeg ≤ 10000 by decide +kernel) (And.intro (by decide +kernel) (And.intro (by decide +kernel) (And.intro (show ¬ (4 : Int32) < 0 by decide +kernel) (And.intro (show (4 : Int32).toNatClampNeg ≤ 10000 by decide +kernel) (And.intro (by decide +kernel) (And.intro (by decide +kernel) h))))))))
set_option maxRecDepth 100000 in
theorem q_18_3 {d : Nat} {Q : am_Q} (w : Q none HC_72) : pW cd_78 (70, 3104) d Q 38 [some (.ref 65)] [(.ref 68), (.ref 65)] HC_71 := pW.run (am_in []) 7 (And.intro (show ¬ (60 : Int32) < 0 by decide +kernel) (And.intro (show (60 : Int32).toNatClampNeg ≤ 10000 by decide +kernel) (And.intro (by decide +kernel) (And.intro (by decide +kernel) ⟨rfl, rfl, w⟩))))
set_option maxRecDepth 100000 in
theorem ct_18 {d : Nat} {Q : am_Q} (w : Q none HC_72) : am_Spec PR (d + 1) 78 (70, 3104) [(.ref 65)] HC_69 Q := pS.of rfl (q_18_1 (q_18_2 (q_18_3 w)))
def R_73 : Nat → Nat → Option Nat := u2 (R_72) 34 6 (some 65)
abbrev HC_73 : am_Hp := (70, 3104, S_72, I_72, L_72, R_73)
def S_74 : Nat → Nat × Nat := fun i => bif Nat.beq i 70 then (7, 7) else (S_72) i
def I_74 : Nat → Nat → Int32 := uR (I_72) 70 (fun _ => 0)
def L_74 : Nat → Nat → Int64 := uR (L_72) 70 (fun _ => 0)
def R_74 : Nat → Nat → Option Nat := uR (R_73) 70 (fun _ => none)
abbrev HC_74 : am_Hp := (71, 3111, S_74, I_74, L_74, R_74)
def S_75 : Nat → Nat × Nat := fun i => bif Nat.beq i 71 then (100, 8) else (S_74) i
def I_75 : Nat → Nat → Int32 := uR (u2 (u2 (u2 (I_74) 70 0 (-1)) 70 1 (0)) 70 2 (0)) 71 (fun _ => 0)
def L_75 : Nat → Nat → Int64 := uR (L_74) 71 (fun _ => 0)
def R_75 : Nat → Nat → Option Nat := uR (R_74) 71 (fun _ => none)
abbrev HC_75 : am_Hp := (72, 3119, S_75, I_75, L_75, R_75)
def S_76 : Nat → Nat × Nat := fun i => bif Nat.beq i 73 then (100, 4) else (fun i => bif Nat.beq i 72 then (100, 4) else (S_75) i) i
def I_76 : Nat → Nat → Int32 := uR (uR (I_75) 72 (fun _ => 0)) 73 (fun _ => 0)
def L_76 : Nat → Nat → Int64 := uR (uR (L_75) 72 (fun _ => 0)) 73 (fun _ => 0)
def R_76 : Nat → Nat → Option Nat := uR (u2 (uR (u2 (R_75) 70 3 (some 71)) 72 (fun _ => none)) 70 4 (some 72)) 73 (fun _ => none)
abbrev HC_76 : am_Hp := (74, 3127, S_76, I_76, L_76, R_76)
def S_77 : Nat → Nat × Nat := fun i => bif Nat.beq i 74 then (100, 60) else (S_76) i
def I_77 : Nat → Nat → Int32 := uR (I_76) 74 (fun _ => 0)
def L_77 : Nat → Nat → Int64 := uR (L_76) 74 (fun _ => 0)
def R_77 : Nat → Nat → Option Nat := u2 (uR (u2 (R_76) 70 5 (some 73)) 74 (fun _ => none)) 70 6 (some 74)
abbrev HC_77 : am_Hp := (75, 3187, S_77, I_77, L_77, R_77)
set_option maxRecDepth 100000 in
theorem q_19_1 {d : Nat} {Q : am_Q} (h : pW cd_78 (75, 3187) d Q 24 [some (.ref 70)] [(.ref 71), (.ref 70)] HC_75) : pW cd_78 (75, 3187) d Q 0 [some (.ref 70)] [] HC_74 := pW.run (am_in [24]) 15 (And.intro (show ¬ (8 : Int32) < 0 by decide +kernel) (And.intro (show (8 : Int32).toNatClampNeg ≤ 10000 by decide +kernel) (And.intro (by decide +kernel) (And.intro (by decide +kernel) h))))
set_option maxRecDepth 100000 in
theorem q_19_2 {d : Nat} {Q : am_Q} (h : pW cd_78 (75, 3187) d Q 38 [some (.ref 70)] [(.ref 73), (.ref 70)] HC_76) : pW cd_78 (75, 3187) d Q 24 [some (.ref 70)] [(.ref 71), (.ref 70)] HC_75 := pW.run (am_in [38]) 9 (And.intro (show ¬ (4 : Int32) < 0 by decide +kernel) (And.intro (show (4 : Int32).toNatClampNeg ≤ 10000 by decide +kernel) (And.intro (by decide +kernel) (And.intro (by decide +kernel) (And.intro (show ¬ (4 : Int32) < 0 by decide +kernel) (And.intro (show (4 : Int32).toNatClampNeg ≤ 10000 by decide +kernel) (And.intro (by decide +kernel) (And.intro (by decide +kernel) h))))))))
set_option maxRecDepth 100000 in
theorem q_19_3 {d : Nat} {Q : am_Q} (w : Q none HC_77) : pW cd_78 (75, 3187) d Q 38 [some (.ref 70)] [(.ref 73), (.ref 70)] HC_76 := pW.run (am_in []) 7 (And.intro (show ¬ (60 : Int32) < 0 by decide +kernel) (And.intro (show (60 : Int32).toNatClampNeg ≤ 10000 by decide +kernel) (And.intro (by decide +kernel) (And.intro (by decide +kernel) ⟨rfl, rfl, w⟩))))
set_option maxRecDepth 100000 in
theorem ct_19 {d : Nat} {Q : am_Q} (w : Q none HC_77) : am_Spec PR (d + 1) 78 (75, 3187) [(.ref 70)] HC_74 Q := pS.of rfl (q_19_1 (q_19_2 (q_19_3 w)))
def R_78 : Nat → Nat → Option Nat := u2 (R_77) 34 7 (some 70)
abbrev HC_78 : am_Hp := (75, 3187, S_77, I_77, L_77, R_78)
def S_79 : Nat → Nat × Nat := fun i => bif Nat.beq i 75 then (7, 7) else (S_77) i
def I_79 : Nat → Nat → Int32 := uR (I_77) 75 (fun _ => 0)
def L_79 : Nat → Nat → Int64 := uR (L_77) 75 (fun _ => 0)
def R_79 : Nat → Nat → Option Nat := uR (R_78) 75 (fun _ => none)
abbrev HC_79 : am_Hp := (76, 3194, S_79, I_79, L_79, R_79)
def S_80 : Nat → Nat × Nat := fun i => bif Nat.beq i 76 then (100, 8) else (S_79) i
def I_80 : Nat → Nat → Int32 := uR (u2 (u2 (u2 (I_79) 75 0 (-1)) 75 1 (0)) 75 2 (0)) 76 (fun _ => 0)
def L_80 : Nat → Nat → Int64 := uR (L_79) 76 (fun _ => 0)
def R_80 : Nat → Nat → Option Nat := uR (R_79) 76 (fun _ => none)
abbrev HC_80 : am_Hp := (77, 3202, S_80, I_80, L_80, R_80)
def S_81 : Nat → Nat × Nat := fun i => bif Nat.beq i 78 then (100, 4) else (fun i => bif Nat.beq i 77 then (100, 4) else (S_80) i) i
def I_81 : Nat → Nat → Int32 := uR (uR (I_80) 77 (fun _ => 0)) 78 (fun _ => 0)
def L_81 : Nat → Nat → Int64 := uR (uR (L_80) 77 (fun _ => 0)) 78 (fun _ => 0)
def R_81 : Nat → Nat → Option Nat := uR (u2 (uR (u2 (R_80) 75 3 (some 76)) 77 (fun _ => none)) 75 4 (some 77)) 78 (fun _ => none)
abbrev HC_81 : am_Hp := (79, 3210, S_81, I_81, L_81, R_81)
def S_82 : Nat → Nat × Nat := fun i => bif Nat.beq i 79 then (100, 60) else (S_81) i
def I_82 : Nat → Nat → Int32 := uR (I_81) 79 (fun _ => 0)
def L_82 : Nat → Nat → Int64 := uR (L_81) 79 (fun _ => 0)
def R_82 : Nat → Nat → Option Nat := u2 (uR (u2 (R_81) 75 5 (some 78)) 79 (fun _ => none)) 75 6 (some 79)
abbrev HC_82 : am_Hp := (80, 3270, S_82, I_82, L_82, R_82)
set_option maxRecDepth 100000 in
theorem q_20_1 {d : Nat} {Q : am_Q} (h : pW cd_78 (80, 3270) d Q 24 [some (.ref 75)] [(.ref 76), (.ref 75)] HC_80) : pW cd_78 (80, 3270) d Q 0 [some (.ref 75)] [] HC_79 := pW.run (am_in [24]) 15 (And.intro (show ¬ (8 : Int32) < 0 by decide +kernel) (And.intro (show (8 : Int32).toNatClampNeg ≤ 10000 by decide +kernel) (And.intro (by decide +kernel) (And.intro (by decide +kernel) h))))
set_option maxRecDepth 100000 in
theorem q_20_2 {d : Nat} {Q : am_Q} (h : pW cd_78 (80, 3270) d Q 38 [some (.ref 75)] [(.ref 78), (.ref 75)] HC_81) : pW cd_78 (80, 3270) d Q 24 [some (.ref 75)] [(.ref 76), (.ref 75)] HC_80 := pW.run (am_in [38]) 9 (And.intro (show ¬ (4 : Int32) < 0 by decide +kernel) (And.intro (show (4 : Int32).toNatClampNeg ≤ 10000 by decide +kernel) (And.intro (by decide +kernel) (And.intro (by decide +kernel) (And.intro (show ¬ (4 : Int32) < 0 by decide +kernel) (And.intro (show (4 : Int32).toNatClampNeg ≤ 10000 by decide +kernel) (And.intro (by decide +kernel) (And.intro (by decide +kernel) h))))))))
set_option maxRecDepth 100000 in
theorem q_20_3 {d : Nat} {Q : am_Q} (w : Q none HC_82) : pW cd_78 (80, 3270) d Q 38 [some (.ref 75)] [(.ref 78), (.ref 75)] HC_81 := pW.run (am_in []) 7 (And.intro (show ¬ (60 : Int32) < 0 by decide +kernel) (And.intro (show (60 : Int32).toNatClampNeg ≤ 10000 by decide +kernel) (And.intro (by decide +kernel) (And.intro (by decide +kernel) ⟨rfl, rfl, w⟩))))
set_option maxRecDepth 100000 in
theorem ct_20 {d : Nat} {Q : am_Q} (w : Q none HC_82) : am_Spec PR (d + 1) 78 (80, 3270) [(.ref 75)] HC_79 Q := pS.of rfl (q_20_1 (q_20_2 (q_20_3 w)))
def R_83 : Nat → Nat → Option Nat := u2 (R_82) 34 8 (some 75)
abbrev HC_83 : am_Hp := (80, 3270, S_82, I_82, L_82, R_83)
def S_84 : Nat → Nat × Nat := fun i => bif Nat.beq i 80 then (7, 7) else (S_82) i
def I_84 : Nat → Nat → Int32 := uR (I_82) 80 (fun _ => 0)
def L_84 : Nat → Nat → Int64 := uR (L_82) 80 (fun _ => 0)
def R_84 : Nat → Nat → Option Nat := uR (R_83) 80 (fun _ => none)
abbrev HC_84 : am_Hp := (81, 3277, S_84, I_84, L_84, R_84)
def S_85 : Nat → Nat × Nat := fun i => bif Nat.beq i 81 then (100, 8) else (S_84) i
def I_85 : Nat → Nat → Int32 := uR (u2 (u2 (u2 (I_84) 80 0 (-1)) 80 1 (0)) 80 2 (0)) 81 (fun _ => 0)
def L_85 : Nat → Nat → Int64 := uR (L_84) 81 (fun _ => 0)
def R_85 : Nat → Nat → Option Nat := uR (R_84) 81 (fun _ => none)
abbrev HC_85 : am_Hp := (82, 3285, S_85, I_85, L_85, R_85)
def S_86 : Nat → Nat × Nat := fun i => bif Nat.beq i 83 then (100, 4) else (fun i => bif Nat.beq i 82 then (100, 4) else (S_85) i) i
def I_86 : Nat → Nat → Int32 := uR (uR (I_85) 82 (fun _ => 0)) 83 (fun _ => 0)
def L_86 : Nat → Nat → Int64 := uR (uR (L_85) 82 (fun _ => 0)) 83 (fun _ => 0)
def R_86 : Nat → Nat → Option Nat := uR (u2 (uR (u2 (R_85) 80 3 (some 81)) 82 (fun _ => none)) 80 4 (some 82)) 83 (fun _ => none)
abbrev HC_86 : am_Hp := (84, 3293, S_86, I_86, L_86, R_86)
def S_87 : Nat → Nat × Nat := fun i => bif Nat.beq i 84 then (100, 60) else (S_86) i
def I_87 : Nat → Nat → Int32 := uR (I_86) 84 (fun _ => 0)
def L_87 : Nat → Nat → Int64 := uR (L_86) 84 (fun _ => 0)
def R_87 : Nat → Nat → Option Nat := u2 (uR (u2 (R_86) 80 5 (some 83)) 84 (fun _ => none)) 80 6 (some 84)
abbrev HC_87 : am_Hp := (85, 3353, S_87, I_87, L_87, R_87)
set_option maxRecDepth 100000 in
theorem q_21_1 {d : Nat} {Q : am_Q} (h : pW cd_78 (85, 3353) d Q 24 [some (.ref 80)] [(.ref 81), (.ref 80)] HC_85) : pW cd_78 (85, 3353) d Q 0 [some (.ref 80)] [] HC_84 := pW.run (am_in [24]) 15 (And.intro (show ¬ (8 : Int32) < 0 by decide +kernel) (And.intro (show (8 : Int32).toNatClampNeg ≤ 10000 by decide +kernel) (And.intro (by decide +kernel) (And.intro (by decide +kernel) h))))
set_option maxRecDepth 100000 in
theorem q_21_2 {d : Nat} {Q : am_Q} (h : pW cd_78 (85, 3353) d Q 38 [some (.ref 80)] [(.ref 83), (.ref 80)] HC_86) : pW cd_78 (85, 3353) d Q 24 [some (.ref 80)] [(.ref 81), (.ref 80)] HC_85 := pW.run (am_in [38]) 9 (And.intro (show ¬ (4 : Int32) < 0 by decide +kernel) (And.intro (show (4 : Int32).toNatClampNeg ≤ 10000 by decide +kernel) (And.intro (by decide +kernel) (And.intro (by decide +kernel) (And.intro (show ¬ (4 : Int32) < 0 by decide +kernel) (And.intro (show (4 : Int32).toNatClampNeg ≤ 10000 by decide +kernel) (And.intro (by decide +kernel) (And.intro (by decide +kernel) h))))))))
set_option maxRecDepth 100000 in
theorem q_21_3 {d : Nat} {Q : am_Q} (w : Q none HC_87) : pW cd_78 (85, 3353) d Q 38 [some (.ref 80)] [(.ref 83), (.ref 80)] HC_86 := pW.run (am_in []) 7 (And.intro (show ¬ (60 : Int32) < 0 by decide +kernel) (And.intro (show (60 : Int32).toNatClampNeg ≤ 10000 by decide +kernel) (And.intro (by decide +kernel) (And.intro (by decide +kernel) ⟨rfl, rfl, w⟩))))
set_option maxRecDepth 100000 in
theorem ct_21 {d : Nat} {Q : am_Q} (w : Q none HC_87) : am_Spec PR (d + 1) 78 (85, 3353) [(.ref 80)] HC_84 Q := pS.of rfl (q_21_1 (q_21_2 (q_21_3 w)))
def R_88 : Nat → Nat → Option Nat := u2 (R_87) 34 9 (some 80)
abbrev HC_88 : am_Hp := (85, 3353, S_87, I_87, L_87, R_88)
def S_89 : Nat → Nat × Nat := fun i => bif Nat.beq i 85 then (7, 7) else (S_87) i
def I_89 : Nat → Nat → Int32 := uR (I_87) 85 (fun _ => 0)
def L_89 : Nat → Nat → Int64 := uR (L_87) 85 (fun _ => 0)
def R_89 : Nat → Nat → Option Nat := uR (R_88) 85 (fun _ => none)
abbrev HC_89 : am_Hp := (86, 3360, S_89, I_89, L_89, R_89)
def S_90 : Nat → Nat × Nat := fun i => bif Nat.beq i 86 then (100, 8) else (S_89) i
def I_90 : Nat → Nat → Int32 := uR (u2 (u2 (u2 (I_89) 85 0 (-1)) 85 1 (0)) 85 2 (0)) 86 (fun _ => 0)
def L_90 : Nat → Nat → Int64 := uR (L_89) 86 (fun _ => 0)
def R_90 : Nat → Nat → Option Nat := uR (R_89) 86 (fun _ => none)
abbrev HC_90 : am_Hp := (87, 3368, S_90, I_90, L_90, R_90)
def S_91 : Nat → Nat × Nat := fun i => bif Nat.beq i 88 then (100, 4) else (fun i => bif Nat.beq i 87 then (100, 4) else (S_90) i) i
def I_91 : Nat → Nat → Int32 := uR (uR (I_90) 87 (fun _ => 0)) 88 (fun _ => 0)
def L_91 : Nat → Nat → Int64 := uR (uR (L_90) 87 (fun _ => 0)) 88 (fun _ => 0)
def R_91 : Nat → Nat → Option Nat := uR (u2 (uR (u2 (R_90) 85 3 (some 86)) 87 (fun _ => none)) 85 4 (some 87)) 88 (fun _ => none)
abbrev HC_91 : am_Hp := (89, 3376, S_91, I_91, L_91, R_91)
def S_92 : Nat → Nat × Nat := fun i => bif Nat.beq i 89 then (100, 60) else (S_91) i
def I_92 : Nat → Nat → Int32 := uR (I_91) 89 (fun _ => 0)
def L_92 : Nat → Nat → Int64 := uR (L_91) 89 (fun _ => 0)
def R_92 : Nat → Nat → Option Nat := u2 (uR (u2 (R_91) 85 5 (some 88)) 89 (fun _ => none)) 85 6 (some 89)
abbrev HC_92 : am_Hp := (90, 3436, S_92, I_92, L_92, R_92)
set_option maxRecDepth 100000 in
theorem q_22_1 {d : Nat} {Q : am_Q} (h : pW cd_78 (90, 3436) d Q 24 [some (.ref 85)] [(.ref 86), (.ref 85)] HC_90) : pW cd_78 (90, 3436) d Q 0 [some (.ref 85)] [] HC_89 := pW.run (am_in [24]) 15 (And.intro (show ¬ (8 : Int32) < 0 by decide +kernel) (And.intro (show (8 : Int32).toNatClampNeg ≤ 10000 by decide +kernel) (And.intro (by decide +kernel) (And.intro (by decide +kernel) h))))
set_option maxRecDepth 100000 in
theorem q_22_2 {d : Nat} {Q : am_Q} (h : pW cd_78 (90, 3436) d Q 38 [some (.ref 85)] [(.ref 88), (.ref 85)] HC_91) : pW cd_78 (90, 3436) d Q 24 [some (.ref 85)] [(.ref 86), (.ref 85)] HC_90 := pW.run (am_in [38]) 9 (And.intro (show ¬ (4 : Int32) < 0 by decide +kernel) (And.intro (show (4 : Int32).toNatClampNeg ≤ 10000 by decide +kernel) (And.intro (by decide +kernel) (And.intro (by decide +kernel) (And.intro (show ¬ (4 : Int32) < 0 by decide +kernel) (And.intro (show (4 : Int32).toNatClampNeg ≤ 10000 by decide +kernel) (And.intro (by decide +kernel) (And.intro (by decide +kernel) h))))))))
set_option maxRecDepth 100000 in
theorem q_22_3 {d : Nat} {Q : am_Q} (w : Q none HC_92) : pW cd_78 (90, 3436) d Q 38 [some (.ref 85)] [(.ref 88), (.ref 85)] HC_91 := pW.run (am_in []) 7 (And.intro (show ¬ (60 : Int32) < 0 by decide +kernel) (And.intro (show (60 : Int32).toNatClampNeg ≤ 10000 by decide +kernel) (And.intro (by decide +kernel) (And.intro (by decide +kernel) ⟨rfl, rfl, w⟩))))
set_option maxRecDepth 100000 in
theorem ct_22 {d : Nat} {Q : am_Q} (w : Q none HC_92) : am_Spec PR (d + 1) 78 (90, 3436) [(.ref 85)] HC_89 Q := pS.of rfl (q_22_1 (q_22_2 (q_22_3 w)))
def R_93 : Nat → Nat → Option Nat := u2 (R_92) 34 10 (some 85)
abbrev HC_93 : am_Hp := (90, 3436, S_92, I_92, L_92, R_93)
def S_94 : Nat → Nat × Nat := fun i => bif Nat.beq i 90 then (7, 7) else (S_92) i
def I_94 : Nat → Nat → Int32 := uR (I_92) 90 (fun _ => 0)
def L_94 : Nat → Nat → Int64 := uR (L_92) 90 (fun _ => 0)
def R_94 : Nat → Nat → Option Nat := uR (R_93) 90 (fun _ => none)
abbrev HC_94 : am_Hp := (91, 3443, S_94, I_94, L_94, R_94)
def S_95 : Nat → Nat × Nat := fun i => bif Nat.beq i 91 then (100, 8) else (S_94) i
def I_95 : Nat → Nat → Int32 := uR (u2 (u2 (u2 (I_94) 90 0 (-1)) 90 1 (0)) 90 2 (0)) 91 (fun _ => 0)
def L_95 : Nat → Nat → Int64 := uR (L_94) 91 (fun _ => 0)
def R_95 : Nat → Nat → Option Nat := uR (R_94) 91 (fun _ => none)
abbrev HC_95 : am_Hp := (92, 3451, S_95, I_95, L_95, R_95)
def S_96 : Nat → Nat × Nat := fun i => bif Nat.beq i 93 then (100, 4) else (fun i => bif Nat.beq i 92 then (100, 4) else (S_95) i) i
def I_96 : Nat → Nat → Int32 := uR (uR (I_95) 92 (fun _ => 0)) 93 (fun _ => 0)
def L_96 : Nat → Nat → Int64 := uR (uR (L_95) 92 (fun _ => 0)) 93 (fun _ => 0)
def R_96 : Nat → Nat → Option Nat := uR (u2 (uR (u2 (R_95) 90 3 (some 91)) 92 (fun _ => none)) 90 4 (some 92)) 93 (fun _ => none)
abbrev HC_96 : am_Hp := (94, 3459, S_96, I_96, L_96, R_96)
def S_97 : Nat → Nat × Nat := fun i => bif Nat.beq i 94 then (100, 60) else (S_96) i
def I_97 : Nat → Nat → Int32 := uR (I_96) 94 (fun _ => 0)
def L_97 : Nat → Nat → Int64 := uR (L_96) 94 (fun _ => 0)
def R_97 : Nat → Nat → Option Nat := u2 (uR (u2 (R_96) 90 5 (some 93)) 94 (fun _ => none)) 90 6 (some 94)
abbrev HC_97 : am_Hp := (95, 3519, S_97, I_97, L_97, R_97)
set_option maxRecDepth 100000 in
theorem q_23_1 {d : Nat} {Q : am_Q} (h : pW cd_78 (95, 3519) d Q 24 [some (.ref 90)] [(.ref 91), (.ref 90)] HC_95) : pW cd_78 (95, 3519) d Q 0 [some (.ref 90)] [] HC_94 := pW.run (am_in [24]) 15 (And.intro (show ¬ (8 : Int32) < 0 by decide +kernel) (And.intro (show (8 : Int32).toNatClampNeg ≤ 10000 by decide +kernel) (And.intro (by decide +kernel) (And.intro (by decide +kernel) h))))
set_option maxRecDepth 100000 in
theorem q_23_2 {d : Nat} {Q : am_Q} (h : pW cd_78 (95, 3519) d Q 38 [some (.ref 90)] [(.ref 93), (.ref 90)] HC_96) : pW cd_78 (95, 3519) d Q 24 [some (.ref 90)] [(.ref 91), (.ref 90)] HC_95 := pW.run (am_in [38]) 9 (And.intro (show ¬ (4 : Int32) < 0 by decide +kernel) (And.intro (show (4 : Int32).toNatClampNeg ≤ 10000 by decide +kernel) (And.intro (by decide +kernel) (And.intro (by decide +kernel) (And.intro (show ¬ (4 : Int32) < 0 by decide +kernel) (And.intro (show (4 : Int32).toNatClampNeg ≤ 10000 by decide +kernel) (And.intro (by decide +kernel) (And.intro (by decide +kernel) h))))))))
set_option maxRecDepth 100000 in
theorem q_23_3 {d : Nat} {Q : am_Q} (w : Q none HC_97) : pW cd_78 (95, 3519) d Q 38 [some (.ref 90)] [(.ref 93), (.ref 90)] HC_96 := pW.run (am_in []) 7 (And.intro (show ¬ (60 : Int32) < 0 by decide +kernel) (And.intro (show (60 : Int32).toNatClampNeg ≤ 10000 by decide +kernel) (And.intro (by decide +kernel) (And.intro (by decide +kernel) ⟨rfl, rfl, w⟩))))
set_option maxRecDepth 100000 in
theorem ct_23 {d : Nat} {Q : am_Q} (w : Q none HC_97) : am_Spec PR (d + 1) 78 (95, 3519) [(.ref 90)] HC_94 Q := pS.of rfl (q_23_1 (q_23_2 (q_23_3 w)))
def R_98 : Nat → Nat → Option Nat := u2 (R_97) 34 11 (some 90)
abbrev HC_98 : am_Hp := (95, 3519, S_97, I_97, L_97, R_98)
def S_99 : Nat → Nat × Nat := fun i => bif Nat.beq i 95 then (7, 7) else (S_97) i
def I_99 : Nat → Nat → Int32 := uR (I_97) 95 (fun _ => 0)
def L_99 : Nat → Nat → Int64 := uR (L_97) 95 (fun _ => 0)
def R_99 : Nat → Nat → Option Nat := uR (R_98) 95 (fun _ => none)
abbrev HC_99 : am_Hp := (96, 3526, S_99, I_99, L_99, R_99)
def S_100 : Nat → Nat × Nat := fun i => bif Nat.beq i 96 then (100, 8) else (S_99) i
def I_100 : Nat → Nat → Int32 := uR (u2 (u2 (u2 (I_99) 95 0 (-1)) 95 1 (0)) 95 2 (0)) 96 (fun _ => 0)
def L_100 : Nat → Nat → Int64 := uR (L_99) 96 (fun _ => 0)
def R_100 : Nat → Nat → Option Nat := uR (R_99) 96 (fun _ => none)
abbrev HC_100 : am_Hp := (97, 3534, S_100, I_100, L_100, R_100)
def S_101 : Nat → Nat × Nat := fun i => bif Nat.beq i 98 then (100, 4) else (fun i => bif Nat.beq i 97 then (100, 4) else (S_100) i) i
def I_101 : Nat → Nat → Int32 := uR (uR (I_100) 97 (fun _ => 0)) 98 (fun _ => 0)
def L_101 : Nat → Nat → Int64 := uR (uR (L_100) 97 (fun _ => 0)) 98 (fun _ => 0)
def R_101 : Nat → Nat → Option Nat := uR (u2 (uR (u2 (R_100) 95 3 (some 96)) 97 (fun _ => none)) 95 4 (some 97)) 98 (fun _ => none)
abbrev HC_101 : am_Hp := (99, 3542, S_101, I_101, L_101, R_101)
def S_102 : Nat → Nat × Nat := fun i => bif Nat.beq i 99 then (100, 60) else (S_101) i
def I_102 : Nat → Nat → Int32 := uR (I_101) 99 (fun _ => 0)
def L_102 : Nat → Nat → Int64 := uR (L_101) 99 (fun _ => 0)
def R_102 : Nat → Nat → Option Nat := u2 (uR (u2 (R_101) 95 5 (some 98)) 99 (fun _ => none)) 95 6 (some 99)
abbrev HC_102 : am_Hp := (100, 3602, S_102, I_102, L_102, R_102)
set_option maxRecDepth 100000 in
theorem q_24_1 {d : Nat} {Q : am_Q} (h : pW cd_78 (100, 3602) d Q 24 [some (.ref 95)] [(.ref 96), (.ref 95)] HC_100) : pW cd_78 (100, 3602) d Q 0 [some (.ref 95)] [] HC_99 := pW.run (am_in [24]) 15 (And.intro (show ¬ (8 : Int32) < 0 by decide +kernel) (And.intro (show (8 : Int32).toNatClampNeg ≤ 10000 by decide +kernel) (And.intro (by decide +kernel) (And.intro (by decide +kernel) h))))
set_option maxRecDepth 100000 in
theorem q_24_2 {d : Nat} {Q : am_Q} (h : pW cd_78 (100, 3602) d Q 38 [some (.ref 95)] [(.ref 98), (.ref 95)] HC_101) : pW cd_78 (100, 3602) d Q 24 [some (.ref 95)] [(.ref 96), (.ref 95)] HC_100 := pW.run (am_in [38]) 9 (And.intro (show ¬ (4 : Int32) < 0 by decide +kernel) (And.intro (show (4 : Int32).toNatClampNeg ≤ 10000 by decide +kernel) (And.intro (by decide +kernel) (And.intro (by decide +kernel) (And.intro (show ¬ (4 : Int32) < 0 by decide +kernel) (And.intro (show (4 : Int32).toNatClampNeg ≤ 10000 by decide +kernel) (And.intro (by decide +kernel) (And.intro (by decide +kernel) h))))))))
set_option maxRecDepth 100000 in
theorem q_24_3 {d : Nat} {Q : am_Q} (w : Q none HC_102) : pW cd_78 (100, 3602) d Q 38 [some (.ref 95)] [(.ref 98), (.ref 95)] HC_101 := pW.run (am_in []) 7 (And.intro (show ¬ (60 : Int32) < 0 by decide +kernel) (And.intro (show (60 : Int32).toNatClampNeg ≤ 10000 by decide +kernel) (And.intro (by decide +kernel) (And.intro (by decide +kernel) ⟨rfl, rfl, w⟩))))
set_option maxRecDepth 100000 in
theorem ct_24 {d : Nat} {Q : am_Q} (w : Q none HC_102) : am_Spec PR (d + 1) 78 (100, 3602) [(.ref 95)] HC_99 Q := pS.of rfl (q_24_1 (q_24_2 (q_24_3 w)))
def R_103 : Nat → Nat → Option Nat := u2 (R_102) 34 12 (some 95)
abbrev HC_103 : am_Hp := (100, 3602, S_102, I_102, L_102, R_103)
def S_104 : Nat → Nat × Nat := fun i => bif Nat.beq i 100 then (7, 7) else (S_102) i
def I_104 : Nat → Nat → Int32 := uR (I_102) 100 (fun _ => 0)
def L_104 : Nat → Nat → Int64 := uR (L_102) 100 (fun _ => 0)
def R_104 : Nat → Nat → Option Nat := uR (R_103) 100 (fun _ => none)
abbrev HC_104 : am_Hp := (101, 3609, S_104, I_104, L_104, R_104)
def S_105 : Nat → Nat × Nat := fun i => bif Nat.beq i 101 then (100, 8) else (S_104) i
def I_105 : Nat → Nat → Int32 := uR (u2 (u2 (u2 (I_104) 100 0 (-1)) 100 1 (0)) 100 2 (0)) 101 (fun _ => 0)
def L_105 : Nat → Nat → Int64 := uR (L_104) 101 (fun _ => 0)
def R_105 : Nat → Nat → Option Nat := uR (R_104) 101 (fun _ => none)
abbrev HC_105 : am_Hp := (102, 3617, S_105, I_105, L_105, R_105)
def S_106 : Nat → Nat × Nat := fun i => bif Nat.beq i 103 then (100, 4) else (fun i => bif Nat.beq i 102 then (100, 4) else (S_105) i) i
def I_106 : Nat → Nat → Int32 := uR (uR (I_105) 102 (fun _ => 0)) 103 (fun _ => 0)
def L_106 : Nat → Nat → Int64 := uR (uR (L_105) 102 (fun _ => 0)) 103 (fun _ => 0)
def R_106 : Nat → Nat → Option Nat := uR (u2 (uR (u2 (R_105) 100 3 (some 101)) 102 (fun _ => none)) 100 4 (some 102)) 103 (fun _ => none)
abbrev HC_106 : am_Hp := (104, 3625, S_106, I_106, L_106, R_106)
def S_107 : Nat → Nat × Nat := fun i => bif Nat.beq i 104 then (100, 60) else (S_106) i
def I_107 : Nat → Nat → Int32 := uR (I_106) 104 (fun _ => 0)
def L_107 : Nat → Nat → Int64 := uR (L_106) 104 (fun _ => 0)
def R_107 : Nat → Nat → Option Nat := u2 (uR (u2 (R_106) 100 5 (some 103)) 104 (fun _ => none)) 100 6 (some 104)
abbrev HC_107 : am_Hp := (105, 3685, S_107, I_107, L_107, R_107)
set_option maxRecDepth 100000 in
theorem q_25_1 {d : Nat} {Q : am_Q} (h : pW cd_78 (105, 3685) d Q 24 [some (.ref 100)] [(.ref 101), (.ref 100)] HC_105) : pW cd_78 (105, 3685) d Q 0 [some (.ref 100)] [] HC_104 := pW.run (am_in [24]) 15 (And.intro (show ¬ (8 : Int32) < 0 by decide +kernel) (And.intro (show (8 : Int32).toNatClampNeg ≤ 10000 by decide +kernel) (And.intro (by decide +kernel) (And.intro (by decide +kernel) h))))
set_option maxRecDepth 100000 in
theorem q_25_2 {d : Nat} {Q : am_Q} (h : pW cd_78 (105, 3685) d Q 38 [some (.ref 100)] [(.ref 103), (.ref 100)] HC_106) : pW cd_78 (105, 3685) d Q 24 [some (.ref 100)] [(.ref 101), (.ref 100)] HC_105 := pW.run (am_in [38]) 9 (And.intro (show ¬ (4 : Int32) < 0 by decide +kernel) (And.intro (show (4 : Int32).toNatClampNeg ≤ 10000 by decide +kernel) (And.intro (by decide +kernel) (And.intro (by decide +kernel) (And.intro (show ¬ (4 : Int32) < 0 by decide +kernel) (And.intro (show (4 : Int32).toNatClampNeg ≤ 10000 by decide +kernel) (And.intro (by decide +kernel) (And.intro (by decide +kernel) h))))))))
set_option maxRecDepth 100000 in
theorem q_25_3 {d : Nat} {Q : am_Q} (w : Q none HC_107) : pW cd_78 (105, 3685) d Q 38 [some (.ref 100)] [(.ref 103), (.ref 100)] HC_106 := pW.run (am_in []) 7 (And.intro (show ¬ (60 : Int32) < 0 by decide +kernel) (And.intro (show (60 : Int32).toNatClampNeg ≤ 10000 by decide +kernel) (And.intro (by decide +kernel) (And.intro (by decide +kernel) ⟨rfl, rfl, w⟩))))
set_option maxRecDepth 100000 in
theorem ct_25 {d : Nat} {Q : am_Q} (w : Q none HC_107) : am_Spec PR (d + 1) 78 (105, 3685) [(.ref 100)] HC_104 Q := pS.of rfl (q_25_1 (q_25_2 (q_25_3 w)))
def R_108 : Nat → Nat → Option Nat := u2 (R_107) 34 13 (some 100)
abbrev HC_108 : am_Hp := (105, 3685, S_107, I_107, L_107, R_108)
def S_109 : Nat → Nat × Nat := fun i => bif Nat.beq i 105 then (7, 7) else (S_107) i
def I_109 : Nat → Nat → Int32 := uR (I_107) 105 (fun _ => 0)
def L_109 : Nat → Nat → Int64 := uR (L_107) 105 (fun _ => 0)
def R_109 : Nat → Nat → Option Nat := uR (R_108) 105 (fun _ => none)
abbrev HC_109 : am_Hp := (106, 3692, S_109, I_109, L_109, R_109)
def S_110 : Nat → Nat × Nat := fun i => bif Nat.beq i 106 then (100, 8) else (S_109) i
def I_110 : Nat → Nat → Int32 := uR (u2 (u2 (u2 (I_109) 105 0 (-1)) 105 1 (0)) 105 2 (0)) 106 (fun _ => 0)
def L_110 : Nat → Nat → Int64 := uR (L_109) 106 (fun _ => 0)
def R_110 : Nat → Nat → Option Nat := uR (R_109) 106 (fun _ => none)
abbrev HC_110 : am_Hp := (107, 3700, S_110, I_110, L_110, R_110)
def S_111 : Nat → Nat × Nat := fun i => bif Nat.beq i 108 then (100, 4) else (fun i => bif Nat.beq i 107 then (100, 4) else (S_110) i) i
def I_111 : Nat → Nat → Int32 := uR (uR (I_110) 107 (fun _ => 0)) 108 (fun _ => 0)
def L_111 : Nat → Nat → Int64 := uR (uR (L_110) 107 (fun _ => 0)) 108 (fun _ => 0)
def R_111 : Nat → Nat → Option Nat := uR (u2 (uR (u2 (R_110) 105 3 (some 106)) 107 (fun _ => none)) 105 4 (some 107)) 108 (fun _ => none)
abbrev HC_111 : am_Hp := (109, 3708, S_111, I_111, L_111, R_111)
def S_112 : Nat → Nat × Nat := fun i => bif Nat.beq i 109 then (100, 60) else (S_111) i
def I_112 : Nat → Nat → Int32 := uR (I_111) 109 (fun _ => 0)
def L_112 : Nat → Nat → Int64 := uR (L_111) 109 (fun _ => 0)
def R_112 : Nat → Nat → Option Nat := u2 (uR (u2 (R_111) 105 5 (some 108)) 109 (fun _ => none)) 105 6 (some 109)
abbrev HC_112 : am_Hp := (110, 3768, S_112, I_112, L_112, R_112)
set_option maxRecDepth 100000 in
theorem q_26_1 {d : Nat} {Q : am_Q} (h : pW cd_78 (110, 3768) d Q 24 [some (.ref 105)] [(.ref 106), (.ref 105)] HC_110) : pW cd_78 (110, 3768) d Q 0 [some (.ref 105)] [] HC_109 := pW.run (am_in [24]) 15 (And.intro (show ¬ (8 : Int32) < 0 by decide +kernel) (And.intro (show (8 : Int32).toNatClampNeg ≤ 10000 by decide +kernel) (And.intro (by decide +kernel) (And.intro (by decide +kernel) h))))
set_option maxRecDepth 100000 in
theorem q_26_2 {d : Nat} {Q : am_Q} (h : pW cd_78 (110, 3768) d Q 38 [some (.ref 105)] [(.ref 108), (.ref 105)] HC_111) : pW cd_78 (110, 3768) d Q 24 [some (.ref 105)] [(.ref 106), (.ref 105)] HC_110 := pW.run (am_in [38]) 9 (And.intro (show ¬ (4 : Int32) < 0 by decide +kernel) (And.intro (show (4 : Int32).toNatClampNeg ≤ 10000 by decide +kernel) (And.intro (by decide +kernel) (And.intro (by decide +kernel) (And.intro (show ¬ (4 : Int32) < 0 by decide +kernel) (And.intro (show (4 : Int32).toNatClampNeg ≤ 10000 by decide +kernel) (And.intro (by decide +kernel) (And.intro (by decide +kernel) h))))))))
set_option maxRecDepth 100000 in
theorem q_26_3 {d : Nat} {Q : am_Q} (w : Q none HC_112) : pW cd_78 (110, 3768) d Q 38 [some (.ref 105)] [(.ref 108), (.ref 105)] HC_111 := pW.run (am_in []) 7 (And.intro (show ¬ (60 : Int32) < 0 by decide +kernel) (And.intro (show (60 : Int32).toNatClampNeg ≤ 10000 by decide +kernel) (And.intro (by decide +kernel) (And.intro (by decide +kernel) ⟨rfl, rfl, w⟩))))
set_option maxRecDepth 100000 in
theorem ct_26 {d : Nat} {Q : am_Q} (w : Q none HC_112) : am_Spec PR (d + 1) 78 (110, 3768) [(.ref 105)] HC_109 Q := pS.of rfl (q_26_1 (q_26_2 (q_26_3 w)))
def R_113 : Nat → Nat → Option Nat := u2 (R_112) 34 14 (some 105)
abbrev HC_113 : am_Hp := (110, 3768, S_112, I_112, L_112, R_113)
def S_114 : Nat → Nat × Nat := fun i => bif Nat.beq i 110 then (7, 7) else (S_112) i
def I_114 : Nat → Nat → Int32 := uR (I_112) 110 (fun _ => 0)
def L_114 : Nat → Nat → Int64 := uR (L_112) 110 (fun _ => 0)
def R_114 : Nat → Nat → Option Nat := uR (R_113) 110 (fun _ => none)
abbrev HC_114 : am_Hp := (111, 3775, S_114, I_114, L_114, R_114)
def S_115 : Nat → Nat × Nat := fun i => bif Nat.beq i 111 then (100, 8) else (S_114) i
def I_115 : Nat → Nat → Int32 := uR (u2 (u2 (u2 (I_114) 110 0 (-1)) 110 1 (0)) 110 2 (0)) 111 (fun _ => 0)
def L_115 : Nat → Nat → Int64 := uR (L_114) 111 (fun _ => 0)
def R_115 : Nat → Nat → Option Nat := uR (R_114) 111 (fun _ => none)
abbrev HC_115 : am_Hp := (112, 3783, S_115, I_115, L_115, R_115)
def S_116 : Nat → Nat × Nat := fun i => bif Nat.beq i 113 then (100, 4) else (fun i => bif Nat.beq i 112 then (100, 4) else (S_115) i) i
def I_116 : Nat → Nat → Int32 := uR (uR (I_115) 112 (fun _ => 0)) 113 (fun _ => 0)
def L_116 : Nat → Nat → Int64 := uR (uR (L_115) 112 (fun _ => 0)) 113 (fun _ => 0)
def R_116 : Nat → Nat → Option Nat := uR (u2 (uR (u2 (R_115) 110 3 (some 111)) 112 (fun _ => none)) 110 4 (some 112)) 113 (fun _ => none)
abbrev HC_116 : am_Hp := (114, 3791, S_116, I_116, L_116, R_116)
def S_117 : Nat → Nat × Nat := fun i => bif Nat.beq i 114 then (100, 60) else (S_116) i
def I_117 : Nat → Nat → Int32 := uR (I_116) 114 (fun _ => 0)
def L_117 : Nat → Nat → Int64 := uR (L_116) 114 (fun _ => 0)
def R_117 : Nat → Nat → Option Nat := u2 (uR (u2 (R_116) 110 5 (some 113)) 114 (fun _ => none)) 110 6 (some 114)
abbrev HC_117 : am_Hp := (115, 3851, S_117, I_117, L_117, R_117)
set_option maxRecDepth 100000 in
theorem q_27_1 {d : Nat} {Q : am_Q} (h : pW cd_78 (115, 3851) d Q 24 [some (.ref 110)] [(.ref 111), (.ref 110)] HC_115) : pW cd_78 (115, 3851) d Q 0 [some (.ref 110)] [] HC_114 := pW.run (am_in [24]) 15 (And.intro (show ¬ (8 : Int32) < 0 by decide +kernel) (And.intro (show (8 : Int32).toNatClampNeg ≤ 10000 by decide +kernel) (And.intro (by decide +kernel) (And.intro (by decide +kernel) h))))
set_option maxRecDepth 100000 in
theorem q_27_2 {d : Nat} {Q : am_Q} (h : pW cd_78 (115, 3851) d Q 38 [some (.ref 110)] [(.ref 113), (.ref 110)] HC_116) : pW cd_78 (115, 3851) d Q 24 [some (.ref 110)] [(.ref 111), (.ref 110)] HC_115 := pW.run (am_in [38]) 9 (And.intro (show ¬ (4 : Int32) < 0 by decide +kernel) (And.intro (show (4 : Int32).toNatClampNeg ≤ 10000 by decide +kernel) (And.intro (by decide +kernel) (And.intro (by decide +kernel) (And.intro (show ¬ (4 : Int32) < 0 by decide +kernel) (And.intro (show (4 : Int32).toNatClampNeg ≤ 10000 by decide +kernel) (And.intro (by decide +kernel) (And.intro (by decide +kernel) h))))))))
set_option maxRecDepth 100000 in
theorem q_27_3 {d : Nat} {Q : am_Q} (w : Q none HC_117) : pW cd_78 (115, 3851) d Q 38 [some (.ref 110)] [(.ref 113), (.ref 110)] HC_116 := pW.run (am_in []) 7 (And.intro (show ¬ (60 : Int32) < 0 by decide +kernel) (And.intro (show (60 : Int32).toNatClampNeg ≤ 10000 by decide +kernel) (And.intro (by decide +kernel) (And.intro (by decide +kernel) ⟨rfl, rfl, w⟩))))
set_option maxRecDepth 100000 in
theorem ct_27 {d : Nat} {Q : am_Q} (w : Q none HC_117) : am_Spec PR (d + 1) 78 (115, 3851) [(.ref 110)] HC_114 Q := pS.of rfl (q_27_1 (q_27_2 (q_27_3 w)))
def R_118 : Nat → Nat → Option Nat := u2 (R_117) 34 15 (some 110)
abbrev HC_118 : am_Hp := (115, 3851, S_117, I_117, L_117, R_118)
def S_119 : Nat → Nat × Nat := fun i => bif Nat.beq i 115 then (7, 7) else (S_117) i
def I_119 : Nat → Nat → Int32 := uR (I_117) 115 (fun _ => 0)
def L_119 : Nat → Nat → Int64 := uR (L_117) 115 (fun _ => 0)
def R_119 : Nat → Nat → Option Nat := uR (R_118) 115 (fun _ => none)
abbrev HC_119 : am_Hp := (116, 3858, S_119, I_119, L_119, R_119)
def S_120 : Nat → Nat × Nat := fun i => bif Nat.beq i 116 then (100, 8) else (S_119) i
def I_120 : Nat → Nat → Int32 := uR (u2 (u2 (u2 (I_119) 115 0 (-1)) 115 1 (0)) 115 2 (0)) 116 (fun _ => 0)
def L_120 : Nat → Nat → Int64 := uR (L_119) 116 (fun _ => 0)
def R_120 : Nat → Nat → Option Nat := uR (R_119) 116 (fun _ => none)
abbrev HC_120 : am_Hp := (117, 3866, S_120, I_120, L_120, R_120)
def S_121 : Nat → Nat × Nat := fun i => bif Nat.beq i 118 then (100, 4) else (fun i => bif Nat.beq i 117 then (100, 4) else (S_120) i) i
def I_121 : Nat → Nat → Int32 := uR (uR (I_120) 117 (fun _ => 0)) 118 (fun _ => 0)
def L_121 : Nat → Nat → Int64 := uR (uR (L_120) 117 (fun _ => 0)) 118 (fun _ => 0)
def R_121 : Nat → Nat → Option Nat := uR (u2 (uR (u2 (R_120) 115 3 (some 116)) 117 (fun _ => none)) 115 4 (some 117)) 118 (fun _ => none)
abbrev HC_121 : am_Hp := (119, 3874, S_121, I_121, L_121, R_121)
def S_122 : Nat → Nat × Nat := fun i => bif Nat.beq i 119 then (100, 60) else (S_121) i
def I_122 : Nat → Nat → Int32 := uR (I_121) 119 (fun _ => 0)
def L_122 : Nat → Nat → Int64 := uR (L_121) 119 (fun _ => 0)
def R_122 : Nat → Nat → Option Nat := u2 (uR (u2 (R_121) 115 5 (some 118)) 119 (fun _ => none)) 115 6 (some 119)
abbrev HC_122 : am_Hp := (120, 3934, S_122, I_122, L_122, R_122)
set_option maxRecDepth 100000 in
theorem q_28_1 {d : Nat} {Q : am_Q} (h : pW cd_78 (120, 3934) d Q 24 [some (.ref 115)] [(.ref 116), (.ref 115)] HC_120) : pW cd_78 (120, 3934) d Q 0 [some (.ref 115)] [] HC_119 := pW.run (am_in [24]) 15 (And.intro (show ¬ (8 : Int32) < 0 by decide +kernel) (And.intro (show (8 : Int32).toNatClampNeg ≤ 10000 by decide +kernel) (And.intro (by decide +kernel) (And.intro (by decide +kernel) h))))
set_option maxRecDepth 100000 in
theorem q_28_2 {d : Nat} {Q : am_Q} (h : pW cd_78 (120, 3934) d Q 38 [some (.ref 115)] [(.ref 118), (.ref 115)] HC_121) : pW cd_78 (120, 3934) d Q 24 [some (.ref 115)] [(.ref 116), (.ref 115)] HC_120 := pW.run (am_in [38]) 9 (And.intro (show ¬ (4 : Int32) < 0 by decide +kernel) (And.intro (show (4 : Int32).toNatClampNeg ≤ 10000 by decide +kernel) (And.intro (by decide +kernel) (And.intro (by decide +kernel) (And.intro (show ¬ (4 : Int32) < 0 by decide +kernel) (And.intro (show (4 : Int32).toNatClampNeg ≤ 10000 by decide +kernel) (And.intro (by decide +kernel) (And.intro (by decide +kernel) h))))))))
set_option maxRecDepth 100000 in
theorem q_28_3 {d : Nat} {Q : am_Q} (w : Q none HC_122) : pW cd_78 (120, 3934) d Q 38 [some (.ref 115)] [(.ref 118), (.ref 115)] HC_121 := pW.run (am_in []) 7 (And.intro (show ¬ (60 : Int32) < 0 by decide +kernel) (And.intro (show (60 : Int32).toNatClampNeg ≤ 10000 by decide +kernel) (And.intro (by decide +kernel) (And.intro (by decide +kernel) ⟨rfl, rfl, w⟩))))
set_option maxRecDepth 100000 in
theorem ct_28 {d : Nat} {Q : am_Q} (w : Q none HC_122) : am_Spec PR (d + 1) 78 (120, 3934) [(.ref 115)] HC_119 Q := pS.of rfl (q_28_1 (q_28_2 (q_28_3 w)))
def R_123 : Nat → Nat → Option Nat := u2 (R_122) 34 16 (some 115)
abbrev HC_123 : am_Hp := (120, 3934, S_122, I_122, L_122, R_123)
def S_124 : Nat → Nat × Nat := fun i => bif Nat.beq i 120 then (7, 7) else (S_122) i
def I_124 : Nat → Nat → Int32 := uR (I_122) 120 (fun _ => 0)
def L_124 : Nat → Nat → Int64 := uR (L_122) 120 (fun _ => 0)
def R_124 : Nat → Nat → Option Nat := uR (R_123) 120 (fun _ => none)
abbrev HC_124 : am_Hp := (121, 3941, S_124, I_124, L_124, R_124)
def S_125 : Nat → Nat × Nat := fun i => bif Nat.beq i 121 then (100, 8) else (S_124) i
def I_125 : Nat → Nat → Int32 := uR (u2 (u2 (u2 (I_124) 120 0 (-1)) 120 1 (0)) 120 2 (0)) 121 (fun _ => 0)
def L_125 : Nat → Nat → Int64 := uR (L_124) 121 (fun _ => 0)
def R_125 : Nat → Nat → Option Nat := uR (R_124) 121 (fun _ => none)
abbrev HC_125 : am_Hp := (122, 3949, S_125, I_125, L_125, R_125)
def S_126 : Nat → Nat × Nat := fun i => bif Nat.beq i 123 then (100, 4) else (fun i => bif Nat.beq i 122 then (100, 4) else (S_125) i) i
def I_126 : Nat → Nat → Int32 := uR (uR (I_125) 122 (fun _ => 0)) 123 (fun _ => 0)
def L_126 : Nat → Nat → Int64 := uR (uR (L_125) 122 (fun _ => 0)) 123 (fun _ => 0)
def R_126 : Nat → Nat → Option Nat := uR (u2 (uR (u2 (R_125) 120 3 (some 121)) 122 (fun _ => none)) 120 4 (some 122)) 123 (fun _ => none)
abbrev HC_126 : am_Hp := (124, 3957, S_126, I_126, L_126, R_126)
def S_127 : Nat → Nat × Nat := fun i => bif Nat.beq i 124 then (100, 60) else (S_126) i
def I_127 : Nat → Nat → Int32 := uR (I_126) 124 (fun _ => 0)
def L_127 : Nat → Nat → Int64 := uR (L_126) 124 (fun _ => 0)
def R_127 : Nat → Nat → Option Nat := u2 (uR (u2 (R_126) 120 5 (some 123)) 124 (fun _ => none)) 120 6 (some 124)
abbrev HC_127 : am_Hp := (125, 4017, S_127, I_127, L_127, R_127)
set_option maxRecDepth 100000 in
theorem q_29_1 {d : Nat} {Q : am_Q} (h : pW cd_78 (125, 4017) d Q 24 [some (.ref 120)] [(.ref 121), (.ref 120)] HC_125) : pW cd_78 (125, 4017) d Q 0 [some (.ref 120)] [] HC_124 := pW.run (am_in [24]) 15 (And.intro (show ¬ (8 : Int32) < 0 by decide +kernel) (And.intro (show (8 : Int32).toNatClampNeg ≤ 10000 by decide +kernel) (And.intro (by decide +kernel) (And.intro (by decide +kernel) h))))
set_option maxRecDepth 100000 in
theorem q_29_2 {d : Nat} {Q : am_Q} (h : pW cd_78 (125, 4017) d Q 38 [some (.ref 120)] [(.ref 123), (.ref 120)] HC_126) : pW cd_78 (125, 4017) d Q 24 [some (.ref 120)] [(.ref 121), (.ref 120)] HC_125 := pW.run (am_in [38]) 9 (And.intro (show ¬ (4 : Int32) < 0 by decide +kernel) (And.intro (show (4 : Int32).toNatClampNeg ≤ 10000 by decide +kernel) (And.intro (by decide +kernel) (And.intro (by decide +kernel) (And.intro (show ¬ (4 : Int32) < 0 by decide +kernel) (And.intro (show (4 : Int32).toNatClampNeg ≤ 10000 by decide +kernel) (And.intro (by decide +kernel) (And.intro (by decide +kernel) h))))))))
set_option maxRecDepth 100000 in
theorem q_29_3 {d : Nat} {Q : am_Q} (w : Q none HC_127) : pW cd_78 (125, 4017) d Q 38 [some (.ref 120)] [(.ref 123), (.ref 120)] HC_126 := pW.run (am_in []) 7 (And.intro (show ¬ (60 : Int32) < 0 by decide +kernel) (And.intro (show (60 : Int32).toNatClampNeg ≤ 10000 by decide +kernel) (And.intro (by decide +kernel) (And.intro (by decide +kernel) ⟨rfl, rfl, w⟩))))
set_option maxRecDepth 100000 in
theorem ct_29 {d : Nat} {Q : am_Q} (w : Q none HC_127) : am_Spec PR (d + 1) 78 (125, 4017) [(.ref 120)] HC_124 Q := pS.of rfl (q_29_1 (q_29_2 (q_29_3 w)))
def R_128 : Nat → Nat → Option Nat := u2 (R_127) 34 17 (some 120)
