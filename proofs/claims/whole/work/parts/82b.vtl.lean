/-! ===== village: the count of bits ===== -/
section VTL
theorem bqk_at {k : Nat} : ∀ N, bqk N = true → k < N → (if bq5 (bq4 (bq3 (bq2 (bq1 k)))) &&& 63 < 16 then k != 65535 else k == 65535) = true
  | 0, _, h => absurd h (Nat.not_lt_zero k)
  | N + 1, h, hk => by
    have h1 : ((if bq5 (bq4 (bq3 (bq2 (bq1 N)))) &&& 63 < 16 then N != 65535 else N == 65535) && bqk N) = true := h
    rw [Bool.and_eq_true] at h1
    by_cases e : k = N
    · rw [e]
      exact h1.1
    · exact bqk_at N h1.2 (by omega)
theorem nI_sb {x y : Nat} (h : y ≤ x) : nI x - nI y = nI (x - y) := by
  have h1 : nI x = nI (x - y) + nI y := by
    rw [nI_add]
    congr 1
    omega
  rw [h1, Int32.add_sub_cancel]
theorem shr_le (x k : Nat) : x >>> k ≤ x := by
  rw [Nat.shiftRight_eq_div_pow]
  exact Nat.div_le_self _ _
theorem g279 {m : Nat} (hm : m < 65536) : g_279 (nI m) < 16 ↔ bc m 16 < 16 := by
  have y1 : (Nat.toUInt32 1 &&& Int32.toUInt32 31).toNat = 1 := by decide
  have y2 : (Nat.toUInt32 2 &&& Int32.toUInt32 31).toNat = 2 := by decide
  have y4 : (Nat.toUInt32 4 &&& Int32.toUInt32 31).toNat = 4 := by decide
  have y8 : (Nat.toUInt32 8 &&& Int32.toUInt32 31).toNat = 8 := by decide
  have y16 : (Nat.toUInt32 16 &&& Int32.toUInt32 31).toNat = 16 := by decide
  have s1 : nI m - (((nI m).toUInt32 >>> (Nat.toUInt32 1 &&& Int32.toUInt32 31)).toInt32 &&& 1431655765) = nI (bq1 m) := by
    rw [us_r (by omega) 1 _ y1 (by decide), show (1431655765 : Int32) = nI 1431655765 from rfl, fa_an, nI_sb]
    · rfl
    · exact Nat.le_trans Nat.and_le_left (shr_le m 1)
  have b1 : bq1 m < 2 ^ 16 := Nat.lt_of_le_of_lt (Nat.sub_le _ _) hm
  have s2 : (nI (bq1 m) &&& 858993459) + (((nI (bq1 m)).toUInt32 >>> (Nat.toUInt32 2 &&& Int32.toUInt32 31)).toInt32 &&& 858993459) = nI (bq2 (bq1 m)) := by
    rw [us_r (by omega) 2 _ y2 (by decide), show (858993459 : Int32) = nI 858993459 from rfl, fa_an, fa_an, nI_add]
    rfl
  have b2 : bq2 (bq1 m) < 2 ^ 18 := by
    have h1 : bq1 m &&& 858993459 ≤ bq1 m := Nat.and_le_left
    have h2 : (bq1 m >>> 2) &&& 858993459 ≤ bq1 m := Nat.le_trans Nat.and_le_left (shr_le _ 2)
    show (bq1 m &&& 858993459) + ((bq1 m >>> 2) &&& 858993459) < 2 ^ 18
    omega
  have s3 : (nI (bq2 (bq1 m)) + (((nI (bq2 (bq1 m))).toUInt32 >>> (Nat.toUInt32 4 &&& Int32.toUInt32 31)).toInt32)) &&& 252645135 = nI (bq3 (bq2 (bq1 m))) := by
    rw [us_r (by omega) 4 _ y4 (by decide), show (252645135 : Int32) = nI 252645135 from rfl, nI_add, fa_an]
    rfl
  have b3 : bq3 (bq2 (bq1 m)) < 2 ^ 20 := by
    have h1 := shr_le (bq2 (bq1 m)) 4
    exact Nat.lt_of_le_of_lt (Nat.and_le_left (n := bq2 (bq1 m) + (bq2 (bq1 m) >>> 4))) (by omega)
  have s4 : nI (bq3 (bq2 (bq1 m))) + (((nI (bq3 (bq2 (bq1 m)))).toUInt32 >>> (Nat.toUInt32 8 &&& Int32.toUInt32 31)).toInt32) = nI (bq4 (bq3 (bq2 (bq1 m)))) := by
    rw [us_r (by omega) 8 _ y8 (by decide), nI_add]
    rfl
  have b4 : bq4 (bq3 (bq2 (bq1 m))) < 2 ^ 22 := by
    have h1 := shr_le (bq3 (bq2 (bq1 m))) 8
    show bq3 (bq2 (bq1 m)) + (bq3 (bq2 (bq1 m)) >>> 8) < 2 ^ 22
    omega
  have s5 : nI (bq4 (bq3 (bq2 (bq1 m)))) + (((nI (bq4 (bq3 (bq2 (bq1 m))))).toUInt32 >>> (Nat.toUInt32 16 &&& Int32.toUInt32 31)).toInt32) = nI (bq5 (bq4 (bq3 (bq2 (bq1 m))))) := by
    rw [us_r (by omega) 16 _ y16 (by decide), nI_add]
    rfl
  have e : g_279 (nI m) = nI (bq5 (bq4 (bq3 (bq2 (bq1 m)))) &&& 63) := by
    unfold g_279
    rw [s1, s2, s3, s4, s5, show (63 : Int32) = nI 63 from rfl, fa_an]
  have h63 : bq5 (bq4 (bq3 (bq2 (bq1 m)))) &&& 63 ≤ 63 := Nat.and_le_right
  rw [e, bc_16 hm]
  have hk := bqk_at 65536 bqk_ok hm
  by_cases c : bq5 (bq4 (bq3 (bq2 (bq1 m)))) &&& 63 < 16
  · rw [if_pos c] at hk
    have h1 : m ≠ 65535 := by simpa using hk
    exact ⟨fun _ => h1, fun _ => nI_lt (b := 16) c (by decide)⟩
  · rw [if_neg c] at hk
    have h1 : m = 65535 := by simpa using hk
    exact ⟨fun q => absurd q (nI_nlt (b := 16) (by omega) (by omega)), fun q => absurd h1 q⟩
end VTL
