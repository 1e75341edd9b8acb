/-! ===== indices within; operations: fault, end, later, lies, table ===== -/
theorem g207_in {j n : Nat} (hj : j < n) (hn : n < 2 ^ 30) : g_207 (nI j) 0 (nI n - 1) = 1 := by
  unfold g_207
  have e : nI n - 1 = nI (n - 1) := pk_sub (a := n) (b := 1) (by omega)
  rw [if_neg (nI_pos (by omega)), e, if_neg (nI_nlt (by omega) (by omega))]
theorem g207_out {x : Int32} {n : Nat} (h : x < 0 ∨ nI n ≤ x) (hn : n < 2 ^ 30) : g_207 x 0 (nI n - 1) = 0 := by
  unfold g_207
  by_cases c : x < 0
  · rw [if_pos c]
  · rcases h with h | h
    · exact absurd h c
    · rw [if_neg c, if_pos]
      have e := pk_sub_toInt (a := n) (b := 1) hn (by decide)
      have a1 := Int32.le_iff_toInt_le.mp h
      rw [nI_toInt (by omega)] at a1
      refine Int32.lt_iff_toInt_lt.mpr ?_
      rw [show nI n - 1 = nI n - nI 1 from rfl, e]
      omega
theorem g108_in {hi : Nat → Nat → Int32} {P j : Nat} (h : hi 19 1 = nI P) (hP : P ≤ 8) (hj : j < P) : g_108 hi (nI j) = 1 := by
  unfold g_108
  rw [h, if_neg (nI_pos (by omega)), if_neg (nI_ge hj (by omega)), if_neg (show ¬ (8 : Int32) ≤ nI j from nI_ge (a := j) (b := 8) (by omega) (by decide))]
theorem g108_out {hi : Nat → Nat → Int32} {P : Nat} {x : Int32} (h : hi 19 1 = nI P) (hx : x < 0 ∨ nI P ≤ x) : g_108 hi x = 0 := by
  unfold g_108
  rcases hx with c | c
  · rw [if_pos c]
  · rw [h, if_pos c]; simp
theorem g109_in {hi : Nat → Nat → Int32} {P j : Nat} (h : hi 19 3 = nI P) (hP : P ≤ 4) (hj : j < P) : g_109 hi (nI j) = 1 := by
  unfold g_109
  rw [h, if_neg (nI_pos (by omega)), if_neg (nI_ge hj (by omega)), if_neg (show ¬ (4 : Int32) ≤ nI j from nI_ge (a := j) (b := 4) (by omega) (by decide))]
theorem g109_out {hi : Nat → Nat → Int32} {P : Nat} {x : Int32} (h : hi 19 3 = nI P) (hx : x < 0 ∨ nI P ≤ x) : g_109 hi x = 0 := by
  unfold g_109
  rcases hx with c | c
  · rw [if_pos c]
  · rw [h, if_pos c]; simp
theorem g110_in {hi : Nat → Nat → Int32} {P j : Nat} (h : hi 19 0 = nI P) (hP : P ≤ 4) (hj : j < P) : g_110 hi (nI j) = 1 := by
  unfold g_110
  rw [h, if_neg (nI_pos (by omega)), if_neg (nI_ge hj (by omega)), if_neg (show ¬ (4 : Int32) ≤ nI j from nI_ge (a := j) (b := 4) (by omega) (by decide))]
theorem g110_out {hi : Nat → Nat → Int32} {P : Nat} {x : Int32} (h : hi 19 0 = nI P) (hx : x < 0 ∨ nI P ≤ x) : g_110 hi x = 0 := by
  unfold g_110
  rcases hx with c | c
  · rw [if_pos c]
  · rw [h, if_pos c]; simp
theorem ix_or (x : Int32) {n : Nat} (hn : n < 2 ^ 31) : (∃ j : Nat, j < n ∧ x = nI j) ∨ (x < 0 ∨ nI n ≤ x) := by
  rcases pk_ix x hn with h | h | h
  · exact Or.inr (Or.inl h)
  · exact Or.inr (Or.inr h)
  · exact Or.inl h
theorem plc {V : vN} {hi : Nat → Nat → Int32} (hv : R_vil V hi) (x : Int32) : (∃ j : Nat, j < vP V ∧ x = nI j ∧ g_108 hi x = 1 ∧ g_208 hi x = 1) ∨ ((x < 0 ∨ nI (vP V) ≤ x) ∧ g_108 hi x = 0 ∧ g_208 hi x = 0) := by
  obtain ⟨b, c1, c2, -⟩ := hv
  rcases ix_or x (n := vP V) (by omega) with ⟨j, hj, rfl⟩ | h
  · exact Or.inl ⟨j, hj, rfl, g108_in c1.2.1 b.2.1 hj, by unfold g_208; rw [c2.2.1]; exact g207_in hj (by omega)⟩
  · exact Or.inr ⟨h, g108_out c1.2.1 h, by unfold g_208; rw [c2.2.1]; exact g207_out h (by omega)⟩
theorem cas {V : vN} {hi : Nat → Nat → Int32} (hv : R_vil V hi) (x : Int32) : (∃ j : Nat, j < vC V ∧ x = nI j ∧ g_109 hi x = 1 ∧ g_209 hi x = 1) ∨ ((x < 0 ∨ nI (vC V) ≤ x) ∧ g_109 hi x = 0 ∧ g_209 hi x = 0) := by
  obtain ⟨b, c1, c2, -⟩ := hv
  rcases ix_or x (n := vC V) (by omega) with ⟨j, hj, rfl⟩ | h
  · exact Or.inl ⟨j, hj, rfl, g109_in c1.2.2.2.1 b.2.2.2.1 hj, by unfold g_209; rw [c2.2.2.2.1]; exact g207_in hj (by omega)⟩
  · exact Or.inr ⟨h, g109_out c1.2.2.2.1 h, by unfold g_209; rw [c2.2.2.2.1]; exact g207_out h (by omega)⟩
theorem ded {V : vN} {hi : Nat → Nat → Int32} (hv : R_vil V hi) (x : Int32) : (∃ j : Nat, j < vD V ∧ x = nI j ∧ g_110 hi x = 1 ∧ g_210 hi x = 1) ∨ ((x < 0 ∨ nI (vD V) ≤ x) ∧ g_110 hi x = 0 ∧ g_210 hi x = 0) := by
  obtain ⟨b, c1, c2, -⟩ := hv
  rcases ix_or x (n := vD V) (by omega) with ⟨j, hj, rfl⟩ | h
  · exact Or.inl ⟨j, hj, rfl, g110_in c1.1 b.1 hj, by unfold g_210; rw [c2.1]; exact g207_in hj (by omega)⟩
  · exact Or.inr ⟨h, g110_out c1.1 h, by unfold g_210; rw [c2.1]; exact g207_out h (by omega)⟩
theorem op_fault {d : Nat} (a1 : Int32) : OpI Rel (d + 1) 126 206 [.int a1] := by
  intro hi hl sw kp Q hR k
  refine s_126 (k _ hi hl sw kp (fun Q2 k2 => s_206 ?_))
  have e : g_206 hi a1 = g_126 hi a1 := by
    unfold g_206 g_126
    rw [hR.2.1.1, hR.2.1.2]
  rw [e]
  exact k2 hi hl sw kp hR
theorem op_end {d : Nat} (a1 : Int32) : OpI Rel (d + 1) 124 165 [.int a1] := by
  intro hi hl sw kp Q hR k
  obtain ⟨⟨n, n1, n2, n3, n4⟩, r2, r3, r4, r5, r6, r7⟩ := id hR
  refine e_124 (fun c => ?_) (fun c1 c2 => ?_) (fun c1 c2 => ?_)
  · exact k (-1) hi hl sw kp (fun Q2 k2 => e_165 (fun _ => k2 hi hl sw kp hR) (fun c' => absurd c c') (fun c' => absurd c c'))
  · refine k a1 (u2 hi 1 1 a1) hl sw kp (fun Q2 k2 => e_165 (fun c' => absurd c' c1) (fun _ _ => ?_) (fun _ c' => absurd (show a1 ≤ hi 279 1 by rw [n3, ← n2]; exact c2) c'))
    obtain ⟨m, hm, rfl⟩ := nI_of c1
    rw [n2] at c2
    have hmn : m ≤ n := (nI_leI hm (by omega)).mp c2
    exact k2 (u2 (u2 hi 1 1 (nI m)) 279 1 (nI m)) hl sw kp ⟨⟨m, by omega, rfl, rfl, fun j hj => n4 j (by omega)⟩, r2, r3, r4, r5, r6, R_big.fr ((Ag.rf.u (by decide)).u (by decide)) r6 (fun _ h => h) (fun h => h) (fun _ h => h) rfl rfl rfl rfl rfl rfl rfl rfl rfl r7⟩
  · exact k (-1) hi hl sw kp (fun Q2 k2 => e_165 (fun c' => absurd c' c1) (fun _ c' => absurd (show a1 ≤ hi 1 1 by rw [n2, ← n3]; exact c') c2) (fun _ _ => k2 hi hl sw kp hR))
theorem g158_n {x a b : Int32} (h : ¬ g_158 x a b = 0) : ¬ x < a ∧ ¬ b < x := by
  unfold g_158 at h
  refine ⟨fun c => h (by rw [if_pos c]), fun c => h ?_⟩
  by_cases c2 : x < a
  · rw [if_pos c2]
  · rw [if_neg c2, if_pos c]
theorem g158_z {x a b : Int32} (h : g_158 x a b = 0) : x < a ∨ b < x := by
  by_cases c : x < a
  · exact Or.inl c
  · by_cases c2 : b < x
    · exact Or.inr c2
    · unfold g_158 at h
      rw [if_neg c, if_neg c2] at h
      exact absurd h (by decide)
theorem op_later {d : Nat} (a1 : Int32) : OpI Rel (d + 2) 150 267 [.int a1] := by
  intro hi hl sw kp Q hR k
  obtain ⟨r1, r2, r3, ⟨n, t, t1, t2, t3, t4, t5, t6, t7⟩, r5, r6, r7⟩ := id hR
  have e : hi 279 87 = hi 266 9 := by rw [t5, t6]
  refine e_150 (fun c => ?_) (fun c c2 => ?_) (fun c c2 => ?_)
  · refine k (-1) hi hl sw kp (fun Q2 k2 => e_267 (fun _ => k2 hi hl sw kp hR) (fun _ _ => k2 hi hl sw kp hR) (fun c1 c2 => ?_) (fun _ _ _ => k2 hi hl sw kp hR))
    rcases g158_z c with q | q
    · exact absurd q c1
    · exact absurd q c2
  · obtain ⟨q1, q2⟩ := g158_n c
    refine k _ _ hl sw kp (fun Q2 k2 => e_267 (fun c' => absurd c' q1) (fun _ c' => absurd c' q2) (fun _ _ _ => ?_) (fun _ _ c' => absurd (show hi 279 87 + a1 ≤ 100000 by rw [e]; exact c2) c'))
    obtain ⟨m, hm, rfl⟩ := nI_of q1
    have hm2 : m ≤ 1000 := by
      rcases Nat.lt_or_ge 1000 m with h | h
      · exact absurd (nI_lt (a := 1000) h hm) q2
      · exact h
    rw [t5, nI_add] at c2
    have hs : t + m ≤ 100000 := (nI_leI (a := t + m) (b := 100000) (by omega) (by decide)).mp c2
    show Q2 (some (.int (hi 279 87 + nI m))) (mkH (u2 (u2 hi 266 9 (hi 266 9 + nI m)) 279 87 (hi 279 87 + nI m)) hl sw kp)
    rw [e]
    refine k2 _ hl sw kp ⟨r1, r2, r3, ⟨n, t + m, t1, hs, t3, t4, ?_, ?_, t7⟩, r5, r6, R_big.fr ((Ag.rf.u (by decide)).u (by decide)) r6 (fun _ h => h) (fun h => h) (fun _ h => h) rfl rfl rfl rfl rfl rfl rfl rfl rfl r7⟩
    · show hi 266 9 + nI m = nI (t + m)
      rw [t5, nI_add]
    · show hi 266 9 + nI m = nI (t + m)
      rw [t5, nI_add]
  · obtain ⟨q1, q2⟩ := g158_n c
    exact k (-1) hi hl sw kp (fun Q2 k2 => e_267 (fun _ => k2 hi hl sw kp hR) (fun _ _ => k2 hi hl sw kp hR) (fun _ _ c' => absurd (show hi 266 9 + a1 ≤ 100000 by rw [← e]; exact c') c2) (fun _ _ _ => k2 hi hl sw kp hR))
theorem op_lies {d : Nat} (a1 : Int32) : OpI Rel (d + 2) 147 264 [.int a1] := by
  intro hi hl sw kp Q hR k
  obtain ⟨r1, r2, ⟨n, n1, n2, n3, n4⟩, r4, r5, r6, r7⟩ := id hR
  refine s_147 (k _ hi hl sw kp (fun Q2 k2 => ?_))
  rcases ix_or a1 (n := n) (by omega) with ⟨j, hj, rfl⟩ | h
  · have e : g_264 hi (nI j) = g_147 hi (nI j) := by
      unfold g_264 g_147
      rw [n2, n3, g207_in hj (by omega), if_neg (by decide), if_neg (nI_pos (by omega)), if_neg (nI_ge hj (by omega)), if_pos (show nI j < (8 : Int32) from nI_lt (a := j) (b := 8) (by omega) (by decide)), nI_clamp (by omega), n4 j hj]
    refine s_264 (fun _ => vp_in_nI (by omega) (by decide)) ?_
    rw [e]
    exact k2 hi hl sw kp hR
  · have e0 : g_207 a1 (0 : Int32) (hi 279 75 - 1) = 0 := by rw [n3]; exact g207_out h (by omega)
    have e : g_264 hi a1 = g_147 hi a1 := by
      unfold g_264 g_147
      rw [e0, if_pos rfl, n2]
      rcases h with h | h
      · rw [if_pos h]
      · rw [if_pos h]; simp
    refine s_264 (fun q => absurd e0 q) ?_
    rw [e]
    exact k2 hi hl sw kp hR
theorem op_table {d : Nat} (a1 a2 : Int32) : OpI Rel (d + 3) 129 221 [.int a1, .int a2] := by
  intro hi hl sw kp Q hR k
  obtain ⟨V, hv, hrest⟩ := hR.2.2.2.2.2.2
  have key : ∀ Q2 : am_Q, (∀ (hi2 : Nat → Nat → Int32) (hl2 : Nat → Nat → Int64) (sw2 : Bool) (kp2 : Nat → Nat), Rel hi2 hl2 sw2 kp2 → Q2 (some (.int (g_129 hi a1 a2))) (mkH hi2 hl2 sw2 kp2)) → g_221 hi a1 a2 = g_129 hi a1 a2 → Q2 (some (.int (g_221 hi a1 a2))) (mkH hi hl sw kp) := fun Q2 k2 e => by rw [e]; exact k2 hi hl sw kp hR
  rcases ded hv a1 with ⟨e, he, rfl, q1, q2⟩ | ⟨-, q1, q2⟩
  · rcases cas hv a2 with ⟨c, hc, rfl, q3, q4⟩ | ⟨-, q3, q4⟩
    · have hb := hv.1
      have i1 : nI e * 4 + nI c = nI (4 * e + c) := by rw [show (4 : Int32) = nI 4 from rfl, pk_mul, nI_add, Nat.mul_comm]
      have i2 : 4 * nI e + nI c = nI (4 * e + c) := by rw [show (4 : Int32) = nI 4 from rfl, pk_mul, nI_add]
      have hlt : 4 * e + c < 16 := by omega
      refine s_129 (fun _ _ => by rw [i1]; exact vp_in_nI hlt (by decide)) (k _ hi hl sw kp (fun Q2 k2 => s_221 (fun _ _ => by rw [i2]; exact vp_in_nI hlt (by decide)) (key Q2 k2 ?_)))
      unfold g_221 g_129
      rw [q1, q2, q3, q4, i1, i2, nI_clamp (by omega), (hv.2.2.2.2.2 e c he hc).1]
    · refine s_129 (fun _ q => absurd q3 q) (k _ hi hl sw kp (fun Q2 k2 => s_221 (fun _ q => absurd q4 q) (key Q2 k2 ?_)))
      unfold g_221 g_129
      rw [q1, q2, q3, q4]
      rfl
  · refine s_129 (fun q => absurd q1 q) (k _ hi hl sw kp (fun Q2 k2 => s_221 (fun q => absurd q2 q) (key Q2 k2 ?_)))
    unfold g_221 g_129
    rw [q1, q2]
    rfl
