/-! ===== operations: hearing, untell ===== -/
theorem heard_eq {V : vN} {hi : Nat → Nat → Int32} (hv : R_vil V hi) (x : Int32) : g_218 hi x = g_120 hi x := by
  obtain ⟨b, c1, c2, -⟩ := hv
  unfold g_218 g_120
  rw [c1.2.2.2.1, c1.2.2.2.2.2.1, c2.2.2.2.1, c2.2.2.2.2.2.1]
  rw [if_neg (nI_nle (n := vHr V) (by omega) (by omega))]
  by_cases hC : vC V = 0
  · rw [hC]
    rfl
  · rw [if_neg (nI_ne0 (n := vC V) (by omega) (by omega)), if_neg (nI_nle (n := vC V) (by omega) (by omega))]
theorem op_hearing {d : Nat} (a1 a2 : Int32) : OpI Rel (d + 3) 128 220 [.int a1, .int a2] := by
  intro hi hl sw kp Q hR k
  obtain ⟨V, hv, hp, hs, -⟩ := hR.2.2.2.2.2.2
  have key : ∀ Q2 : am_Q, (∀ (hi2 : Nat → Nat → Int32) (hl2 : Nat → Nat → Int64) (sw2 : Bool) (kp2 : Nat → Nat), Rel hi2 hl2 sw2 kp2 → Q2 (some (.int (g_128 hi a1 a2))) (mkH hi2 hl2 sw2 kp2)) → g_220 hi a1 a2 = g_128 hi a1 a2 → Q2 (some (.int (g_220 hi a1 a2))) (mkH hi hl sw kp) := fun Q2 k2 e => by rw [e]; exact k2 hi hl sw kp hR
  rcases cas hv a1 with ⟨c, hc, rfl, q1, q2⟩ | ⟨-, q1, q2⟩
  · have hb := hv.1
    obtain ⟨H, s1, s2, s3, s4, s5, s6, s7, s8, s9, s10, s11, s12⟩ := hs
    have i8 : 8 + nI c = nI (8 + c) := nI_add 8 c
    have i12 : 12 + nI c = nI (12 + c) := nI_add 12 c
    have hc4 : c < 4 := by omega
    have e8 : hi 299 (8 + c) = hi 30 c := (s10 c hc4).1
    have e12 : hi 299 (12 + c) = hi 31 c := (s10 c hc4).2.1
    have e17 : hi 299 17 = hi 28 1 := by rw [s3, ← s2]
    have ebar : hi 297 c = hi 23 c := by
      obtain ⟨b, -, -, b1, b2⟩ := hv.2.2.2.2.1 c hc
      rw [b1, b2]
    have h51 : ¬ hi 279 51 = 0 := by
      rw [hv.2.2.1.2.2.2.2.2.1]
      exact nI_ne0 (by omega) (by omega)
    refine s_128 (fun _ _ => vp_in_nI hc4 (by decide)) (fun _ _ _ => vp_in_nI hc4 (by decide)) (fun _ _ _ _ => vp_in_nI hc4 (by decide)) (k _ hi hl sw kp (fun Q2 k2 => s_220 (fun _ _ => by rw [i8]; exact vp_in_nI (by omega) (by decide)) (fun _ _ _ => vp_in_nI hc4 (by decide)) (fun _ _ _ _ => by rw [i12]; exact vp_in_nI (by omega) (by decide)) (fun _ _ _ _ _ _ => h51) (fun _ _ _ _ _ q => q) (key Q2 k2 ?_)))
    unfold g_220 g_128
    rw [q1, q2, i8, i12, nI_clamp (n := 8 + c) (by omega), nI_clamp (n := 12 + c) (by omega), nI_clamp (n := c) (by omega), e8, e12, e17, ebar, heard_eq hv]
    rfl
  · refine s_128 (fun q => absurd q1 q) (fun q => absurd q1 q) (fun q => absurd q1 q) (k _ hi hl sw kp (fun Q2 k2 => s_220 (fun q => absurd q2 q) (fun q => absurd q2 q) (fun q => absurd q2 q) (fun q => absurd q2 q) (fun q => absurd q2 q) (key Q2 k2 ?_)))
    unfold g_220 g_128
    rw [q1, q2]
    rfl
theorem u2_nn {α : Type} {f : Nat → Nat → α} {i j a b : Nat} {x : α} (h : ¬ (a = i ∧ b = j)) : u2 f i j x a b = f a b := by rw [u2_eq, if_neg h]
theorem op_untell {d : Nat} (a1 : Int32) : OpI Rel (d + 2) 149 266 [.int a1] := by
  intro hi hl sw kp Q hR k
  obtain ⟨r1, r2, r3, ⟨n, t, t1, t2, t3, t4, t5, t6, t7⟩, r5, r6, r7⟩ := id hR
  rcases ix_or a1 (n := n) (by omega) with ⟨j, hj, rfl⟩ | h
  · have g1 : g_207 (nI j) (0 : Int32) (hi 279 86 - 1) = 1 := by rw [t4]; exact g207_in hj (by omega)
    have g0 : ¬ g_207 (nI j) (0 : Int32) (hi 279 86 - 1) = 0 := by rw [g1]; decide
    have ej : (nI j).toNatClampNeg = j := nI_clamp (by omega)
    obtain ⟨u1, u2', u3, u4, u5, u6, u7, u8, u9, u10, u11⟩ := t7 j hj
    refine e_149 (e_27 (fun c => absurd c (nI_pos (by omega))) (fun _ c => ?_) (fun _ _ c => ?_) (fun _ _ _ c => ?_) (fun _ _ _ c => ?_))
    · rw [t3] at c
      exact absurd c (nI_ge hj (by omega))
    · exact absurd c (nI_ge (a := j) (b := 30) (by omega) (by decide))
    · rw [ej] at c ⊢
      refine k_149_8 (Or.inr rfl) (k 1 _ hl sw kp (fun Q2 k2 => e_266 (fun q => absurd q g0) (fun _ => vp_in_nI (by omega) (by decide)) (fun _ _ => ?_) (fun _ q => ?_)))
      · rw [ej]
        show Q2 (some (.int 1)) (mkH (u2 (u2 hi 274 j (hi 266 9)) 319 j (hi 279 87)) hl sw kp)
        refine k2 _ hl sw kp ⟨r1, r2, r3, ⟨n, t, t1, t2, t3, t4, t5, t6, fun i hi' => ?_⟩, r5, r6, R_big.fr ((Ag.rf.u (by decide)).u (by decide)) r6 (fun _ h => h) (fun h => h) (fun _ h => h) rfl rfl rfl rfl rfl rfl rfl rfl rfl r7⟩
        obtain ⟨v1, v2, v3, v4, v5, v6, v7, v8, v9, v10, v11⟩ := t7 i hi'
        have w1 : (u2 (u2 hi 274 j (hi 266 9)) 319 j (hi 279 87)) 274 i = if i = j then hi 266 9 else hi 274 i := by
          rw [u2_row_ne (by decide), u2_row]
        have w2 : (u2 (u2 hi 274 j (hi 266 9)) 319 j (hi 279 87)) 319 i = if i = j then hi 279 87 else hi 319 i := by
          rw [u2_row, u2_row_ne (by decide)]
        refine ⟨v1, v2, v3, v4, v5, v6, v7, ?_, v9, v10, ?_⟩
        · rw [w1, w2, t5, t6, v8]
        · rw [w1]
          by_cases hij : i = j
          · rw [if_pos hij, t5]
            exact Or.inr ⟨t, t2, rfl⟩
          · rw [if_neg hij]
            exact v11
      · rw [ej] at q
        have q' : ¬ hi 319 j < 0 := q
        rw [← u8, c] at q'
        exact absurd (by decide) q'
    · rw [ej] at c
      refine k_149_8 (Or.inl rfl) (k 0 hi hl sw kp (fun Q2 k2 => e_266 (fun q => absurd q g0) (fun _ => vp_in_nI (by omega) (by decide)) (fun _ q => ?_) (fun _ _ => k2 hi hl sw kp hR)))
      rw [ej, ← u8] at q
      rcases u11 with z | ⟨u, z1, z2⟩
      · exact absurd z c
      · rw [z2] at q
        exact absurd q (nI_pos (by omega))
  · have g0 : g_207 a1 (0 : Int32) (hi 279 86 - 1) = 0 := by rw [t4]; exact g207_out h (by omega)
    have fin : Q (some (.int 0)) (mkH hi hl sw kp) := k 0 hi hl sw kp (fun Q2 k2 => e_266 (fun _ => k2 hi hl sw kp hR) (fun q => absurd g0 q) (fun q => absurd g0 q) (fun q => absurd g0 q))
    refine e_149 (e_27 (fun _ => k_149_8 (Or.inl rfl) fin) (fun _ _ => k_149_8 (Or.inl rfl) fin) (fun _ _ _ => k_149_8 (Or.inl rfl) fin) (fun c1 c2 _ _ => ?_) (fun _ _ _ _ => k_149_8 (Or.inl rfl) fin))
    rw [t3] at c2
    rcases h with h | h
    · exact absurd h c1
    · exact absurd h c2
