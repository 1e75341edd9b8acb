/-! ===== take, undo, redo, image, back ===== -/
section ACTS2
variable {d : Nat} {Q : am_Q} {hi : Nat → Nat → Int32} {hl : Nat → Nat → Int64} {sw : Bool} {kp : Nat → Nat} {V : vN}
theorem op_take (a1 : Int32) : OpI Rel (d + 3) 133 229 [.int a1] := by
  intro hi hl sw kp Q hR k
  obtain ⟨V, st, hk, hs, ha, hx⟩ := hR.sp
  have hv := st.2.2.2.2.2.1
  have hb8 := hv.1.2.1
  rcases plc hv a1 with ⟨p, hp, rfl, q1, q2⟩ | ⟨-, q1, q2⟩
  · obtain ⟨H, s1, s2, s3, s4, s5, s6, s7, s8, s9, s10, s11, s12⟩ := id hs
    obtain ⟨b, b1, b2, b3⟩ := s9 p (by omega)
    have ep : (nI p).toNatClampNeg = p := nI_clamp (by omega)
    have e0p : (0 : Int32) + nI p = nI p := Int32.zero_add _
    have z1 : ¬ g_108 hi (nI p) = 0 := by rw [q1]; decide
    have z2 : ¬ g_208 hi (nI p) = 0 := by rw [q2]; decide
    have b2' : hi 29 p = nI b := b2
    by_cases h9 : b = 0
    · subst h9
      refine e_133 (fun c => absurd c z1) (fun _ => vp_in_nI (by omega) (by decide)) (fun _ c => ?_) (fun _ _ => k (-1) hi hl sw kp (fun Q2 k2 => e_229 (fun c => absurd c z2) (fun _ => by rw [e0p]; exact vp_in_nI (by omega) (by decide)) (fun _ _ => k2 hi hl sw kp hR) (fun _ c => ?_)))
      · rw [ep, b2'] at c
        exact absurd c (by decide)
      · rw [e0p, ep, b3] at c
        exact absurd rfl c
    · have hac := ha
      obtain ⟨a, u, u0, u1, u2', u3, u4, -⟩ := hac
      refine e_133 (fun c => absurd c z1) (fun _ => vp_in_nI (by omega) (by decide)) (fun _ _ => f2 hk (by omega) u1 (fun hi' kp' a' hk' ha' hr ck e1 e2 => ?_)) (fun _ c => ?_)
      · have hka := hk'.1 a' (by omega)
        have k29 : hi' 29 p = nI b := by rw [ck.1 29 (by decide) (by omega)]; exact b2
        refine k_133_36 (vp_in_nI (by omega) (by decide)) ?_
        rw [ep, u2_s, k29, show nI b - 1 = nI (b - 1) from pk_sub (a := b) (b := 1) (by omega)]
        have k279 : (u2 hi' 29 p (nI (b - 1))) 279 = hi 279 := by rw [u2_row_ne (by decide), ck.1 279 (by decide) (by omega)]
        have k299 : (u2 hi' 29 p (nI (b - 1))) 299 = hi 299 := by rw [u2_row_ne (by decide), ck.1 299 (by decide) (by omega)]
        have k303 : (u2 hi' 29 p (nI (b - 1))) 303 = hi 303 := by rw [u2_row_ne (by decide), ck.1 303 (by decide) (by omega)]
        have z3 : ¬ g_208 (u2 hi' 29 p (nI (b - 1))) (nI p) = 0 := by
          unfold g_208 at z2 ⊢
          rw [k279]
          exact z2
        refine k _ _ hl sw kp' (fun Q2 k2 => e_229 (fun c => absurd c z3) (fun _ => by rw [e0p]; exact vp_in_nI (by omega) (by decide)) (fun _ c => ?_) (fun _ _ => f223 (a := a) (by omega) (by rw [k279]; exact u3) (fun a'' g h1 h2 h3 h4 => ?_)))
        · rw [e0p, ep, k299, b3] at c
          exact absurd ((nI_eq (b := 0) (by omega) (by decide)).mp c) h9
        · have haa : a'' = a' := by omega
          subst haa
          rw [k299] at h3
          rw [k303] at h4
          refine k_229_25 (by rw [e0p]; exact vp_in_nI (by omega) (by decide)) ?_
          rw [e0p, ep, u2_s]
          have k299b : (u2 (u2 (uR (u2 hi' 29 p (nI (b - 1))) 303 g) 279 66 (nI (a'' + 1))) 279 67 (nI 0)) 299 p = nI b := by
            show hi' 299 p = nI b
            rw [ck.1 299 (by decide) (by omega)]
            exact b3
          rw [k299b, show nI b - 1 = nI (b - 1) from pk_sub (a := b) (b := 1) (by omega)]
          exact k2 _ hl sw kp' (bone_rel st hk ha hx u1 (by omega) hs hk' ha' hr ck e1 e2 (by omega) (by omega) h3 h4)
      · rw [ep, b2'] at c
        exact absurd (nI_lt (a := 0) (by omega) (by omega)) c
  · have z1 : g_108 hi a1 = 0 := q1
    exact e_133 (fun _ => k (-1) hi hl sw kp (fun Q2 k2 => e_229 (fun _ => k2 hi hl sw kp hR) (fun c => absurd q2 c) (fun c => absurd q2 c) (fun c => absurd q2 c))) (fun c => absurd q1 c) (fun c => absurd q1 c) (fun c => absurd q1 c)
theorem f224 {j : Nat} (hj : j < 40) (w : ∀ g r : Nat → Int32, (∀ k, k < 81 → g (82 * j + k) = hi 299 k) → (∀ m, m < 82 * j ∨ 82 * j + 81 ≤ m → g m = hi 303 m) → (∀ k, k < 81 → r k = hi 303 (82 * j + k)) → Q none (mkH (uR (uR hi 303 g) 299 r) hl sw kp)) : cS (d + 1) 224 [.ref 279, .int (nI (82 * j))] (mkH hi hl sw kp) Q := by
  have e0 : hi = uR (uR hi 303 (hi 303)) 299 (hi 299) := by
    rw [uR_id, uR_id]
  refine e_224 (cW.hi e0 (lpu (σ := (Nat → Int32) × (Nat → Int32)) 81 (fun i s => ∀ o3 : Option Value, cW cd_224 d Q 2 [some (.ref 279), some (.int (nI (82 * j))), some (.int (nI i)), o3] [] (mkH (uR (uR hi 303 s.1) 299 s.2) hl sw kp)) (fun i s => (∀ k, k < i → s.1 (82 * j + k) = hi 299 k) ∧ (∀ m, m < 82 * j ∨ 82 * j + i ≤ m → s.1 m = hi 303 m) ∧ (∀ k, k < i → s.2 k = hi 303 (82 * j + k)) ∧ (∀ k, i ≤ k → s.2 k = hi 299 k)) ?_ ?_ 81 0 (hi 303, hi 299) rfl ⟨fun k hk => absurd hk (Nat.not_lt_zero k), fun m _ => rfl, fun k hk => absurd hk (Nat.not_lt_zero k), fun k _ => rfl⟩ none))
  · intro s ⟨h1, h2, h3, h4⟩ o3
    exact k_224_2 (fun _ => w s.1 s.2 h1 h2 h3) (fun c => absurd (by decide) c) (fun c => absurd (by decide) c) (fun c => absurd (by decide) c)
  · intro i s hi' ⟨h1, h2, h3, h4⟩ ih o3
    have e4 : nI (82 * j) + nI i = nI (82 * j + i) := nI_add _ _
    refine k_224_2 (fun c => absurd c (nI_ge (a := i) (b := 81) hi' (by decide))) (fun _ => by rw [e4]; exact vp_in_nI (by omega) (by decide)) (fun _ => vp_in_nI (by omega) (by decide)) (fun _ => ?_)
    rw [e4, nI_clamp (by omega), nI_clamp (by omega), nI_1]
    refine cW.hi (hi := uR (uR hi 303 (up1 s.1 (82 * j + i) (s.2 i))) 299 (up1 s.2 i (s.1 (82 * j + i)))) ?_ (ih (up1 s.1 (82 * j + i) (s.2 i), up1 s.2 i (s.1 (82 * j + i))) ⟨fun k hk => ?_, fun m hm => ?_, fun k hk => ?_, fun k hk => ?_⟩ _)
    · rw [u2_co (by decide), u2_in, u2_in]
      rfl
    · by_cases hki : k = i
      · subst hki
        exact up1_s.trans (h4 k (Nat.le_refl _))
      · exact (up1_n (by omega)).trans (h1 k (by omega))
    · exact (up1_n (by omega)).trans (h2 m (by omega))
    · by_cases hki : k = i
      · subst hki
        exact up1_s.trans (h2 _ (by omega))
      · exact (up1_n hki).trans (h3 k (by omega))
    · exact (up1_n (by omega)).trans (h4 k (by omega))
theorem bx_fr {hi' : Nat → Nat → Int32} (eb : hi' 23 = hi 23) (hc : ∀ c, 241 ≤ c → c < 256 → hi' c = hi c) (e0 : hi' 0 8 = hi 0 8) (e1 : hi' 322 = hi 322) (e2 : hi' 323 = hi 323) (hx : R_box V hi) : R_box V hi' := by
  obtain ⟨B, g0, g1, g2⟩ := hx
  refine ⟨B, g0, by rw [e0]; exact g1, fun x hx => ⟨by rw [e1]; exact (g2 x hx).1, fun q => ?_⟩⟩
  exact SRc.fr2 eb (fun i hi' => hc _ (by omega) (by omega)) (fun k _ => by rw [e2]) ((g2 x hx).2 q)
theorem op_undo : OpI Rel (d + 3) 134 230 [] := by
  intro hi hl sw kp Q hR k
  obtain ⟨V, st, hk, hs, ha, hx⟩ := hR.sp
  obtain ⟨a, u, u0, u1, u2', u3, u4, q5, q6, q7⟩ := id ha
  by_cases h0 : a = 0
  · subst h0
    refine e_134 (e_4 (fun _ => k_134_11 (Or.inl rfl) (k 0 hi hl sw kp (fun Q2 k2 => e_230 (fun _ => k2 hi hl sw kp hR) (fun c => absurd (by rw [u3]; rfl) c)))) (fun c => absurd (by rw [u1]; decide) c) (fun c => absurd (by rw [u1]; decide) c) (fun c => absurd (by rw [u1]; decide) c) (fun c => absurd (by rw [u1]; decide) c))
  · have hka := hk.1 a (by omega)
    have hkb := hk.1 (a - 1) (by omega)
    have hne : kp a ≠ kp (a - 1) := fun q => by
      have := hk.2 a (a - 1) (by omega) (by omega) q
      omega
    have ea : (hi 33 1).toNatClampNeg = a := by rw [u1, nI_clamp (by omega)]
    have z0 : ¬ hi 33 1 ≤ 0 := by rw [u1]; exact nI_nle (by omega) (by omega)
    have z40 : hi 33 1 ≤ 40 := by rw [u1]; exact nI_le (b := 40) (by omega) (by decide)
    refine e_134 (e_4 (fun c => absurd c z0) (fun _ _ => by rw [u1]; exact vp_in_nI (by omega) (by decide)) (fun _ _ => by rw [ea]; exact hka) (fun _ _ => ?_) (fun _ c => absurd z40 c))
    rw [ea]
    refine f80 (d := d) (stt_k hka) stt_28 (by omega) (fun hi1 c1 => ?_)
    have k33 : hi1 33 = hi 33 := c1.1 33 (by omega)
    have em : hi1 33 1 - 1 = nI (a - 1) := by rw [k33, u1]; exact pk_sub (a := a) (b := 1) (by omega)
    refine k_4_31 (by rw [em]; exact vp_in_nI (by omega) (by decide)) ?_
    rw [em, nI_clamp (by omega)]
    refine f80 (d := d) stt_28 (stt_k hkb) (by omega) (fun hi2 c2 => ?_)
    refine k_4_64 (k_134_11 (Or.inr rfl) ?_)
    -- the reference
    have f2 : ∀ c, c ≠ 33 → (c < 28 ∨ 32 < c) → (c < 35 + 5 * kp a ∨ 35 + 5 * kp a + 4 < c) → hi2 c = hi c := by
      intro c n1 n2 n3
      rw [c2.1 c (by omega), u2_row_ne n1, u2_row_ne n1, c1.1 c n3]
    have k279 : hi2 279 = hi 279 := f2 279 (by decide) (by omega) (by omega)
    have em2 : hi2 279 66 - 1 = nI (a - 1) := by rw [k279, u3]; exact pk_sub (a := a) (b := 1) (by omega)
    have em3 : (82 : Int32) * nI (a - 1) = nI (82 * (a - 1)) := pk_mul 82 _
    have em4 : hi2 279 67 + 1 = nI (u + 1) := by rw [k279, u4, nI_1]
    refine k 1 hi2 hl sw kp (fun Q2 k2 => e_230 (fun c => absurd c (by rw [k279, u3]; exact nI_ne0 (by omega) (by omega))) (fun _ => ?_))
    rw [em2, em3, em4]
    refine f224 (d := d + 1) (j := a - 1) (by omega) (fun g r g1 g2 g3 => k_230_40 (k2 _ hl sw kp ?_))
    have k299 : (u2 (u2 hi2 279 66 (nI (a - 1))) 279 67 (nI (u + 1))) 299 = hi 299 := by
      rw [u2_row_ne (by decide), u2_row_ne (by decide)]
      exact f2 299 (by decide) (by omega) (by omega)
    have k303 : (u2 (u2 hi2 279 66 (nI (a - 1))) 279 67 (nI (u + 1))) 303 = hi 303 := by
      rw [u2_row_ne (by decide), u2_row_ne (by decide)]
      exact f2 303 (by decide) (by omega) (by omega)
    rw [k299] at g1
    rw [k303] at g2 g3
    have fr : ∀ c, c ≠ 33 → c ≠ 279 → c ≠ 299 → c ≠ 303 → (c < 28 ∨ 32 < c) → (c < 35 + 5 * kp a ∨ 35 + 5 * kp a + 4 < c) → (uR (uR (u2 (u2 hi2 279 66 (nI (a - 1))) 279 67 (nI (u + 1))) 303 g) 299 r) c = hi c := by
      intro c n1 n2 n3 n4 n5 n6
      rw [uR_ne n3, uR_ne n4, u2_row_ne n2, u2_row_ne n2]
      exact f2 c n1 n5 n6
    have f279 : ∀ j, j ≠ 66 → j ≠ 67 → (uR (uR (u2 (u2 hi2 279 66 (nI (a - 1))) 279 67 (nI (u + 1))) 303 g) 299 r) 279 j = hi 279 j := by
      intro j n1 n2
      rw [uR_ne (by decide), uR_ne (by decide), u2_nn (by omega), u2_nn (by omega), k279]
    have cell : ∀ c, c ≠ 279 → c ≠ 299 → c ≠ 303 → (uR (uR (u2 (u2 hi2 279 66 (nI (a - 1))) 279 67 (nI (u + 1))) 303 g) 299 r) c = hi2 c := by
      intro c n1 n2 n3
      rw [uR_ne n2, uR_ne n3, u2_row_ne n1, u2_row_ne n1]
    have eb := fr 23 (by decide) (by decide) (by decide) (by decide) (by omega) (by omega)
    have kb : ∀ i, i < 5 → (u2 (u2 hi1 33 1 (nI (a - 1))) 33 2 (hi1 33 2 + 1)) (35 + 5 * kp (a - 1) + i) = hi (35 + 5 * kp (a - 1) + i) := fun i hi' => by
      rw [u2_row_ne (by omega), u2_row_ne (by omega), c1.1 _ (by omega)]
    refine Rel.jn (V := V) (st.fr (fun c j h => ?_) rfl) ⟨hk, ?_, ⟨a - 1, u + 1, by omega, ?_, ?_, ?_, ?_, fun j hj => ?_, fun j hj1 hj2 => ?_, fun _ => ?_⟩, ?_⟩
    · by_cases hc : c = 279
      · subst hc
        exact f279 j (by unfold NS at h; omega) (by unfold NS at h; omega)
      · rw [fr c (by unfold NS at h; omega) hc (by unfold NS at h; omega) (by unfold NS at h; omega) (by unfold NS at h; omega) (by unfold NS at h; omega)]
    · -- now
      refine SR.eq eb (fun j hj => ?_) (fun j hj => ?_) (fun j hj => ?_) (fun j hj => ?_) (fun j hj => ?_) (fun m hm => ?_) (q5 (a - 1) (by omega))
      · rw [cell _ (by decide) (by decide) (by decide), c2.2.1 j hj]
        exact congrFun (kb 0 (by decide)) j
      · rw [cell _ (by decide) (by decide) (by decide), c2.2.2.1 j hj]
        exact congrFun (kb 1 (by decide)) j
      · rw [cell _ (by decide) (by decide) (by decide), c2.2.2.2.1 j hj]
        exact congrFun (kb 2 (by decide)) j
      · rw [cell _ (by decide) (by decide) (by decide), c2.2.2.2.2.1 j hj]
        exact congrFun (kb 3 (by decide)) j
      · rw [cell _ (by decide) (by decide) (by decide), c2.2.2.2.2.2 j hj]
        exact congrFun (kb 4 (by decide)) j
      · rw [uR_s]
        exact g3 m hm
    · rw [cell _ (by decide) (by decide) (by decide), c2.1 33 (by omega), u2_nn (by decide), u2_s]
    · rw [cell _ (by decide) (by decide) (by decide), c2.1 33 (by omega), u2_s, k33, u2', nI_1]
    · rw [uR_ne (by decide), uR_ne (by decide), u2_nn (by decide), u2_s]
    · rw [uR_ne (by decide), uR_ne (by decide), u2_s]
    · have hj3 := hk.1 j (by omega)
      have hn : kp j ≠ kp a := fun q => by
        have := hk.2 j a (by omega) (by omega) q
        omega
      refine SRc.fr2 eb (fun i hi' => fr _ (by omega) (by omega) (by omega) (by omega) (by omega) (by omega)) (fun m hm => ?_) (q5 j (by omega))
      rw [uR_ne (by decide), uR_s]
      exact g2 _ (by omega)
    · by_cases hja : j = a - 1
      · subst hja
        have e1 : a - 1 + 1 = a := by omega
        rw [e1]
        refine SR.eq eb (fun j hj => ?_) (fun j hj => ?_) (fun j hj => ?_) (fun j hj => ?_) (fun j hj => ?_) (fun m hm => ?_) hs
        · rw [cell _ (by omega) (by omega) (by omega), c2.1 _ (by omega), u2_row_ne (by omega), u2_row_ne (by omega)]
          exact c1.2.1 j hj
        · rw [cell _ (by omega) (by omega) (by omega), c2.1 _ (by omega), u2_row_ne (by omega), u2_row_ne (by omega)]
          exact c1.2.2.1 j hj
        · rw [cell _ (by omega) (by omega) (by omega), c2.1 _ (by omega), u2_row_ne (by omega), u2_row_ne (by omega)]
          exact c1.2.2.2.1 j hj
        · rw [cell _ (by omega) (by omega) (by omega), c2.1 _ (by omega), u2_row_ne (by omega), u2_row_ne (by omega)]
          exact c1.2.2.2.2.1 j hj
        · rw [cell _ (by omega) (by omega) (by omega), c2.1 _ (by omega), u2_row_ne (by omega), u2_row_ne (by omega)]
          exact c1.2.2.2.2.2 j hj
        · rw [uR_ne (by decide), uR_s]
          exact g1 m hm
      · have hj3 := hk.1 (j + 1) (by omega)
        have hn : kp (j + 1) ≠ kp a := fun q => by
          have := hk.2 (j + 1) a (by omega) (by omega) q
          omega
        refine SRc.fr2 eb (fun i hi' => fr _ (by omega) (by omega) (by omega) (by omega) (by omega) (by omega)) (fun m hm => ?_) (q6 j (by omega) (by omega))
        rw [uR_ne (by decide), uR_s]
        exact g2 _ (by omega)
    · refine SRc.fr2 eb (fun i hi' => fr _ (by omega) (by omega) (by omega) (by omega) (by omega) (by omega)) (fun m hm => ?_) (q5 (a - 1) (by omega))
      rw [uR_s]
      exact g3 m hm
    · refine bx_fr eb (fun c h1 h2 => fr c (by omega) (by omega) (by omega) (by omega) (by omega) (by omega)) ?_ (fr 322 (by decide) (by decide) (by decide) (by decide) (by omega) (by omega)) (fr 323 (by decide) (by decide) (by decide) (by decide) (by omega) (by omega)) hx
      rw [fr 0 (by decide) (by decide) (by decide) (by decide) (by omega) (by omega)]
theorem op_redo : OpI Rel (d + 3) 135 231 [] := by
  intro hi hl sw kp Q hR k
  obtain ⟨V, st, hk, hs, ha, hx⟩ := hR.sp
  obtain ⟨a, u, u0, u1, u2', u3, u4, q5, q6, q7⟩ := id ha
  by_cases h0 : u = 0
  · subst h0
    refine e_135 (e_5 (fun _ => k_135_11 (Or.inl rfl) (k 0 hi hl sw kp (fun Q2 k2 => e_231 (fun _ => k2 hi hl sw kp hR) (fun c => absurd (by rw [u4]; rfl) c)))) (fun c => absurd (by rw [u2']; decide) c) (fun c => absurd (by rw [u2']; decide) c) (fun c => absurd (by rw [u2']; decide) c))
  · have hkb := hk.1 (a + 1) (by omega)
    have ea : hi 33 1 + 1 = nI (a + 1) := by rw [u1, nI_1]
    have eu : hi 33 2 - 1 = nI (u - 1) := by rw [u2']; exact pk_sub (a := u) (b := 1) (by omega)
    have z0 : ¬ hi 33 2 ≤ 0 := by rw [u2']; exact nI_nle (by omega) (by omega)
    have z40 : hi 33 1 < 40 := by rw [u1]; exact nI_lt (b := 40) (by omega) (by decide)
    refine e_135 (e_5 (fun c => absurd c z0) (fun _ _ => by rw [ea]; exact vp_in_nI (by omega) (by decide)) (fun _ _ => ?_) (fun _ c => absurd z40 c))
    rw [ea, eu, nI_clamp (by omega)]
    refine f80 (d := d) stt_28 (stt_k hkb) (by omega) (fun hi2 c2 => ?_)
    refine k_5_51 (k_135_11 (Or.inr rfl) ?_)
    have f2 : ∀ c, c ≠ 33 → (c < 28 ∨ 32 < c) → hi2 c = hi c := by
      intro c n1 n2
      rw [c2.1 c (by omega), u2_row_ne n1, u2_row_ne n1]
    have k279 : hi2 279 = hi 279 := f2 279 (by decide) (by omega)
    have em3 : (82 : Int32) * hi2 279 66 = nI (82 * a) := by
      rw [k279, u3]
      exact pk_mul 82 _
    refine k 1 hi2 hl sw kp (fun Q2 k2 => e_231 (fun c => absurd c (by rw [k279, u4]; exact nI_ne0 (by omega) (by omega))) (fun _ => ?_))
    rw [em3]
    refine f224 (d := d + 1) (j := a) (by omega) (fun g r g1 g2 g3 => k_231_20 ?_)
    have em4 : (uR (uR hi2 303 g) 299 r) 279 66 + 1 = nI (a + 1) := by
      show hi2 279 66 + 1 = _
      rw [k279, u3, nI_1]
    have em5 : (uR (uR hi2 303 g) 299 r) 279 67 - 1 = nI (u - 1) := by
      show hi2 279 67 - 1 = _
      rw [k279, u4]
      exact pk_sub (a := u) (b := 1) (by omega)
    rw [em4, em5]
    refine k2 _ hl sw kp ?_
    have k299 : hi2 299 = hi 299 := f2 299 (by decide) (by omega)
    have k303 : hi2 303 = hi 303 := f2 303 (by decide) (by omega)
    rw [k299] at g1
    rw [k303] at g2 g3
    have fr : ∀ c, c ≠ 33 → c ≠ 279 → c ≠ 299 → c ≠ 303 → (c < 28 ∨ 32 < c) → (u2 (u2 (uR (uR hi2 303 g) 299 r) 279 66 (nI (a + 1))) 279 67 (nI (u - 1))) c = hi c := by
      intro c n1 n2 n3 n4 n5
      rw [u2_row_ne n2, u2_row_ne n2, uR_ne n3, uR_ne n4]
      exact f2 c n1 n5
    have f279 : ∀ j, j ≠ 66 → j ≠ 67 → (u2 (u2 (uR (uR hi2 303 g) 299 r) 279 66 (nI (a + 1))) 279 67 (nI (u - 1))) 279 j = hi 279 j := by
      intro j n1 n2
      rw [u2_nn (by omega), u2_nn (by omega), uR_ne (by decide), uR_ne (by decide), k279]
    have cell : ∀ c, c ≠ 279 → c ≠ 299 → c ≠ 303 → (u2 (u2 (uR (uR hi2 303 g) 299 r) 279 66 (nI (a + 1))) 279 67 (nI (u - 1))) c = hi2 c := by
      intro c n1 n2 n3
      rw [u2_row_ne n1, u2_row_ne n1, uR_ne n2, uR_ne n3]
    have eb := fr 23 (by decide) (by decide) (by decide) (by decide) (by omega)
    have kb : ∀ i, i < 5 → (u2 (u2 hi 33 1 (nI (a + 1))) 33 2 (nI (u - 1))) (35 + 5 * kp (a + 1) + i) = hi (35 + 5 * kp (a + 1) + i) := fun i hi' => by
      rw [u2_row_ne (by omega), u2_row_ne (by omega)]
    refine Rel.jn (V := V) (st.fr (fun c j h => ?_) rfl) ⟨hk, ?_, ⟨a + 1, u - 1, by omega, ?_, ?_, ?_, ?_, fun j hj => ?_, fun j hj1 hj2 => ?_, fun _ => ?_⟩, ?_⟩
    · by_cases hc : c = 279
      · subst hc
        exact f279 j (by unfold NS at h; omega) (by unfold NS at h; omega)
      · rw [fr c (by unfold NS at h; omega) hc (by unfold NS at h; omega) (by unfold NS at h; omega) (by unfold NS at h; omega)]
    · refine SR.eq eb (fun j hj => ?_) (fun j hj => ?_) (fun j hj => ?_) (fun j hj => ?_) (fun j hj => ?_) (fun m hm => ?_) (q6 a (by omega) (by omega))
      · rw [cell _ (by decide) (by decide) (by decide), c2.2.1 j hj]
        exact congrFun (kb 0 (by decide)) j
      · rw [cell _ (by decide) (by decide) (by decide), c2.2.2.1 j hj]
        exact congrFun (kb 1 (by decide)) j
      · rw [cell _ (by decide) (by decide) (by decide), c2.2.2.2.1 j hj]
        exact congrFun (kb 2 (by decide)) j
      · rw [cell _ (by decide) (by decide) (by decide), c2.2.2.2.2.1 j hj]
        exact congrFun (kb 3 (by decide)) j
      · rw [cell _ (by decide) (by decide) (by decide), c2.2.2.2.2.2 j hj]
        exact congrFun (kb 4 (by decide)) j
      · rw [u2_row_ne (by decide), u2_row_ne (by decide), uR_s]
        exact g3 m hm
    · rw [cell _ (by decide) (by decide) (by decide), c2.1 33 (by omega), u2_nn (by decide), u2_s]
    · rw [cell _ (by decide) (by decide) (by decide), c2.1 33 (by omega), u2_s]
    · rw [u2_nn (by decide), u2_s]
    · rw [u2_s]
    · have hj3 := hk.1 j (by omega)
      by_cases hja : j = a
      · subst hja
        refine SRc.fr2 eb (fun i hi' => fr _ (by omega) (by omega) (by omega) (by omega) (by omega)) (fun m hm => ?_) (q7 (by omega))
        rw [u2_row_ne (by decide), u2_row_ne (by decide), uR_ne (by decide), uR_s]
        exact g1 m hm
      · refine SRc.fr2 eb (fun i hi' => fr _ (by omega) (by omega) (by omega) (by omega) (by omega)) (fun m hm => ?_) (q5 j (by omega))
        rw [u2_row_ne (by decide), u2_row_ne (by decide), uR_ne (by decide), uR_s]
        exact g2 _ (by omega)
    · have hj3 := hk.1 (j + 1) (by omega)
      refine SRc.fr2 eb (fun i hi' => fr _ (by omega) (by omega) (by omega) (by omega) (by omega)) (fun m hm => ?_) (q6 j (by omega) (by omega))
      rw [u2_row_ne (by decide), u2_row_ne (by decide), uR_ne (by decide), uR_s]
      exact g2 _ (by omega)
    · refine SRc.fr2 eb (fun i hi' => fr _ (by omega) (by omega) (by omega) (by omega) (by omega)) (fun m hm => ?_) (q6 a (by omega) (by omega))
      rw [u2_row_ne (by decide), u2_row_ne (by decide), uR_s]
      exact g3 m hm
    · refine bx_fr eb (fun c h1 h2 => fr c (by omega) (by omega) (by omega) (by omega) (by omega)) ?_ (fr 322 (by decide) (by decide) (by decide) (by decide) (by omega)) (fr 323 (by decide) (by decide) (by decide) (by decide) (by omega)) hx
      rw [fr 0 (by decide) (by decide) (by decide) (by decide) (by omega)]
theorem box_or : ∀ B, B < 8 → ∀ b, b < 3 → nI B ||| ((1 : Int32) <<< (nI b &&& 31)) = nI (B ||| 2 ^ b) ∧ (B ||| 2 ^ b) < 8 ∧ ∀ c, c < 3 → (B ||| 2 ^ b) / 2 ^ c % 2 = if c = b then 1 else B / 2 ^ c % 2 := by decide +kernel
theorem box_bt : ∀ B, B < 8 → ∀ b, b < 3 → ((nI B >>> (nI b &&& 31)) &&& 1) = nI (B / 2 ^ b % 2) := by decide +kernel
theorem bx_cas (x : Int32) : (∃ b : Nat, b < 3 ∧ x = nI b ∧ ¬ g_158 x (0 : Int32) (2 : Int32) = 0 ∧ ¬ g_274 x = 0) ∨ (g_158 x (0 : Int32) (2 : Int32) = 0 ∧ g_274 x = 0) := by
  rcases ix_or x (n := 3) (by decide) with ⟨b, hb, rfl⟩ | h
  · refine Or.inl ⟨b, hb, rfl, ?_, ?_⟩
    · unfold g_158
      rw [if_neg (nI_pos (by omega)), if_neg (show ¬ (2 : Int32) < nI b from nI_nlt (a := 2) (by omega) (by decide))]
      decide
    · unfold g_274
      rw [if_neg (nI_pos (by omega)), if_neg (show ¬ (3 : Int32) ≤ nI b from nI_ge (b := 3) hb (by decide))]
      decide
  · refine Or.inr ⟨?_, ?_⟩
    · unfold g_158
      rcases h with h | h
      · rw [if_pos h]
      · by_cases c : x < 0
        · rw [if_pos c]
        · rw [if_neg c, if_pos]
          obtain ⟨m, hm, rfl⟩ := nI_of c
          have := (nI_leI (a := 3) (by decide) hm).mp h
          exact nI_lt (a := 2) (by omega) hm
    · unfold g_274
      rcases h with h | h
      · rw [if_pos h]
      · by_cases c : x < 0
        · rw [if_pos c]
        · rw [if_neg c, if_pos (show (3 : Int32) ≤ x from h)]
theorem f275 {b : Nat} (hb : b < 3) (w : ∀ g : Nat → Int32, (∀ k, k < 81 → g (82 * b + k) = hi 299 k) → (∀ m, m < 82 * b ∨ 82 * b + 81 ≤ m → g m = hi 323 m) → Q (some (.int (hi 299 17))) (mkH (uR hi 323 g) hl sw kp)) : cW cd_275 (d + 1) Q 18 [some (.ref 279), some (.int (nI b)), some (.int 0)] [] (mkH hi hl sw kp) := by
  refine cW.hi uR_id.symm (lpu (σ := Nat → Int32) 81 (fun i g => cW cd_275 (d + 1) Q 18 [some (.ref 279), some (.int (nI b)), some (.int (nI i))] [] (mkH (uR hi 323 g) hl sw kp)) (fun i g => (∀ k, k < i → g (82 * b + k) = hi 299 k) ∧ ∀ m, m < 82 * b ∨ 82 * b + i ≤ m → g m = hi 323 m) ?_ ?_ 81 0 (hi 323) rfl ⟨fun k hk => absurd hk (Nat.not_lt_zero k), fun m _ => rfl⟩)
  · intro g ⟨h1, h2⟩
    exact k_275_18 (fun _ => w g h1 h2) (fun c => absurd (by decide) c) (fun c => absurd (by decide) c) (fun c => absurd (by decide) c)
  · intro i g hi' ⟨h1, h2⟩ ih
    have e4 : (82 : Int32) * nI b + nI i = nI (82 * b + i) := by
      rw [show (82 : Int32) = nI 82 from rfl, pk_mul, nI_add]
    refine k_275_18 (fun c => absurd c (nI_ge (a := i) (b := 81) hi' (by decide))) (fun _ => vp_in_nI (by omega) (by decide)) (fun _ => by rw [e4]; exact vp_in_nI (by omega) (by decide)) (fun _ => ?_)
    rw [e4, nI_clamp (by omega), nI_clamp (by omega), nI_1]
    refine cW.hi u2_in (ih _ ⟨fun k hk => ?_, fun m hm => ?_⟩)
    · by_cases hki : k = i
      · subst hki
        rw [up1_s]
        rfl
      · rw [up1_n (by omega)]
        exact h1 k (by omega)
    · rw [up1_n (by omega)]
      exact h2 m (by omega)
theorem op_image (a1 : Int32) : OpI Rel (d + 2) 154 275 [.int a1] := by
  intro hi hl sw kp Q hR k
  obtain ⟨V, st, hk, hs, ha, hx⟩ := hR.sp
  obtain ⟨H, s1, s2, s3, -⟩ := id hs
  obtain ⟨B, g0, g1, g2⟩ := hx
  rcases bx_cas a1 with ⟨b, hb, rfl, z1, z2⟩ | ⟨z1, z2⟩
  · have ep : (nI b).toNatClampNeg = b := nI_clamp (by omega)
    refine e_154 (fun c => absurd c z1) (fun _ => vp_in_nI hb (by decide)) (fun _ => by rw [ep]; exact hb) (fun _ => ?_)
    rw [ep]
    refine f80 (d := d) (stt_b hb) stt_28 (by omega) (fun hi1 c1 => k_154_24 ?_)
    obtain ⟨o1, o2, o3⟩ := box_or B g0 b hb
    have e8 : hi1 0 8 ||| ((1 : Int32) <<< (nI b &&& 31)) = nI (B ||| 2 ^ b) := by
      rw [c1.1 0 (by omega), g1, o1]
    have e28 : hi1 28 1 = nI H := by
      rw [c1.1 28 (by omega)]
      exact s2
    rw [e8, e28]
    refine k _ _ hl sw kp (fun Q2 k2 => e_275 (fun c => absurd c z2) (fun _ => vp_in_nI hb (by decide)) (fun _ => ?_))
    rw [ep]
    refine f275 (d := d) hb (fun g h1 h2 => ?_)
    have k299 : (u2 (u2 hi1 0 8 (nI (B ||| 2 ^ b))) 322 b (vp_nar .boolean 1)) 299 = hi 299 := by
      rw [u2_row_ne (by decide), u2_row_ne (by decide), c1.1 299 (by omega)]
    have k323 : (u2 (u2 hi1 0 8 (nI (B ||| 2 ^ b))) 322 b (vp_nar .boolean 1)) 323 = hi 323 := by
      rw [u2_row_ne (by decide), u2_row_ne (by decide), c1.1 323 (by omega)]
    rw [k299] at h1
    rw [k323] at h2
    have e17 : (u2 (u2 hi1 0 8 (nI (B ||| 2 ^ b))) 322 b (vp_nar .boolean 1)) 299 17 = nI H := by
      rw [k299]
      exact s3
    rw [e17]
    have fr : ∀ c, c ≠ 0 → c ≠ 322 → c ≠ 323 → (c < 241 + 5 * b ∨ 241 + 5 * b + 4 < c) → (uR (u2 (u2 hi1 0 8 (nI (B ||| 2 ^ b))) 322 b (vp_nar .boolean 1)) 323 g) c = hi c := by
      intro c n1 n2 n3 n4
      rw [uR_ne n3, u2_row_ne n2, u2_row_ne n1, c1.1 c n4]
    have eb := fr 23 (by decide) (by decide) (by decide) (by omega)
    have cell : ∀ c, c ≠ 0 → c ≠ 322 → c ≠ 323 → (uR (u2 (u2 hi1 0 8 (nI (B ||| 2 ^ b))) 322 b (vp_nar .boolean 1)) 323 g) c = hi1 c := by
      intro c n1 n2 n3
      rw [uR_ne n3, u2_row_ne n2, u2_row_ne n1]
    refine k2 _ hl sw kp (Rel.jn (V := V) (st.fr (fun c j h => ?_) rfl) ⟨hk, ?_, ?_, ⟨B ||| 2 ^ b, o2, ?_, fun x hx => ⟨?_, fun q => ?_⟩⟩⟩)
    · by_cases hc : c = 0
      · subst hc
        rw [uR_ne (by decide), u2_row_ne (by decide), u2_nn (by unfold NS at h; omega), c1.1 0 (by omega)]
      · rw [fr c hc (by unfold NS at h; omega) (by unfold NS at h; omega) (by unfold NS at h; omega)]
    · exact SRc.fr2 eb (fun i hi' => fr _ (by omega) (by omega) (by omega) (by omega)) (fun m _ => by rw [fr 299 (by decide) (by decide) (by decide) (by omega)]) hs
    · obtain ⟨a, u, u0, u1, u2', u3, u4, q5, q6, q7⟩ := ha
      have e303 := fr 303 (by decide) (by decide) (by decide) (by omega)
      have e299 := fr 299 (by decide) (by decide) (by decide) (by omega)
      have e279 := fr 279 (by decide) (by decide) (by decide) (by omega)
      have e33 := fr 33 (by decide) (by decide) (by decide) (by omega)
      refine ⟨a, u, u0, by rw [e33]; exact u1, by rw [e33]; exact u2', by rw [e279]; exact u3, by rw [e279]; exact u4, fun j hj => ?_, fun j hj1 hj2 => ?_, fun hu => ?_⟩
      · have := hk.1 j (by omega)
        exact SRc.fr2 eb (fun i hi' => fr _ (by omega) (by omega) (by omega) (by omega)) (fun m _ => by rw [e303]) (q5 j hj)
      · have := hk.1 (j + 1) (by omega)
        exact SRc.fr2 eb (fun i hi' => fr _ (by omega) (by omega) (by omega) (by omega)) (fun m _ => by rw [e303]) (q6 j hj1 hj2)
      · have := hk.1 a (by omega)
        exact SRc.fr2 eb (fun i hi' => fr _ (by omega) (by omega) (by omega) (by omega)) (fun m _ => by rw [e299]) (q7 hu)
    · rw [uR_ne (by decide), u2_row_ne (by decide), u2_s]
    · rw [uR_ne (by decide), o3 x hx]
      by_cases hxb : x = b
      · subst hxb
        rw [u2_s, if_pos rfl]
        rfl
      · rw [u2_nn (by omega), u2_row_ne (by decide), c1.1 322 (by omega), if_neg hxb]
        exact (g2 x hx).1
    · by_cases hxb : x = b
      · subst hxb
        refine SR.eq eb (fun j hj => ?_) (fun j hj => ?_) (fun j hj => ?_) (fun j hj => ?_) (fun j hj => ?_) (fun m hm => ?_) hs
        · rw [cell _ (by omega) (by omega) (by omega)]
          exact c1.2.1 j hj
        · rw [cell _ (by omega) (by omega) (by omega)]
          exact c1.2.2.1 j hj
        · rw [cell _ (by omega) (by omega) (by omega)]
          exact c1.2.2.2.1 j hj
        · rw [cell _ (by omega) (by omega) (by omega)]
          exact c1.2.2.2.2.1 j hj
        · rw [cell _ (by omega) (by omega) (by omega)]
          exact c1.2.2.2.2.2 j hj
        · rw [uR_s]
          exact h1 m hm
      · rw [o3 x hx, if_neg hxb] at q
        refine SRc.fr2 eb (fun i hi' => fr _ (by omega) (by omega) (by omega) (by omega)) (fun m hm => ?_) ((g2 x hx).2 q)
        rw [uR_s]
        exact h2 _ (by omega)
  · exact e_154 (fun _ => k (-1) hi hl sw kp (fun Q2 k2 => e_275 (fun _ => k2 hi hl sw kp hR) (fun c => absurd z2 c) (fun c => absurd z2 c))) (fun c => absurd z1 c) (fun c => absurd z1 c) (fun c => absurd z1 c)
theorem f276 {b : Nat} (hb : b < 3) (w : ∀ r : Nat → Int32, (∀ k, k < 81 → r k = hi 323 (82 * b + k)) → Q (some (.int (r 17))) (mkH (u2 (u2 (uR hi 299 r) 279 66 (nI 0)) 279 67 (nI 0)) hl sw kp)) : cW cd_276 (d + 1) Q 20 [some (.ref 279), some (.int (nI b)), some (.int 0)] [] (mkH hi hl sw kp) := by
  refine cW.hi uR_id.symm (lpu (σ := Nat → Int32) 81 (fun i g => cW cd_276 (d + 1) Q 20 [some (.ref 279), some (.int (nI b)), some (.int (nI i))] [] (mkH (uR hi 299 g) hl sw kp)) (fun i g => ∀ k, k < i → g k = hi 323 (82 * b + k)) ?_ ?_ 81 0 (hi 299) rfl (fun k hk => absurd hk (Nat.not_lt_zero k)))
  · intro g h1
    exact k_276_20 (fun _ => w g h1) (fun c => absurd (by decide) c) (fun c => absurd (by decide) c) (fun c => absurd (by decide) c)
  · intro i g hi' h1 ih
    have e4 : (82 : Int32) * nI b + nI i = nI (82 * b + i) := by
      rw [show (82 : Int32) = nI 82 from rfl, pk_mul, nI_add]
    refine k_276_20 (fun c => absurd c (nI_ge (a := i) (b := 81) hi' (by decide))) (fun _ => by rw [e4]; exact vp_in_nI (by omega) (by decide)) (fun _ => vp_in_nI (by omega) (by decide)) (fun _ => ?_)
    rw [e4, nI_clamp (by omega), nI_clamp (by omega), nI_1]
    refine cW.hi u2_in (ih _ (fun k hk => ?_))
    by_cases hki : k = i
    · subst hki
      rw [up1_s]
      rfl
    · rw [up1_n hki]
      exact h1 k (by omega)
theorem op_back (a1 : Int32) : OpI Rel (d + 2) 155 276 [.int a1] := by
  intro hi hl sw kp Q hR k
  obtain ⟨V, st, hk, hs, ha, hx⟩ := hR.sp
  obtain ⟨B, g0, g1, g2⟩ := id hx
  rcases bx_cas a1 with ⟨b, hb, rfl, z1, z2⟩ | ⟨z1, z2⟩
  · have ep : (nI b).toNatClampNeg = b := nI_clamp (by omega)
    have e8 : ((hi 0 8 >>> (nI b &&& 31)) &&& 1) = nI (B / 2 ^ b % 2) := by rw [g1]; exact box_bt B g0 b hb
    obtain ⟨v1, v2⟩ := g2 b hb
    have h2 : B / 2 ^ b % 2 = 0 ∨ B / 2 ^ b % 2 = 1 := by omega
    rcases h2 with h2 | h2
    · rw [h2] at e8 v1
      refine e_155 (fun c => absurd c z1) (fun _ _ => k (-1) hi hl sw kp (fun Q2 k2 => e_276 (fun c => absurd c z2) (fun _ => vp_in_nI hb (by decide)) (fun _ _ => k2 hi hl sw kp hR) (fun _ c => absurd (by rw [ep]; exact v1) c))) (fun _ c => absurd e8 c) (fun _ c => absurd e8 c)
    · have v3 := v2 h2
      obtain ⟨H, s1, s2, s3, -⟩ := id v3
      rw [h2] at e8 v1
      have ne1 : ¬ nI 1 = (0 : Int32) := by decide
      refine e_155 (fun c => absurd c z1) (fun _ c => absurd (e8.symm.trans c) ne1) (fun _ _ => vp_in_nI hb (by decide)) (fun _ _ => ?_)
      rw [ep]
      refine f80 (d := d) stt_28 (stt_b hb) (by omega) (fun hi1 c1 => k_155_35 (e_1 (k_155_42 ?_)))
      have e28 : (u2 (u2 hi1 33 1 0) 33 2 0) 28 1 = nI H := by
        show hi1 28 1 = _
        rw [c1.2.1 1 (by decide)]
        exact s2
      rw [e28]
      have k322 : (u2 (u2 hi1 33 1 0) 33 2 0) 322 = hi 322 := by rw [u2_row_ne (by decide), u2_row_ne (by decide), c1.1 322 (by omega)]
      have k323 : (u2 (u2 hi1 33 1 0) 33 2 0) 323 = hi 323 := by rw [u2_row_ne (by decide), u2_row_ne (by decide), c1.1 323 (by omega)]
      refine k _ _ hl sw kp (fun Q2 k2 => e_276 (fun c => absurd c z2) (fun _ => vp_in_nI hb (by decide)) (fun _ c => absurd c (by rw [k322, ep, v1]; exact ne1)) (fun _ _ => f276 (d := d) hb (fun r h1 => ?_)))
      rw [k323] at h1
      have e17 : r 17 = nI H := by
        rw [h1 17 (by decide)]
        exact s3
      rw [e17]
      have fr : ∀ c, c ≠ 33 → c ≠ 279 → c ≠ 299 → (c < 28 ∨ 32 < c) → (u2 (u2 (uR (u2 (u2 hi1 33 1 0) 33 2 0) 299 r) 279 66 (nI 0)) 279 67 (nI 0)) c = hi c := by
        intro c n1 n2 n3 n4
        rw [u2_row_ne n2, u2_row_ne n2, uR_ne n3, u2_row_ne n1, u2_row_ne n1, c1.1 c (by omega)]
      have eb := fr 23 (by decide) (by decide) (by decide) (by omega)
      have cell : ∀ c, c ≠ 33 → c ≠ 279 → c ≠ 299 → (u2 (u2 (uR (u2 (u2 hi1 33 1 0) 33 2 0) 299 r) 279 66 (nI 0)) 279 67 (nI 0)) c = hi1 c := by
        intro c n1 n2 n3
        rw [u2_row_ne n2, u2_row_ne n2, uR_ne n3, u2_row_ne n1, u2_row_ne n1]
      refine k2 _ hl sw kp (Rel.jn (V := V) (st.fr (fun c j h => ?_) rfl) ⟨hk, ?_, ⟨0, 0, by omega, ?_, ?_, ?_, ?_, fun j hj => absurd hj (Nat.not_lt_zero j), fun j _ hj => absurd hj (Nat.not_lt_zero j), fun q => absurd q (Nat.lt_irrefl 0)⟩, ?_⟩)
      · by_cases hc : c = 279
        · subst hc
          rw [u2_nn (by unfold NS at h; omega), u2_nn (by unfold NS at h; omega), uR_ne (by decide), u2_row_ne (by decide), u2_row_ne (by decide), c1.1 279 (by omega)]
        · rw [fr c (by unfold NS at h; omega) hc (by unfold NS at h; omega) (by unfold NS at h; omega)]
      · refine SR.eq eb (fun j hj => ?_) (fun j hj => ?_) (fun j hj => ?_) (fun j hj => ?_) (fun j hj => ?_) (fun m hm => ?_) v3
        · rw [cell _ (by omega) (by omega) (by omega)]
          exact c1.2.1 j hj
        · rw [cell _ (by omega) (by omega) (by omega)]
          exact c1.2.2.1 j hj
        · rw [cell _ (by omega) (by omega) (by omega)]
          exact c1.2.2.2.1 j hj
        · rw [cell _ (by omega) (by omega) (by omega)]
          exact c1.2.2.2.2.1 j hj
        · rw [cell _ (by omega) (by omega) (by omega)]
          exact c1.2.2.2.2.2 j hj
        · rw [u2_row_ne (by decide), u2_row_ne (by decide), uR_s]
          exact h1 m hm
      · show nI 0 = nI 0
        rfl
      · show nI 0 = nI 0
        rfl
      · rw [u2_nn (by decide), u2_s]
      · rw [u2_s]
      · refine bx_fr eb (fun c h1 h2 => fr c (by omega) (by omega) (by omega) (by omega)) ?_ (fr 322 (by decide) (by decide) (by decide) (by omega)) (fr 323 (by decide) (by decide) (by decide) (by omega)) hx
        rw [fr 0 (by decide) (by decide) (by decide) (by omega)]
  · exact e_155 (fun _ => k (-1) hi hl sw kp (fun Q2 k2 => e_276 (fun _ => k2 hi hl sw kp hR) (fun c => absurd z2 c) (fun c => absurd z2 c) (fun c => absurd z2 c))) (fun c => absurd z1 c) (fun c => absurd z1 c) (fun c => absurd z1 c)
end ACTS2
