/-! ===== operation: hour ===== -/
section HOUROP
variable {d : Nat}
theorem op_hour : OpI Rel (d + 7) 131 227 [] := by
  intro hi hl sw kp Q hR k
  obtain ⟨V, st, hk, hs, ha, hx⟩ := hR.sp
  have hv := st.2.2.2.2.2.1
  have hb8 := hv.1
  obtain ⟨H, bo, hsn⟩ := SN.of hs
  obtain ⟨n1, n2, n3, n4, n5, n6, n7⟩ := id hsn
  have e46 : hi 279 46 = nI (vP V) := hv.2.2.1.2.1
  rcases n7 with ⟨z, z2⟩ | ⟨q, hq, eq⟩
  · have z3 : g_108 hi (hi 28 0) = 0 := by
      rw [z2]
      exact g108_out hv.2.1.2.1 (Or.inl (by decide))
    have z4 : hi 279 46 = 0 := by rw [e46, z]; rfl
    exact e_131 (fun _ => k (-1) hi hl sw kp (fun Q2 k2 => e_227 (fun _ => k2 hi hl sw kp hR) (fun _ _ => k2 hi hl sw kp hR) (fun _ c => absurd z4 c))) (fun c => absurd z3 c) (fun c => absurd z3 c)
  · have z3 : ¬ g_108 hi (hi 28 0) = 0 := by rw [eq, g108_in hv.2.1.2.1 hb8.2.1 hq]; decide
    by_cases h2 : H = 2000
    · have e1 : ¬ hi 28 1 < 2000 := by
        rw [n2, h2]
        decide
      have e2 : hi 299 17 = 2000 := by rw [n3, h2]; rfl
      exact e_131 (fun c => absurd c z3) (fun _ c => absurd c e1) (fun _ _ => k (-1) hi hl sw kp (fun Q2 k2 => e_227 (fun _ => k2 hi hl sw kp hR) (fun c => absurd e2 c) (fun c => absurd e2 c)))
    · have hH : H < 2000 := by omega
      obtain ⟨H', s1, s2, s3, s4, s5, s6, ⟨sd, hsd, esd⟩, s8, s9, s10, s11, s12⟩ := id hs
      have hHH : H' = H := (nI_eq (by omega) (by omega)).mp (s2.symm.trans n2)
      subst hHH
      obtain ⟨a, u, u0, u1, u2', u3, u4, -⟩ := id ha
      refine e_131 (fun c => absurd c z3) (fun _ _ => f2 (d := d + 4) hk (by omega) u1 (fun hi1 kp' a' hk' ha' hr ck e1 e2 => k_131_43 ?_)) (fun _ c => absurd (by rw [n2]; exact nI_lt (b := 2000) hH (by decide)) c)
      have hka := hk'.1 a' (by omega)
      obtain ⟨g1, eg1⟩ : ∃ g1, g1 = (sd * 137 + 71) % 1000 := ⟨_, rfl⟩
      have hg1 : g1 < 1000 := by rw [eg1]; exact Nat.mod_lt _ (by decide)
      have c28 : hi1 28 = hi 28 := ck.1 28 (by decide) (by omega)
      have es : (hi1 28 2 * 137 + 71) - (hi1 28 2 * 137 + 71) / 1000 * 1000 = nI g1 := by
        rw [c28, show hi 28 2 = nI sd from esd, show (137 : Int32) = nI 137 from rfl, pk_mul, show (71 : Int32) = nI 71 from rfl, nI_add, eg1]
        exact pk_rem (d := 1000) (by omega) (by decide) (by decide)
      have es2 : nI g1 - nI g1 / 60 * 60 = nI (g1 % 60) := pk_rem (d := 60) (by omega) (by decide) (by decide)
      rw [es]
      obtain ⟨hi2, ei2⟩ : ∃ X, X = u2 hi1 28 2 (nI g1) := ⟨_, rfl⟩
      rw [← ei2]
      have fr2 : ∀ c j, c ≠ 33 → ¬ (c = 28 ∧ j = 2) → (c < 35 + 5 * kp' a' ∨ 35 + 5 * kp' a' + 4 < c) → hi2 c j = hi c j := by
        intro c j h1 h2 h3
        rw [ei2, u2_nn (by omega), ck.1 c h1 h3]
      have st2 : Rst V hi2 hl := st.fr (fun c j h => by
        unfold NS at h
        exact fr2 c j (by omega) (by omega) (by omega)) rfl
      have hv2 := st2.2.2.2.2.2.1
      have d280 : hi2 28 0 = nI q := by rw [fr2 28 0 (by decide) (by omega) (by omega)]; exact eq
      have d281 : hi2 28 1 = nI H' := by rw [fr2 28 1 (by decide) (by omega) (by omega)]; exact n2
      have d282 : hi2 28 2 = nI g1 := by rw [ei2, u2_s]
      have hsn2 : SN V hi2 H' bo := by
        refine ⟨n1, d281, ?_, ?_, fun t ht => ⟨(n5 t ht).1, ?_, ?_⟩, ?_, Or.inr ⟨q, hq, d280⟩⟩
        · rw [fr2 299 17 (by decide) (by omega) (by omega)]; exact n3
        · rw [fr2 299 18 (by decide) (by omega) (by omega)]; exact n4
        · rw [fr2 29 t (by decide) (by omega) (by omega)]; exact (n5 t ht).2.1
        · rw [fr2 299 t (by decide) (by omega) (by omega)]; exact (n5 t ht).2.2
        · rw [fr2 299 16 (by decide) (by omega) (by omega), d280]; exact n6.trans eq
      obtain ⟨d1, d2⟩ := dogB (hi := hi2) (show q < 8 by omega) d280
      rw [d1]
      refine cS.hi cx_id.symm (f37 (d := d) (N := 1) hv2 st2.2.2.2.2.2.2 hsn2 d2 (by decide) (fun s' m' p' v hm' hcw => k_131_83 ?_))
      have x280 : (cx hi2 s' (hi2 256) m' p' v (hi2 260)) 28 0 = nI q := d280
      have x282 : (cx hi2 s' (hi2 256) m' p' v (hi2 260)) 28 2 = nI g1 := d282
      have x281 : (cx hi2 s' (hi2 256) m' p' v (hi2 260)) 28 1 = nI H' := d281
      rw [x280, x282, es2]
      refine f44 (d := d + 3) hv2 hq (Nat.mod_lt _ (by decide)) hcw (dogN (by omega)) (fun t ht hG => k_131_115 ?_)
      obtain ⟨hi3, ei3⟩ : ∃ X, X = cx hi2 s' (hi2 256) m' p' v (hi2 260) := ⟨_, rfl⟩
      rw [← ei3] at x281 x282 ⊢
      have fr3 : ∀ c j, c ≠ 27 → (c < 256 ∨ 260 < c) → hi3 c j = hi2 c j := by
        intro c j h1 h2
        rw [ei3]
        show uR (uR (uR (uR (uR (uR hi2 27 s') 256 _) 257 m') 258 p') 259 v) 260 _ c j = _
        rw [uR_ne (by omega), uR_ne (by omega), uR_ne (by omega), uR_ne (by omega), uR_ne (by omega), uR_ne (by omega)]
      have st3 : Rst V hi3 hl := st2.fr (fun c j h => by
        unfold NS at h
        exact fr3 c j (by omega) (by omega)) rfl
      refine f81 (d := d + 2) st3 ht x281 (by omega) (fun hi4 b1 b2 b3 b4 b5 b6 b7 b8 => k_131_118 ?_)
      rw [b2]
      have fr4 : ∀ c j, ¬ (28 ≤ c ∧ c ≤ 33) → c ≠ 27 → (c < 256 ∨ 260 < c) → (c < 35 + 5 * kp' a' ∨ 35 + 5 * kp' a' + 4 < c) → hi4 c j = hi c j := by
        intro c j h1 h2 h3 h4
        rw [b1 c j (by omega), fr3 c j h2 h3, fr2 c j (by omega) (by omega) h4]
      have st4 : Rst V hi4 hl := st.fr (fun c j h => by
        unfold NS at h
        exact fr4 c j (by omega) (by omega) (by omega) (by omega)) rfl
      have k299 : hi4 299 = hi 299 := funext (fun j => fr4 299 j (by omega) (by decide) (by omega) (by omega))
      have k303 : hi4 303 = hi 303 := funext (fun j => fr4 303 j (by omega) (by decide) (by omega) (by omega))
      refine k (nI t) hi4 hl sw kp' (fun Q2 k2 => f227 (d := d + 1) (a := a) (sd := sd) (bo := bo) st4 hq hH (by omega) (by rw [fr4 279 66 (by omega) (by decide) (by omega) (by omega)]; exact u3) (by rw [k299]; exact n6.trans eq) (by rw [k299]; exact n3) (by rw [k299]; exact n4) (by rw [k299]; exact s6.trans esd) hsd (by rw [k299]; exact s11) (fun t ht => by rw [k299]; exact (n5 t ht).2.2) (fun c hc => by
        obtain ⟨-, w2, w3, -⟩ := s10 c hc
        rw [k299, w2]
        exact w3) (fun t2 a2 hi5 ht2 hG2 ha2 hr2 c1 c2 c3 c4 fr5 rw5 => ?_))
      have hqp : qp V hi4 bo H' 0 q = qp V hi2 bo H' 0 q := qp_fr (fun c j h => by
        unfold NS at h
        rw [b1 c j (by omega), fr3 c j (by omega) (by omega)])
      rw [hqp, ← eg1] at hG2
      have htt : t2 = t := GG_u hG2 hG
      subst htt
      have haa : a2 = a' := by omega
      subst haa
      have fr6 : ∀ c, UR c 0 → c ≠ 279 → ¬ (28 ≤ c ∧ c ≤ 33) → c ≠ 27 → (c < 256 ∨ 260 < c) → (c < 35 + 5 * kp' a2 ∨ 35 + 5 * kp' a2 + 4 < c) → hi5 c = hi c := fun c h1 h0 h2 h3 h4 h5 => funext (fun j => by
        rw [fr5 c j (by unfold UR at h1 ⊢; omega), fr4 c j h2 h3 h4 h5])
      have row : ∀ c, 35 ≤ c → c < 256 → hi5 c = hi1 c := fun c h1 h2 => funext (fun j => by
        rw [fr5 c j (by unfold UR; omega), b1 c j (by omega), fr3 c j (by omega) (by omega), ei2, u2_row_ne (by omega)])
      have r33 : ∀ j, hi5 33 j = hi1 33 j := fun j => by
        rw [fr5 33 j (by unfold UR; omega), b1 33 j (by omega), fr3 33 j (by omega) (by omega), ei2, u2_row_ne (by omega)]
      have e23 : hi5 23 = hi 23 := fr6 23 (by unfold UR; omega) (by decide) (by omega) (by decide) (by omega) (by omega)
      have h21 : hi4 21 = hi 21 := funext (fun j => fr4 21 j (by omega) (by decide) (by omega) (by omega))
      have h24 : hi4 24 = hi 24 := funext (fun j => fr4 24 j (by omega) (by decide) (by omega) (by omega))
      have h23 : hi4 23 = hi 23 := funext (fun j => fr4 23 j (by omega) (by decide) (by omega) (by omega))
      have g21 : hi3 21 = hi 21 := funext (fun j => by rw [fr3 21 j (by decide) (by omega), fr2 21 j (by decide) (by omega) (by omega)])
      have g24 : hi3 24 = hi 24 := funext (fun j => by rw [fr3 24 j (by decide) (by omega), fr2 24 j (by decide) (by omega) (by omega)])
      have g23 : hi3 23 = hi 23 := funext (fun j => by rw [fr3 23 j (by decide) (by omega), fr2 23 j (by decide) (by omega) (by omega)])
      have g29 : ∀ j, hi3 29 j = hi 29 j := fun j => by rw [fr3 29 j (by decide) (by omega), fr2 29 j (by decide) (by omega) (by omega)]
      have g30 : ∀ j, hi3 30 j = hi 30 j := fun j => by rw [fr3 30 j (by decide) (by omega), fr2 30 j (by decide) (by omega) (by omega)]
      have g31 : ∀ j, hi3 31 j = hi 31 j := fun j => by rw [fr3 31 j (by decide) (by omega), fr2 31 j (by decide) (by omega) (by omega)]
      have g32 : ∀ j, hi3 32 j = hi 32 j := fun j => by rw [fr3 32 j (by decide) (by omega), fr2 32 j (by decide) (by omega) (by omega)]
      have cn3 : ∀ c, cnA hi3 c t2 = cnA hi c t2 := fun c => by
        unfold cnA
        rw [g21, g24]
      have n5' : ∀ c j, 28 ≤ c → c ≤ 32 → hi5 c j = hi4 c j := fun c j h1 h2 => fr5 c j (by unfold UR; omega)
      have rw6 : RW V hi H' t2 sd bo (hi5 299) (hi 299) := by
        rw [← k299]
        unfold RW cnA at rw5 ⊢
        rw [h21, h24, h23] at rw5
        exact rw5
      refine k2 hi5 hl sw kp' (Rel.jn (V := V) (st.fr (fun c j h => ?_) rfl) ⟨hk', ?_, ?_, ?_⟩)
      · unfold NS at h
        rw [fr5 c j (by unfold UR; omega), fr4 c j (by omega) (by omega) (by omega) (by omega)]
      · refine sr_hour (X := hi) (H := H') (t := t2) (sd := sd) (bo := bo) hv hs n2 hH ht e23 ?_ ?_ ?_ (fun j hj => ?_) (fun c hc => ?_) (fun c hc => ?_) (fun j => ?_) rw6 (fun t ht => ⟨(n5 t ht).1, (n5 t ht).2.1⟩)
        · rw [n5' 28 0 (by decide) (by decide)]; exact b2
        · rw [n5' 28 1 (by decide) (by decide)]; exact b3
        · rw [n5' 28 2 (by decide) (by decide), b4, x282, eg1]
        · rw [n5' 29 j (by decide) (by decide), b5 j hj, g29]
        · rw [n5' 30 c (by decide) (by decide), b6 c hc, g30, g31, cn3]
        · rw [n5' 31 c (by decide) (by decide), b7 c hc, g30, g31, cn3, g23]
        · rw [n5' 32 j (by decide) (by decide), b8 j, g32]
      · refine acts_keep (hi := hi) hk ha u1 (by omega) hs hk' ha' hr (fun c h1 h2 h3 => by rw [row c h1 (by omega), ck.1 c (by omega) h3]) (fun j hj => ?_) (fun j hj => ?_) (fun j hj => ?_) (fun j hj => ?_) (fun j hj => ?_) e23 ?_ ?_ c3 c4 (fun m hm => ?_) (fun j m hj hm => ?_)
        · rw [row _ (by omega) (by omega)]; exact ck.2.1 j hj
        · rw [row _ (by omega) (by omega)]; exact ck.2.2.1 j hj
        · rw [row _ (by omega) (by omega)]; exact ck.2.2.2.1 j hj
        · rw [row _ (by omega) (by omega)]; exact ck.2.2.2.2.1 j hj
        · rw [row _ (by omega) (by omega)]; exact ck.2.2.2.2.2 j hj
        · rw [r33]; exact e1
        · rw [r33]; exact e2
        · rw [c1 m hm, k299]
        · rw [c2 j m hj hm, k303]
      · exact bx_fr e23 (fun c h1 h2 => by rw [row c (by omega) h2, ck.1 c (by omega) (by omega)]) (congrFun (fr6 0 (by unfold UR; omega) (by decide) (by omega) (by decide) (by omega) (by omega)) 8) (fr6 322 (by unfold UR; omega) (by decide) (by omega) (by decide) (by omega) (by omega)) (fr6 323 (by unfold UR; omega) (by decide) (by omega) (by decide) (by omega) (by omega)) hx
end HOUROP
