/-! ===== operation: byTurns, both ===== -/
section TURNX
variable {d : Nat} {Q : am_Q} {X hi : Nat → Nat → Int32} {hl hl0 : Nat → Nat → Int64} {sw : Bool} {kp : Nat → Nat} {V : vN} {c n M B H D0 : Nat} {bo : Nat → Nat} {W : Nat → Nat → Nat}
theorem ist_no {P p : Nat} (hp : p < P) (h : bo p = 9) : ∀ j, ist W bo P p j = none
  | 0 => rfl
  | j + 1 => by
    have hno : ¬ oks bo P (prq p j) = true := fun z => by
      have h1 := (oks_iff P).mp z p hp
      unfold prq at h1
      rw [if_pos (rfl : p = p)] at h1
      omega
    show (if oks bo P (prq p j) = true then _ else ist W bo P p j) = none
    rw [if_neg hno]
    exact ist_no hp h j
theorem lgn {v : Nat} (h : v < 2 ^ 63) : lg_cmp (-1) (lN v) = -1 := by
  have h1 : (-1 : Int64) < lN v := by
    rw [Int64.lt_iff_toInt_lt, pk_lT h]
    show (-1 : Int) < v
    omega
  unfold lg_cmp
  rw [if_neg (show ¬ ((-1 : Int64) > lN v) from fun z => by
    have := Int64.lt_iff_toInt_lt.mp h1
    have := Int64.lt_iff_toInt_lt.mp (show lN v < -1 from z)
    omega), if_neg (fun z => by rw [← z] at h1; exact absurd h1 (by decide))]
theorem ov_n {P : Nat} {j : Nat} (hW : ∀ p q, W p q < 2 ^ 62) : ¬ 0 < lg_cmp (-1) (ov (ost W bo P j)) := by
  cases ho : ost W bo P j with
  | none => exact (by decide : ¬ 0 < lg_cmp (-1) (-1))
  | some w =>
    obtain ⟨g, a, b⟩ := w
    have hg := ost_b (bo := bo) (P := P) hW j g a b ho
    show ¬ 0 < lg_cmp (-1) (lN g)
    rw [lgn (by omega)]
    decide
theorem f257 {x3 : Int32} (eW : W = fun p q => wp V X (fun t => bo t + prq p q t) H c n D0) (hre : RE V X c H D0 bo) (hc : c < vC V) (hn : n ≤ 8)
    (w' : ∀ (z : Int32) (r : Nat → Int32) (h a : Int32) (bn g f r2 w : Nat → Int32) (x y : Nat → Int64), Q (some (.int (if x3 = 0 then of1 (ost W bo (vP V) (vP V)) else of2 (ost W bo (vP V) (vP V))))) (mkH (rx (ry X z r) h a bn g f r2 w) (lz2 hl x y) sw kp)) : cW cd_257 (d + 9) Q 43 [some (.ref 279), some (.int (nI c)), some (.int (nI n)), some (.int x3), some (.int (-1)), some (.int (-1)), some (.long (-1)), none, some (.int 0), none, none] [] (mkH X hl sw kp) := by
  obtain ⟨hv, hpu, hsn, hcs, hx⟩ := id hre
  have hb8 := hv.1
  have hDw : D0 < vP V ∨ vP V = 0 := by
    rcases hx with ⟨h, -⟩ | ⟨h, -⟩
    · exact Or.inl h
    · exact Or.inr h
  obtain ⟨n1, n2, n3, n4, n5, n6, n7⟩ := id hsn
  have hW : ∀ p q, W p q < 2 ^ 62 := fun p q => by
    rw [eW]
    exact wp_2 hn hDw
  have e46 : ∀ z r h a bn g f r2 w, (rx (ry X z r) h a bn g f r2 w) 279 46 = nI (vP V) := fun z r h a bn g f r2 w => hv.2.2.1.2.1
  refine cW.hi (hi := ry X (X 279 76) (X 308)) ry_id.symm (cW.hi rx_id.symm (cW.hl lz_id.symm ?_))
  refine lpu (σ := Int32 × (Nat → Int32) × Int32 × Int32 × (Nat → Int32) × (Nat → Int32) × (Nat → Int32) × (Nat → Int32) × (Nat → Int32) × (Nat → Int64) × (Nat → Int64)) (vP V) (fun j s => ∀ o9 : Option Value, cW cd_257 (d + 9) Q 43 [some (.ref 279), some (.int (nI c)), some (.int (nI n)), some (.int x3), some (.int (of1 (ost W bo (vP V) j))), some (.int (of2 (ost W bo (vP V) j))), some (.long (ov (ost W bo (vP V) j))), none, some (.int (nI j)), o9, none] [] (mkH (rx (ry X s.1 s.2.1) s.2.2.1 s.2.2.2.1 s.2.2.2.2.1 s.2.2.2.2.2.1 s.2.2.2.2.2.2.1 s.2.2.2.2.2.2.2.1 s.2.2.2.2.2.2.2.2.1) (lz2 hl s.2.2.2.2.2.2.2.2.2.1 s.2.2.2.2.2.2.2.2.2.2) sw kp)) (fun _ _ => True) ?_ ?_ (vP V) 0 (X 279 76, X 308, _, _, _, _, _, _, _, hl 306, hl 307) (Nat.zero_add _) trivial none
  · intro s _ o9
    have hle : (rx (ry X s.1 s.2.1) s.2.2.1 s.2.2.2.1 s.2.2.2.2.1 s.2.2.2.2.2.1 s.2.2.2.2.2.2.1 s.2.2.2.2.2.2.2.1 s.2.2.2.2.2.2.2.2.1) 279 46 ≤ nI (vP V) := by rw [e46]; exact Int32.le_refl _
    have w2 := w' s.1 s.2.1 s.2.2.1 s.2.2.2.1 s.2.2.2.2.1 s.2.2.2.2.2.1 s.2.2.2.2.2.2.1 s.2.2.2.2.2.2.2.1 s.2.2.2.2.2.2.2.2.1 s.2.2.2.2.2.2.2.2.2.1 s.2.2.2.2.2.2.2.2.2.2
    refine k_257_43 (fun _ c0 => ?_) (fun _ c0 => ?_) (fun c => absurd hle c) (fun c => absurd hle c) (fun c => absurd hle c) (fun c => absurd hle c)
    · rw [if_pos c0] at w2; exact w2
    · rw [if_neg c0] at w2; exact w2
  · intro j s hj _ ih o9
    obtain ⟨z, r, h, a, bn, g, f, r2, w, x, y⟩ := s
    have e0 : (0 : Int32) + nI j = nI j := Int32.zero_add _
    have ej : (nI j).toNatClampNeg = j := nI_clamp (by omega)
    have e9 : (rx (ry X z r) h a bn g f r2 w) 299 ((0 : Int32) + nI j).toNatClampNeg = nI (bo j) := by
      rw [e0, ej, rx_r299, ry_o (by decide) (by omega)]
      exact (n5 j (by omega)).2.2
    have hbj := (n5 j (by omega)).1
    have eo : ost W bo (vP V) (j + 1) = match ist W bo (vP V) j (vP V) with | none => ost W bo (vP V) j | some (v, q) => match ost W bo (vP V) j with | none => some (v, j, q) | some (g, a, b) => if g < v then some (v, j, q) else some (g, a, b) := rfl
    refine k_257_43 (fun c => absurd c (by rw [e46]; exact nI_ge hj (by omega))) (fun c => absurd c (by rw [e46]; exact nI_ge hj (by omega))) (fun _ => by rw [e0]; exact vp_in_nI (by omega) (by decide)) (fun _ _ c => absurd c (ov_n hW)) (fun _ c _ => ?_) (fun _ c => ?_)
    · rw [e9] at c
      have h9 : bo j = 9 := by
        have : 9 ≤ bo j := (nI_leI (a := 9) (by decide) (by omega)).mp c
        omega
      rw [ist_no hj h9] at eo
      have eo2 : ost W bo (vP V) (j + 1) = ost W bo (vP V) j := eo
      have := ih (z, r, h, a, bn, g, f, r2, w, x, y) trivial (some (.long (-1)))
      rw [eo2] at this
      rw [nI_1]
      exact this
    · refine f256 (d := d) (W := W) (bo := bo) (H := H) (D0 := D0) eW hre hc hn hj (fun r h a bn g f r2 w x y => ?_) z r h a bn g f r2 w x y
      have e76 : (rx (ry X (iq (ist W bo (vP V) j (vP V))) r) h a bn g f r2 w) 279 76 = iq (ist W bo (vP V) j (vP V)) := by
        rw [rx_UR (by unfold UR; omega)]
        show uR (u2 X 279 76 _) 308 r 279 76 = _
        rw [uR_ne (by decide), u2_s]
      refine k_257_74 ?_ ?_
      · rw [e76]
        intro cc
        cases hs : ist W bo (vP V) j (vP V) with
        | none =>
          rw [hs] at cc
          exact absurd cc (ov_n hW)
        | some q0 =>
          obtain ⟨v, q⟩ := q0
          have hv0 := (ist_b (hW j) (vP V) v q hs).1
          rw [hs] at cc eo
          have eo2 : ost W bo (vP V) (j + 1) = some (v, j, q) := by
            cases ho : ost W bo (vP V) j with
            | none => rw [eo, ho]
            | some w0 =>
              obtain ⟨g0, a0, b0⟩ := w0
              have hg := ost_b (bo := bo) (P := vP V) hW j g0 a0 b0 ho
              rw [ho] at cc eo
              have h1 : ¬ v ≤ g0 := fun z => absurd ((lgc (by omega) (by omega)).mpr z) (Int32.not_le.mpr cc)
              rw [eo]
              exact if_pos (by omega)
          have := ih (nI q, r, h, a, bn, g, f, r2, w, x, y) trivial (some (.long (lN v)))
          rw [eo2] at this
          rw [nI_1]
          exact this
      · intro cc
        have eo2 : ost W bo (vP V) (j + 1) = ost W bo (vP V) j := by
          cases hs : ist W bo (vP V) j (vP V) with
          | none => rw [eo, hs]
          | some q0 =>
            obtain ⟨v, q⟩ := q0
            have hv0 := (ist_b (hW j) (vP V) v q hs).1
            rw [hs] at cc eo
            cases ho : ost W bo (vP V) j with
            | none =>
              rw [ho] at cc
              exact absurd (Int32.not_le.mp (lgm (a := v) (by omega))) cc
            | some w0 =>
              obtain ⟨g0, a0, b0⟩ := w0
              have hg := ost_b (bo := bo) (P := vP V) hW j g0 a0 b0 ho
              rw [ho] at cc eo
              have h1 : v ≤ g0 := (lgc (by omega) (by omega)).mp (Int32.not_lt.mp cc)
              rw [eo]
              exact if_neg (by omega)
        have := ih (iq (ist W bo (vP V) j (vP V)), r, h, a, bn, g, f, r2, w, x, y) trivial (some (.long (iv (ist W bo (vP V) j (vP V)))))
        rw [eo2] at this
        rw [nI_1]
        exact this
theorem op_turns (a1 a2 a3 : Int32) : OpI Rel (d + 10) 142 257 [.int a1, .int a2, .int a3] := by
  intro hi hl sw kp Q hR k
  obtain ⟨V, st, hk, hs, ha, hx⟩ := hR.sp
  have hv := st.2.2.2.2.2.1
  have hpu := st.2.2.2.2.2.2
  have hb8 := hv.1
  by_cases cA : g_109 hi a1 = 0
  · have cA' : g_209 hi a1 = 0 := (cas_eq hv a1).trans cA
    exact e_142 (fun _ => k (-1) _ hl sw kp (fun Q2 k2 => e_257 (fun _ => k2 _ hl sw kp hR) (fun c => absurd cA' c) (fun c => absurd cA' c) (fun c => absurd cA' c))) (fun c => absurd cA c) (fun c => absurd cA c) (fun c => absurd cA c)
  · have cA' : ¬ g_209 hi a1 = 0 := fun z => cA ((cas_eq hv a1).symm.trans z)
    by_cases cB : g_158 a2 (1 : Int32) (6 : Int32) = 0
    · exact e_142 (fun c => absurd c cA) (fun _ _ => k (-1) _ hl sw kp (fun Q2 k2 => e_257 (fun c => absurd c cA') (fun _ _ => k2 _ hl sw kp hR) (fun _ c => absurd cB c) (fun _ c => absurd cB c))) (fun _ c => absurd cB c) (fun _ c => absurd cB c)
    · by_cases cC : g_158 a3 (0 : Int32) (1 : Int32) = 0
      · exact e_142 (fun c => absurd c cA) (fun _ c => absurd c cB) (fun _ _ _ => k (-1) _ hl sw kp (fun Q2 k2 => e_257 (fun c => absurd c cA') (fun _ c => absurd c cB) (fun _ _ _ => k2 _ hl sw kp hR) (fun _ _ c => absurd cC c))) (fun _ _ c => absurd cC c)
      · rcases cas hv a1 with ⟨c, hc, rfl, q1, q2⟩ | ⟨-, q1, -⟩
        · obtain ⟨n, hn1, hn6, rfl⟩ := rgN (a := 1) (b := 6) (by decide) (by decide) cB
          obtain ⟨H, bo, hsn⟩ := SN.of hs
          obtain ⟨n1, n2, n3, n4, n5, n6, n7⟩ := id hsn
          obtain ⟨D0, B, hdg, d1, d2⟩ := DG.of hv hsn
          have hcs := CSE.of hv hs hc
          have hx3 : (D0 < vP V ∧ hi 299 16 = nI D0) ∨ (vP V = 0 ∧ hi 299 16 = -1 ∧ D0 = 8) := by
            rcases hdg with ⟨h1, h2, -⟩ | ⟨h1, h2, h3, -⟩
            · exact Or.inl ⟨h1, n6.trans h2⟩
            · exact Or.inr ⟨h1, n6.trans h2, h3⟩
          have hre : RE V hi c H D0 bo := ⟨hv, hpu, hsn, hcs, hx3⟩
          refine e_142 (fun c => absurd c cA) (fun _ c => absurd c cB) (fun _ _ c => absurd c cC) (fun _ _ _ => ?_)
          refine f16 (d := d + 3) (V := V) (X := hi) (M := 2) (B := B) (H := H) (bo := bo) hv hpu hsn hc (by omega) (by decide) d1 d2 (fun X1 hi1 fr1 li1 _ => k_142_42 ?_)
          have lx0 : LX V hi c n 2 B H D0 bo := ⟨hv, hsn, hc, hcs, by omega, by decide, hdg, d1, d2⟩
          have lx1 := lx0.fr fr1
          refine f21 (d := d + 1) (hl0 := hl) (W := fun p q => wp V X1 (fun t => bo t + prq p q t) H c n D0) rfl lx1 li1 (fun _ _ _ _ => rfl) (fun hi2 hl2 sw2 li2 ll2 y5 y6 => ?_)
          have fr2 := LI.fr2 fr1 li2
          have l4 : hl2 4 = hl 4 := ll2 4 (by decide) (by decide) (by decide)
          have re2 : RE V hi2 c H D0 bo := hre.fr (fun a j h1 _ _ _ => fr2 a j h1)
          have eW2 : (fun p q => wp V X1 (fun t => bo t + prq p q t) H c n D0) = (fun p q => wp V hi2 (fun t => bo t + prq p q t) H c n D0) := by
            funext p q
            refine wp_fr (fun a j z => ?_)
            rw [fr1 a j (by unfold NQ at z; omega), fr2 a j (by unfold NQ at z; unfold LFr; omega)]
          have cA2 : ¬ g_209 hi2 (nI c) = 0 := by
            have : g_209 hi2 (nI c) = g_209 hi (nI c) := by
              unfold g_209
              rw [fr2 279 48 (by unfold LFr; omega)]
            rw [this]
            exact cA'
          have go : ∀ ans : Int32, ans = (if a3 = 0 then of1 (ost (fun p q => wp V X1 (fun t => bo t + prq p q t) H c n D0) bo (vP V) (vP V)) else of2 (ost (fun p q => wp V X1 (fun t => bo t + prq p q t) H c n D0) bo (vP V) (vP V))) → Q (some (.int ans)) (mkH hi2 hl2 sw2 kp) := by
            intro ans ea
            refine k ans hi2 hl2 sw2 kp (fun Q2 k2 => e_257 (fun c => absurd c cA2) (fun _ c => absurd c cB) (fun _ _ c => absurd c cC) (fun _ _ _ => f257 (d := d) (X := hi2) (H := H) (D0 := D0) (bo := bo) (W := fun p q => wp V X1 (fun t => bo t + prq p q t) H c n D0) eW2 re2 hc (by omega) (fun z r h a bn g f r2 w x y => ?_)))
            rw [← ea]
            refine k2 _ _ sw2 kp (hR.fr (fun p q z1 => ?_) l4)
            rw [rx_fr p q z1, ry_o (by unfold NS ND at z1; omega) (by unfold NS ND at z1; omega)]
            exact fr2 p q (by unfold NS ND at z1; unfold LFr; omega)
          refine k_142_49 (fun c0 => ?_) (fun c0 => ?_)
          · rw [y5]
            exact go _ (by rw [if_pos c0])
          · rw [y6]
            exact go _ (by rw [if_neg c0])
        · exact absurd q1 cA
end TURNX
