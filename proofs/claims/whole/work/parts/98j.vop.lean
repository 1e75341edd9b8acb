/-! ===== village ===== -/
section VOP
theorem fdl_deps {P : List (Nat × Nat)} {st ar : Nat → Int32} (h : ∀ j x, P[j]? = some x → st j = nI x.1 ∧ ar j = nI x.2) : ∀ m, m ≤ P.length → f_deps st ar m = fdl (P.take m)
  | 0, _ => by
    rw [List.take_zero]
    rfl
  | m + 1, hm => by
    have ih := fdl_deps h m (by omega)
    obtain ⟨x, hx⟩ : ∃ x, P[m]? = some x := ⟨P[m], List.getElem?_eq_getElem (by omega)⟩
    have hs := h m x hx
    have ht : P.take (m + 1) = P.take m ++ [x] := by
      rw [List.take_succ, hx]
      rfl
    rw [ht, fdl_ap, ← ih]
    show (match f_deps st ar m with
      | some k => f_dep (st m) (ar m) k
      | none => none) = fds (f_deps st ar m) x
    rw [hs.1, hs.2]
    rfl
theorem op_village {d : Nat} : OpI Rel (d + 57) 125 205 [] := by
  intro hi hl sw kp Q hR k
  obtain ⟨⟨n, n1, n2, n3, n4⟩, r2, r3, r4, r5, r6, r7⟩ := id hR
  have hb : ∀ j, j < n → ¬ hi 280 j < 0 := fun j hj => by
    obtain ⟨m, m1, m2⟩ := an255 (hi 2 j)
    rw [← n4 j hj, m2]
    exact nI_pos (by omega)
  refine f125 (d := d) (n := n) (f := hi 280) ⟨n1, n2, n4⟩ r5 (fun kk e hi1 hl1 t1 z7 z8 cf => ?_) (fun kk D x hi1 hl1 t1 hA cv fr f9 fl => ?_)
  · refine k (-1) (u2 hi1 1 1 0) hl1 sw kp (fun Q2 k2 => ?_)
    have h280 : (u2 hi1 1 1 0) 280 = hi 280 := by rw [u2_row_ne (by decide)]; exact cf.1 280 (by decide)
    refine e_205 (d := d + 56) (f204 (d := d + 48) (n := n) (k := kk) (o := .inl e) n1 (by rw [u2_nn (by decide), cf.1 279 (by decide)]; exact n3) (by rw [h280]; exact hb) (by rw [h280]; exact t1) (fun hi2 hl2 ro rf => ?_))
    rcases ro with ⟨e', ee, hF⟩ | ⟨q, ee, _⟩
    · cases ee
      refine k_205_4 (fun z => absurd z hF.le) (fun _ => k2 hi2 hl2 sw kp ?_)
      have G : ∀ c j, ¬ (3 ≤ c ∧ c ≤ 14) → c ≠ 1 → ¬ NRc c j → ¬ (c = 279 ∧ j = 1) → hi2 c j = hi c j := fun c j a1 a2 a3 a4 => by
        rw [rf.1 c j a3, u2_nn a4, u2_row_ne a2, cf.1 c a1]
      have Gr : ∀ c, ¬ (3 ≤ c ∧ c ≤ 14) → c ≠ 1 → c ≠ 279 → ¬ (c = 282 ∨ c = 283 ∨ c = 286 ∨ (289 ≤ c ∧ c ≤ 293)) → hi2 c = hi c := fun c a1 a2 a3 a4 => by
        funext j
        exact G c j a1 a2 (by omega) (by omega)
      have Gc : ∀ c, 3 ≤ c → c ≤ 14 → hi2 c = hi1 c := fun c a1 a2 => by
        funext j
        rw [rf.1 c j (by omega), u2_nn (by omega), u2_row_ne (by omega)]
      refine ⟨⟨0, by decide, ?_, ?_, fun j hj => absurd hj (Nat.not_lt_zero j)⟩, ⟨?_, ?_⟩, ?_, ?_, ?_, r6, ?_⟩
      · rw [rf.1 1 1 (by omega), u2_nn (by decide), u2_s]; rfl
      · rw [rf.1 279 1 (by omega), u2_s]; rfl
      · rw [Gc 3 (by decide) (by decide), z7, hF.1]
      · rw [Gc 3 (by decide) (by decide), z8, hF.2.1]
      · obtain ⟨m, m1, m2, m3, m4⟩ := r3
        refine ⟨m, m1, ?_, ?_, fun j hj => ?_⟩
        · rw [G 0 13 (by decide) (by decide) (by omega) (by decide)]; exact m2
        · rw [G 279 75 (by decide) (by decide) (by omega) (by decide)]; exact m3
        · rw [Gr 278 (by decide) (by decide) (by decide) (by decide), Gr 310 (by decide) (by decide) (by decide) (by decide)]; exact m4 j hj
      · obtain ⟨m, t, m1, m2, m3, m4, m5, m6, m7⟩ := r4
        refine ⟨m, t, m1, m2, ?_, ?_, ?_, ?_, fun j hj => ?_⟩
        · rw [G 266 8 (by decide) (by decide) (by omega) (by decide)]; exact m3
        · rw [G 279 86 (by decide) (by decide) (by omega) (by decide)]; exact m4
        · rw [G 266 9 (by decide) (by decide) (by omega) (by decide)]; exact m5
        · rw [G 279 87 (by decide) (by decide) (by omega) (by decide)]; exact m6
        · have := m7 j hj
          unfold R_cnt at this ⊢
          rw [Gr 267 (by decide) (by decide) (by decide) (by decide), Gr 268 (by decide) (by decide) (by decide) (by decide), Gr 269 (by decide) (by decide) (by decide) (by decide), Gr 270 (by decide) (by decide) (by decide) (by decide), Gr 271 (by decide) (by decide) (by decide) (by decide), Gr 272 (by decide) (by decide) (by decide) (by decide), Gr 273 (by decide) (by decide) (by decide) (by decide), Gr 274 (by decide) (by decide) (by decide) (by decide), Gr 312 (by decide) (by decide) (by decide) (by decide), Gr 313 (by decide) (by decide) (by decide) (by decide), Gr 314 (by decide) (by decide) (by decide) (by decide), Gr 315 (by decide) (by decide) (by decide) (by decide), Gr 316 (by decide) (by decide) (by decide) (by decide), Gr 317 (by decide) (by decide) (by decide) (by decide), Gr 318 (by decide) (by decide) (by decide) (by decide), Gr 319 (by decide) (by decide) (by decide) (by decide), Gr 19 (by decide) (by decide) (by decide) (by decide)]
          exact this
      · intro j hj
        rw [rf.2 4 (by decide) (by decide), cf.2 4 (by decide) (by decide)]
        exact r5 j hj
      · refine R_big.fr (fun c a1 a2 => Gr c (by omega) (by omega) (by omega) (by omega)) r6 (fun V h => h.fw (fun c j q => ?_)) (fun h => h.fw (fun c j q => ?_)) (fun V h => ?_) (Gr 23 (by decide) (by decide) (by decide) (by decide)) (Gr 33 (by decide) (by decide) (by decide) (by decide)) (G 279 66 (by decide) (by decide) (by omega) (by decide)) (G 279 67 (by decide) (by decide) (by omega) (by decide)) (Gr 303 (by decide) (by decide) (by decide) (by decide)) (G 0 8 (by decide) (by decide) (by omega) (by decide)) (Gr 322 (by decide) (by decide) (by decide) (by decide)) (Gr 323 (by decide) (by decide) (by decide) (by decide)) (Gr 299 (by decide) (by decide) (by decide) (by decide)) r7
        · have q2 : (19 ≤ c ∧ c ≤ 24) ∨ (294 ≤ c ∧ c ≤ 298) ∨ (c = 279 ∧ 45 ≤ j ∧ j ≤ 51) := q
          exact G c j (by omega) (by omega) (by omega) (by omega)
        · exact G c j (by omega) (by omega) (by omega) (by omega)
        · unfold SRc at h ⊢
          rw [Gr 23 (by decide) (by decide) (by decide) (by decide), Gr 28 (by decide) (by decide) (by decide) (by decide), Gr (28 + 1) (by decide) (by decide) (by decide) (by decide), Gr (28 + 2) (by decide) (by decide) (by decide) (by decide), Gr (28 + 3) (by decide) (by decide) (by decide) (by decide), Gr (28 + 4) (by decide) (by decide) (by decide) (by decide), Gr 299 (by decide) (by decide) (by decide) (by decide)]
          exact h
    · cases ee
  · refine k (nI (dP D)) hi1 hl1 sw kp (fun Q2 k2 => ?_)
    have h280 : hi1 280 = hi 280 := fr 280 (by decide)
    refine e_205 (d := d + 56) (f204 (d := d + 48) (n := n) (k := kk) (o := .inr (D, x)) n1 (by rw [fr 279 (by decide)]; exact n3) (by rw [h280]; exact hb) (by rw [h280]; exact t1) (fun hi2 hl2 ro rf => ?_))
    rcases ro with ⟨e', ee, _⟩ | ⟨q, ee, rst⟩
    · cases ee
    · cases ee
      have rst' : RST n (hi1 280) D x hi2 hl2 := rst
      refine c205 rst' hA (fun Z vv zf => k2 Z hl2 sw kp ?_)
      have zc : ∀ c, c < 279 → Z c = hi1 c := fun c hc => by
        funext j
        rw [zf c j (by omega), rf.1 c j (by omega), u2_nn (by omega)]
      have zm : ∀ j, ¬ NRf j → j ≠ 1 → ¬ VFc 279 j → Z 279 j = hi 279 j := fun j a1 a2 a3 => by
        rw [zf 279 j a3, rf.1 279 j (by omega), u2_nn (by omega), fr 279 (by decide)]
      obtain ⟨⟨c1, c2, c3, c4, c5, c6, c7, c8⟩, ⟨d0, d1, d2, d3, d4⟩, e1, e2, e3, e4, ⟨p1, p2, p3⟩, ⟨s0, s1, s2, s3, s4, s5⟩⟩ := cv
      obtain ⟨⟨g1, g2, g3, g4, g5, g6, g7⟩, v1, v2, v3, ⟨u1, u2', u3, u4⟩, ⟨w16, w18, w19, w0⟩, ⟨x1, x2, x3, x4, x5⟩⟩ := vv
      obtain ⟨⟨⟨b1, b2, b3, b4⟩, hDN, hdz, hld, hl0, hbr, htb, ht0, htm, htt, hom, y1, y2, y3, y4, y5, y6, y7⟩, hpl⟩ := hA
      have z2 : Z 279 2 = 0 := by rw [zf 279 2 (by omega)]; exact rst'.1.2.2.2.2.1
      have z3 : Z 279 3 = -1 := by rw [zf 279 3 (by omega)]; exact rst'.2.2.2
      have r23 : ∀ c, c < dC D → Z 23 c = nI (dbr D c) := fun c hc => by rw [zc 23 (by decide)]; exact e3 c hc
      refine ⟨⟨0, by decide, by rw [zc 1 (by decide)]; exact c3, ?_, fun j hj => absurd hj (Nat.not_lt_zero j)⟩, ⟨by rw [zc 3 (by decide), z2]; exact c1, by rw [zc 3 (by decide), z3]; exact c2⟩, ⟨0, by decide, by rw [zc 0 (by decide)]; exact c4, x4, fun j hj => absurd hj (Nat.not_lt_zero j)⟩, ?_, ?_, r6, ⟨(dD D, dP D, dT D, dC D, dvl D 4, dvl D 5, dvl D 6, dvl D 7), ?_, ?_, ?_, ?_, ?_⟩⟩
      · rw [zf 279 1 (by omega), rf.1 279 1 (by omega), u2_s]; rfl
      · obtain ⟨m, t, m1, m2, m3, m4, m5, m6, m7⟩ := r4
        refine ⟨0, t, by decide, m2, by rw [zc 266 (by decide)]; exact c8, x3, by rw [zc 266 (by decide), f9]; exact m5, by rw [zm 87 (by omega) (by decide) (by omega)]; exact m6, fun j hj => absurd hj (Nat.not_lt_zero j)⟩
      · intro j hj
        rw [rf.2 4 (by decide) (by decide), fl]
        exact r5 j hj
      · -- R_vil
        refine ⟨⟨b1, b2, b3, b4, y1, y2, y3, y4, ?_, y6⟩, ⟨?_, ?_, ?_, ?_, ?_, ?_, ?_, ?_⟩, ⟨g1, g2, g3, g4, g5, g6, g7⟩, fun p hp => ⟨?_, ⟨ddz D p, hdz p hp, ?_, (v1 p hp).2.1⟩, ⟨dld D p, hld p, ?_, (v1 p hp).2.2⟩⟩, fun c hc => ⟨dbr D c, (hbr c hc).1, (hbr c hc).2, r23 c hc, v2 c hc⟩, fun e c he hc => ?_⟩
        · rcases y5 with z | z
          · exact Or.inl z
          · by_cases c : dP D = 0
            · exact Or.inr ⟨c, z⟩
            · exact Or.inl (by show dvl D 6 < dP D; omega)
        · rw [zc 19 (by decide)]; exact d0
        · rw [zc 19 (by decide)]; exact d1
        · rw [zc 19 (by decide)]; exact d2
        · rw [zc 19 (by decide)]; exact d3
        · rw [zc 19 (by decide)]; exact d4 4 (by decide) (by decide)
        · rw [zc 19 (by decide)]; exact d4 5 (by decide) (by decide)
        · rw [zc 19 (by decide)]; exact d4 6 (by decide) (by decide)
        · rw [zc 19 (by decide)]; exact d4 7 (by decide) (by decide)
        · rw [zc 20 (by decide), (e1 p hp).1, (v1 p hp).1]
        · rw [zc 21 (by decide)]; exact (e1 p hp).2
        · have hp8 : p < 8 := Nat.lt_of_lt_of_le hp b2
          rw [zc 22 (by decide)]; exact e2 p hp8
        · have he' : e < dD D := he
          have hc' : c < dC D := hc
          have t1 : Z 24 (4 * e + c) = dtb D (4 * e + c) := by rw [zc 24 (by decide)]; exact e4 _ (by omega)
          rw [t1, v3 (4 * e + c) (by omega) (by omega) (by omega)]
          exact ⟨rfl, htb _⟩
      · -- R_pul
        have hget : ∀ j, j < (dps D).length → ∃ y, (dps D)[j]? = some y := fun j hj => ⟨(dps D)[j], List.getElem?_eq_getElem hj⟩
        have hlen : (dps D).length ≤ 269 := by
          rcases hpl with ⟨_, h, _⟩ | ⟨_, _, h⟩
          · rw [h]; decide
          · omega
        refine ⟨(dps D).length, hlen, by rw [zc 25 (by decide)]; exact p1, u1, by rw [zc 25 (by decide), p2, u2'], ?_, fun j hj => ?_⟩
        · rcases hpl with ⟨h1, h2, h3⟩ | ⟨h1, h2, h3⟩
          · refine Or.inl ⟨?_, by rw [h2]; rfl⟩
            rw [u3]
            unfold onv
            rw [if_neg (by rw [h1]; decide)]
          · refine Or.inr ⟨?_, ?_⟩
            · rw [u3]
              unfold onv
              rw [if_pos h1]
            · rw [fdl_deps (P := dps D) u4 (dps D).length (Nat.le_refl _), List.take_length]
              exact h2
        · obtain ⟨y, hy⟩ := hget j hj
          rw [zc 26 (by decide), p3 j y hy, (u4 j y hy).1, (u4 j y hy).2]
      · -- now
        show SR _ (Z 23) (Z 28) (Z 29) (Z 30) (Z 31) (Z 32) (Z 299)
        refine ⟨0, by decide, by rw [zc 28 (by decide)]; exact s1, w0 17 (by decide) (by decide) (by decide) (by decide), ?_, ?_, ?_, ⟨dvl D 8, y7, by rw [zc 28 (by decide)]; exact s2⟩, ?_, fun p hp => ⟨0, by decide, ?_, ?_⟩, fun c hc => ⟨?_, ?_, ?_, ?_, ?_, fun hc' _ => ?_⟩, w0 20 (by decide) (by decide) (by decide) (by decide), fun j hj => by omega⟩
        · rw [w16, zc 28 (by decide)]
          rcases s0 with ⟨h1, h2⟩ | ⟨h1, h2⟩
          · rw [if_pos h1, h2]
          · rw [if_neg (by omega), h2]
        · rw [zc 28 (by decide)]
          rcases s0 with ⟨h1, h2⟩ | ⟨h1, h2⟩
          · exact Or.inl ⟨h1, h2⟩
          · refine Or.inr ⟨dvl D 6, ?_, h2⟩
            show dvl D 6 < dP D
            omega
        · rw [w19, zc 28 (by decide), s2]
        · rw [w18]
          show nI (dvl D 7) = nI (min 99 (dvl D 7 + 0 / dvl D 4))
          rw [Nat.zero_div, Nat.add_zero, Nat.min_eq_right y6]
        · rw [zc 29 (by decide)]; exact s3 p hp
        · exact w0 p (by omega) (by omega) (by omega) (by omega)
        · rw [w0 (8 + c) (by omega) (by omega) (by omega) (by omega), zc 30 (by decide), s4 c hc]
        · rw [w0 (12 + c) (by omega) (by omega) (by omega) (by omega), zc 31 (by decide), s5 c hc]
        · rw [zc 31 (by decide), s5 c hc]; exact Or.inl rfl
        · rw [zc 30 (by decide), s4 c hc]; decide
        · rw [zc 30 (by decide), s4 c hc]; decide
        · have hb2 := hbr c hc'
          rw [zc 30 (by decide), s4 c hc, r23 c hc', nI_toInt (by omega), show (0 : Int32).toInt = 0 from by decide]
          omega
      · refine ⟨0, 0, by decide, by rw [zc 33 (by decide)]; exact c6, by rw [zc 33 (by decide)]; exact c7, x1, x2, fun j hj => absurd hj (Nat.not_lt_zero j), fun j j1 j2 => by omega, fun h => absurd h (Nat.not_lt_zero 0)⟩
      · refine ⟨0, by decide, by rw [zc 0 (by decide)]; exact c5, fun b hb => ⟨?_, fun h => ?_⟩⟩
        · rw [x5 b hb, Nat.zero_div]; rfl
        · rw [Nat.zero_div] at h
          exact absurd h (by decide)
end VOP
