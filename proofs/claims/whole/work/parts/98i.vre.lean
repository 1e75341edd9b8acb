/-! ===== village: the reference's end ===== -/
section VRE
variable {d : Nat} {Q : am_Q} {hi hi' : Nat → Nat → Int32} {hl hl' : Nat → Nat → Int64} {sw : Bool} {kp : Nat → Nat} {n a : Nat} {f : Nat → Int32} {D : Dr}
/-- the reference with a new village -/
def VV (D : Dr) (hi : Nat → Nat → Int32) : Prop :=
  (hi 279 45 = nI (dD D) ∧ hi 279 46 = nI (dP D) ∧ hi 279 47 = nI (dT D) ∧ hi 279 48 = nI (dC D) ∧ hi 279 50 = nI (dvl D 4) ∧ hi 279 51 = nI (dvl D 5) ∧ hi 279 49 = nI (dvl D 6)) ∧ (∀ p, p < dP D → hi 294 p = nI (dsm D p) ∧ hi 295 p = nI (ddz D p) ∧ hi 296 p = nI (dld D p)) ∧ (∀ c, c < dC D → hi 297 c = nI (dbr D c)) ∧ (∀ j, j < 16 → j / 4 < dD D → j % 4 < dC D → hi 298 j = dtb D j) ∧ (hi 279 18 = nI (dps D).length ∧ hi 279 21 = nI (dun D) ∧ hi 279 58 = onv D 5 ∧ ∀ j x, (dps D)[j]? = some x → hi 284 j = nI x.1 ∧ hi 285 j = nI x.2) ∧ (hi 299 16 = (if dP D = 0 then -1 else nI (dvl D 6)) ∧ hi 299 18 = nI (dvl D 7) ∧ hi 299 19 = nI (dvl D 8) ∧ ∀ j, j < 81 → j ≠ 16 → j ≠ 18 → j ≠ 19 → hi 299 j = 0) ∧ (hi 279 66 = 0 ∧ hi 279 67 = 0 ∧ hi 279 86 = 0 ∧ hi 279 75 = 0 ∧ ∀ b, b < 3 → hi 322 b = 0)
/-- what the copying may change -/
abbrev VFc (c j : Nat) : Prop := (c = 279 ∧ (j = 18 ∨ j = 21 ∨ (45 ≤ j ∧ j ≤ 51) ∨ j = 58 ∨ j = 66 ∨ j = 67 ∨ j = 75 ∨ j = 86)) ∨ c = 284 ∨ c = 285 ∨ (294 ≤ c ∧ c ≤ 299) ∨ c = 322
theorem dv4 : ∀ i, i < 16 → nI i / 4 = nI (i / 4) ∧ nI i - nI i / 4 * 4 = nI (i % 4) := by decide
theorem c205 (hS : RST n f D a hi hl) (hA : DA D) (w : ∀ Z : Nat → Nat → Int32, VV D Z → (∀ c j, ¬ VFc c j → Z c j = hi c j) → Q (some (.int (nI (dP D)))) (mkH Z hl sw kp)) : cW cd_205 d Q 4 [some (.ref 279), none] [] (mkH hi hl sw kp) := by
  obtain ⟨hM, ⟨⟨i0, i1, i2, i3, i4, i5⟩, i6, i7, i8, i9, ip1, ip2, ip3⟩, hN, z3⟩ := hS
  obtain ⟨⟨⟨b1, b2, b3, b4⟩, hDN, hdz, hld, hl0, hbr, htb, ht0, htm, htt, hom, v1, v2, v3, v4, v5, v6, v7⟩, hpl⟩ := hA
  have le2 : hi 279 2 ≤ 0 := by rw [hM.2.2.2.2.1]; decide
  have hlen : (dps D).length ≤ 269 := by
    rcases hpl with ⟨_, h, _⟩ | ⟨_, _, h⟩
    · rw [h]; decide
    · exact h
  have e52 : hi 279 52 = onv D 5 := i9 5 (by decide) (by decide)
  refine k_205_4 (fun _ => ?_) (fun z => absurd le2 z)
  obtain ⟨A, eA⟩ : ∃ A, A = u2 (u2 (u2 (u2 (u2 (u2 (u2 hi 279 45 (hi 279 35)) 279 46 (hi 279 36)) 279 47 (hi 279 37)) 279 48 (hi 279 38)) 279 50 (hi 279 40)) 279 51 (hi 279 41)) 279 49 (hi 279 42) := ⟨_, rfl⟩
  rw [← eA]
  have a45 : A 279 45 = nI (dD D) := by rw [eA, ← i0]; simp [u2_eq]
  have a46 : A 279 46 = nI (dP D) := by rw [eA, ← i1]; simp [u2_eq]
  have a47 : A 279 47 = nI (dT D) := by rw [eA, ← i2]; simp [u2_eq]
  have a48 : A 279 48 = nI (dC D) := by rw [eA, ← i3]; simp [u2_eq]
  have a50 : A 279 50 = nI (dvl D 4) := by rw [eA, ← i5 4 (by decide) (by decide)]; simp [u2_eq]
  have a51 : A 279 51 = nI (dvl D 5) := by rw [eA, ← i5 5 (by decide) (by decide)]; simp [u2_eq]
  have a49 : A 279 49 = nI (dvl D 6) := by rw [eA, ← i5 6 (by decide) (by decide)]; simp [u2_eq]
  have aR : ∀ c j, ¬ (c = 279 ∧ 45 ≤ j ∧ j ≤ 51) → A c j = hi c j := fun c j q => by
    rw [eA, u2_nn (by omega), u2_nn (by omega), u2_nn (by omega), u2_nn (by omega), u2_nn (by omega), u2_nn (by omega), u2_nn (by omega)]
  -- the formula's length
  have main : ∀ B : Nat → Nat → Int32, B 279 18 = nI (dps D).length → B 279 21 = nI (dun D) → B 279 58 = onv D 5 → (∀ c j, ¬ (c = 279 ∧ (j = 18 ∨ j = 21 ∨ j = 58)) → B c j = A c j) → cW cd_205 d Q 106 [some (.ref 279), some (.int 0)] [] (mkH B hl sw kp) := fun B c18 c21 c58 cR => by
    have cRow : ∀ c, c ≠ 279 → B c = hi c := fun c hc => by
      funext j
      rw [cR c j (by omega), aR c j (by omega)]
    refine lpu (σ := Nat → Nat → Int32) (dps D).length (fun i Y => cW cd_205 d Q 106 [some (.ref 279), some (.int (nI i))] [] (mkH Y hl sw kp)) (fun i Y => (∀ j, j < i → Y 284 j = B 282 j ∧ Y 285 j = B 283 j) ∧ ∀ c, c ≠ 284 → c ≠ 285 → Y c = B c) ?_ ?_ (dps D).length 0 B (Nat.zero_add _) ⟨fun j hj => absurd hj (Nat.not_lt_zero j), fun _ _ _ => rfl⟩
    · intro Y1 ⟨p1, p2⟩
      have le18 : Y1 279 18 ≤ nI (dps D).length := by rw [p2 279 (by decide) (by decide), c18]; exact Int32.le_refl _
      refine k_205_106 (fun _ => ?_) (fun z => absurd le18 z) (fun z => absurd le18 z)
      -- places
      refine lpu (σ := Nat → Nat → Int32) 8 (fun i Y => cW cd_205 d Q 146 [some (.ref 279), some (.int (nI i))] [] (mkH Y hl sw kp)) (fun i Y => (∀ j, j < i → Y 294 j = B 289 j ∧ Y 295 j = B 290 j ∧ Y 296 j = B 291 j) ∧ ∀ c, c ≠ 294 → c ≠ 295 → c ≠ 296 → Y c = Y1 c) ?_ ?_ 8 0 Y1 (Nat.zero_add _) ⟨fun j hj => absurd hj (Nat.not_lt_zero j), fun _ _ _ _ => rfl⟩
      · intro Y2 ⟨q1, q2⟩
        refine k_205_146 (fun _ => ?_) (fun z => absurd (by decide) z) (fun z => absurd (by decide) z)
        -- bars
        refine lpu (σ := Nat → Nat → Int32) 4 (fun i Y => cW cd_205 d Q 196 [some (.ref 279), some (.int (nI i))] [] (mkH Y hl sw kp)) (fun i Y => (∀ j, j < i → Y 297 j = B 292 j) ∧ ∀ c, c ≠ 297 → Y c = Y2 c) ?_ ?_ 4 0 Y2 (Nat.zero_add _) ⟨fun j hj => absurd hj (Nat.not_lt_zero j), fun _ _ => rfl⟩
        · intro Y3 ⟨r1, r2⟩
          refine k_205_196 (fun _ => ?_) (fun z => absurd (by decide) z) (fun z => absurd (by decide) z)
          have y3r : ∀ c, c ≠ 284 → c ≠ 285 → c ≠ 294 → c ≠ 295 → c ≠ 296 → c ≠ 297 → Y3 c = B c := fun c a1 a2 a3 a4 a5 a6 => by rw [r2 c a6, q2 c a3 a4 a5, p2 c a1 a2]
          have f45 : Y3 279 45 = nI (dD D) := by rw [y3r 279 (by decide) (by decide) (by decide) (by decide) (by decide) (by decide), cR 279 45 (by decide)]; exact a45
          have f48 : Y3 279 48 = nI (dC D) := by rw [y3r 279 (by decide) (by decide) (by decide) (by decide) (by decide) (by decide), cR 279 48 (by decide)]; exact a48
          have f293 : Y3 293 = hi 293 := by rw [y3r 293 (by decide) (by decide) (by decide) (by decide) (by decide) (by decide)]; exact cRow 293 (by decide)
          -- the table
          refine lpu (σ := Nat → Nat → Int32) 16 (fun i Y => cW cd_205 d Q 221 [some (.ref 279), some (.int (nI i))] [] (mkH Y hl sw kp)) (fun i Y => (∀ j, j < i → j / 4 < dD D → j % 4 < dC D → Y 298 j = dtb D j) ∧ ∀ c, c ≠ 298 → Y c = Y3 c) ?_ ?_ 16 0 Y3 (Nat.zero_add _) ⟨fun j hj => absurd hj (Nat.not_lt_zero j), fun _ _ => rfl⟩
          · intro Y4 ⟨s1, s2⟩
            refine k_205_221 (fun _ => ?_) (fun z => absurd (by decide) z) (fun z => absurd (by decide) z) (fun z => absurd (by decide) z) (fun z => absurd (by decide) z) (fun z => absurd (by decide) z) (fun z => absurd (by decide) z) (fun z => absurd (by decide) z)
            -- now
            refine lpu (σ := Nat → Nat → Int32) 81 (fun i Y => cW cd_205 d Q 283 [some (.ref 279), some (.int (nI i))] [] (mkH Y hl sw kp)) (fun i Y => (∀ j, j < i → Y 299 j = 0) ∧ ∀ c, c ≠ 299 → Y c = Y4 c) ?_ ?_ 81 0 Y4 (Nat.zero_add _) ⟨fun j hj => absurd hj (Nat.not_lt_zero j), fun _ _ => rfl⟩
            · intro Y5 ⟨t1, t2⟩
              have y5r : ∀ c, c ≠ 284 → c ≠ 285 → ¬ (294 ≤ c ∧ c ≤ 299) → Y5 c = B c := fun c a1 a2 a3 => by rw [t2 c (by omega), s2 c (by omega), y3r c a1 a2 (by omega) (by omega) (by omega) (by omega)]
              have g279 : ∀ j, Y5 279 j = B 279 j := fun j => by rw [y5r 279 (by decide) (by decide) (by decide)]
              have g42 : Y5 279 42 = nI (dvl D 6) := by rw [g279, cR 279 42 (by decide), aR 279 42 (by decide)]; exact i5 6 (by decide) (by decide)
              have g43 : Y5 279 43 = nI (dvl D 7) := by rw [g279, cR 279 43 (by decide), aR 279 43 (by decide)]; exact i5 7 (by decide) (by decide)
              have g44 : Y5 279 44 = nI (dvl D 8) := by rw [g279, cR 279 44 (by decide), aR 279 44 (by decide)]; exact i5 8 (by decide) (by decide)
              have g46 : Y5 279 46 = nI (dP D) := by rw [g279, cR 279 46 (by decide)]; exact a46
              have ile : Y5 279 46 ≤ 0 ↔ dP D = 0 := by
                rw [g46]
                have := nI_leI (a := dP D) (b := 0) (by omega) (by decide)
                rw [show (0 : Int32) = nI 0 from rfl, this]
                omega
              have last : ∀ x : Int32, x = (if dP D = 0 then -1 else nI (dvl D 6)) → cW cd_205 d Q 366 [some (.ref 279), some (.int (nI 81))] [] (mkH (u2 (u2 (u2 (u2 (u2 (u2 (u2 Y5 299 16 x) 299 18 (Y5 279 43)) 299 19 (Y5 279 44)) 279 66 0) 279 67 0) 279 86 0) 279 75 0) hl sw kp) := fun x hx => by
                obtain ⟨E, eE⟩ : ∃ E, E = u2 (u2 (u2 (u2 (u2 (u2 (u2 Y5 299 16 x) 299 18 (Y5 279 43)) 299 19 (Y5 279 44)) 279 66 0) 279 67 0) 279 86 0) 279 75 0 := ⟨_, rfl⟩
                rw [← eE]
                have eR : ∀ c j, ¬ ((c = 299 ∧ (j = 16 ∨ j = 18 ∨ j = 19)) ∨ (c = 279 ∧ (j = 66 ∨ j = 67 ∨ j = 86 ∨ j = 75))) → E c j = Y5 c j := fun c j q => by
                  rw [eE, u2_nn (by omega), u2_nn (by omega), u2_nn (by omega), u2_nn (by omega), u2_nn (by omega), u2_nn (by omega), u2_nn (by omega)]
                have e16 : E 299 16 = x := by rw [eE]; simp [u2_eq]
                have e18 : E 299 18 = nI (dvl D 7) := by rw [eE, ← g43]; simp [u2_eq]
                have e19 : E 299 19 = nI (dvl D 8) := by rw [eE, ← g44]; simp [u2_eq]
                have e66 : E 279 66 = 0 := by rw [eE]; simp [u2_eq]
                have e67 : E 279 67 = 0 := by rw [eE]; simp [u2_eq]
                have e86 : E 279 86 = 0 := by rw [eE]; simp [u2_eq]
                have e75 : E 279 75 = 0 := by rw [eE]; simp [u2_eq]
                refine k_205_366 ?_
                refine lpu (σ := Nat → Nat → Int32) 3 (fun i Y => cW cd_205 d Q 368 [some (.ref 279), some (.int (nI i))] [] (mkH Y hl sw kp)) (fun i Y => (∀ j, j < i → Y 322 j = 0) ∧ ∀ c, c ≠ 322 → Y c = E c) ?_ ?_ 3 0 E (Nat.zero_add _) ⟨fun j hj => absurd hj (Nat.not_lt_zero j), fun _ _ => rfl⟩
                · intro Z ⟨u1, u2h⟩
                  have z279 : ∀ j, ¬ (j = 66 ∨ j = 67 ∨ j = 86 ∨ j = 75) → Z 279 j = B 279 j := fun j hj => by rw [u2h 279 (by decide), eR 279 j (by omega), g279]
                  have zr : ∀ c, c ≠ 279 → c ≠ 299 → c ≠ 322 → Z c = Y4 c := fun c a1 a2 a3 => by
                    rw [u2h c a3, ← t2 c a2]
                    funext j
                    exact eR c j (by omega)
                  have e46 : Z 279 46 = nI (dP D) := by rw [z279 46 (by decide), cR 279 46 (by decide)]; exact a46
                  refine k_205_368 (fun _ => ?_) (fun z => absurd (by decide) z) (fun z => absurd (by decide) z)
                  rw [e46]
                  refine w Z ⟨⟨?_, e46, ?_, ?_, ?_, ?_, ?_⟩, fun p hp => ?_, fun c hc => ?_, fun j hj j1 j2 => ?_, ⟨?_, ?_, ?_, fun j x hx => ?_⟩, ⟨?_, ?_, ?_, fun j j1 j2 j3 j4 => ?_⟩, ⟨?_, ?_, ?_, ?_, u1⟩⟩ (fun c j hcj => ?_)
                  · rw [z279 45 (by decide), cR 279 45 (by decide)]; exact a45
                  · rw [z279 47 (by decide), cR 279 47 (by decide)]; exact a47
                  · rw [z279 48 (by decide), cR 279 48 (by decide)]; exact a48
                  · rw [z279 50 (by decide), cR 279 50 (by decide)]; exact a50
                  · rw [z279 51 (by decide), cR 279 51 (by decide)]; exact a51
                  · rw [z279 49 (by decide), cR 279 49 (by decide)]; exact a49
                  · rw [zr 294 (by decide) (by decide) (by decide), zr 295 (by decide) (by decide) (by decide), zr 296 (by decide) (by decide) (by decide), s2 294 (by decide), s2 295 (by decide), s2 296 (by decide), r2 294 (by decide), r2 295 (by decide), r2 296 (by decide), (q1 p (by omega)).1, (q1 p (by omega)).2.1, (q1 p (by omega)).2.2, cRow 289 (by decide), cRow 290 (by decide), cRow 291 (by decide)]
                    exact i6 p hp
                  · rw [zr 297 (by decide) (by decide) (by decide), s2 297 (by decide), r1 c (by omega), cRow 292 (by decide)]
                    exact i7 c hc
                  · rw [zr 298 (by decide) (by decide) (by decide)]
                    exact s1 j hj j1 j2
                  · rw [z279 18 (by decide)]; exact c18
                  · rw [z279 21 (by decide)]; exact c21
                  · rw [z279 58 (by decide)]; exact c58
                  · have hj : j < (dps D).length := by
                      rcases Nat.lt_or_ge j (dps D).length with z | z
                      · exact z
                      · rw [List.getElem?_eq_none z] at hx
                        cases hx
                    rw [zr 284 (by decide) (by decide) (by decide), zr 285 (by decide) (by decide) (by decide), s2 284 (by decide), s2 285 (by decide), r2 284 (by decide), r2 285 (by decide), q2 284 (by decide) (by decide) (by decide), q2 285 (by decide) (by decide) (by decide), (p1 j hj).1, (p1 j hj).2, cRow 282 (by decide), cRow 283 (by decide)]
                    exact ip3 j x hx
                  · rw [u2h 299 (by decide), e16]; exact hx
                  · rw [u2h 299 (by decide)]; exact e18
                  · rw [u2h 299 (by decide)]; exact e19
                  · rw [u2h 299 (by decide), eR 299 j (by omega)]; exact t1 j j1
                  · rw [u2h 279 (by decide)]; exact e66
                  · rw [u2h 279 (by decide)]; exact e67
                  · rw [u2h 279 (by decide)]; exact e86
                  · rw [u2h 279 (by decide)]; exact e75
                  · rw [u2h c (by omega), eR c j (by omega), y5r c (by omega) (by omega) (by omega), cR c j (by omega), aR c j (by omega)]
                · intro i Y hi3 ⟨u1, u2h⟩ ih
                  refine k_205_368 (fun z => absurd z (nI_ge (b := 3) hi3 (by decide))) (fun _ => vp_in_nI (by omega) (by decide)) (fun _ => ?_)
                  rw [nI_clamp (by omega), ← nI_succ]
                  refine ih _ ⟨fun j hj => ?_, fun c hc => by rw [u2_row_ne hc]; exact u2h c hc⟩
                  by_cases c : j = i
                  · rw [c, u2_s]; rfl
                  · rw [u2_nn (fun z => c z.2)]; exact u1 j (by omega)
              refine k_205_283 (fun _ z => last (-1) (by rw [if_pos (ile.mp z)])) (fun _ z => last (Y5 279 42) (by rw [if_neg (fun y => z (ile.mpr y))]; exact g42)) (fun z => absurd (by decide) z) (fun z => absurd (by decide) z)
            · intro i Y hi3 ⟨t1, t2⟩ ih
              refine k_205_283 (fun z => absurd z (nI_ge (b := 81) hi3 (by decide))) (fun z => absurd z (nI_ge (b := 81) hi3 (by decide))) (fun _ => vp_in_nI (by omega) (by decide)) (fun _ => ?_)
              rw [nI_clamp (by omega), ← nI_succ]
              refine ih _ ⟨fun j hj => ?_, fun c hc => by rw [u2_row_ne hc]; exact t2 c hc⟩
              by_cases c : j = i
              · rw [c, u2_s]
              · rw [u2_nn (fun z => c z.2)]; exact t1 j (by omega)
          · intro i Y hi3 ⟨s1, s2⟩ ih
            have n16 : ¬ (16 : Int32) ≤ nI i := nI_ge (b := 16) hi3 (by decide)
            have dv := dv4 i hi3
            have c45 : Y 279 45 ≤ nI i / 4 ↔ dD D ≤ i / 4 := by rw [s2 279 (by decide), f45, dv.1]; exact nI_leI (by omega) (by omega)
            have c48 : Y 279 48 ≤ nI i - nI i / 4 * 4 ↔ dC D ≤ i % 4 := by rw [s2 279 (by decide), f48, dv.2]; exact nI_leI (by omega) (by omega)
            have vi : vp_in (nI i) 16 := vp_in_nI (by omega) (by decide)
            have put : ∀ x : Int32, (i / 4 < dD D → i % 4 < dC D → x = dtb D i) → cW cd_205 d Q 221 [some (.ref 279), some (.int (nI i + 1))] [] (mkH (u2 Y 298 (nI i).toNatClampNeg x) hl sw kp) := fun x hx => by
              rw [nI_clamp (by omega), ← nI_succ]
              refine ih _ ⟨fun j hj j1 j2 => ?_, fun c hc => by rw [u2_row_ne hc]; exact s2 c hc⟩
              by_cases c : j = i
              · rw [c, u2_s]
                rw [c] at j1 j2
                exact hx j1 j2
              · rw [u2_nn (fun z => c z.2)]; exact s1 j (by omega) j1 j2
            have e293 : i / 4 < dD D → Y 293 i = tbv D i := fun h => by
              rw [s2 293 (by decide), f293]
              have := i8 (i / 4) (i % 4) h (by omega)
              rw [show 4 * (i / 4) + i % 4 = i by omega] at this
              exact this
            have hgp := tbv_g (htb i).1
            refine k_205_221 (fun z => absurd z n16) (fun _ _ => vi) (fun _ z => put 0 (fun y => by have := c45.mp z; omega)) (fun _ _ _ => vi) (fun _ _ z => put 0 (fun _ y => by have := c48.mp z; omega)) (fun _ _ _ => vi) (fun _ z1 z2 z3 => put 0 (fun y1 y2 => ?_)) (fun _ z1 z2 z3 => put _ (fun y1 y2 => ?_))
            · rw [nI_clamp (by omega), e293 y1, hgp] at z3
              exact (ht0 i z3).symm
            · rw [nI_clamp (by omega), e293 y1, hgp] at z3
              rw [nI_clamp (by omega), e293 y1]
              unfold tbv
              rw [if_pos (by cases hb : (dtm D).testBit i; exact absurd hb z3; rfl)]
        · intro i Y hi3 ⟨r1, r2⟩ ih
          refine k_205_196 (fun z => absurd z (nI_ge (b := 4) hi3 (by decide))) (fun _ => vp_in_nI (by omega) (by decide)) (fun _ => ?_)
          rw [nI_clamp (by omega), ← nI_succ]
          refine ih _ ⟨fun j hj => ?_, fun c hc => by rw [u2_row_ne hc]; exact r2 c hc⟩
          by_cases c : j = i
          · rw [c, u2_s, r2 292 (by decide), q2 292 (by decide) (by decide) (by decide), p2 292 (by decide) (by decide)]
          · rw [u2_nn (fun z => c z.2)]; exact r1 j (by omega)
      · intro i Y hi3 ⟨q1, q2⟩ ih
        refine k_205_146 (fun z => absurd z (nI_ge (b := 8) hi3 (by decide))) (fun _ => vp_in_nI (by omega) (by decide)) (fun _ => ?_)
        rw [nI_clamp (by omega), ← nI_succ]
        refine ih _ ⟨fun j hj => ?_, fun c a1 a2 a3 => by rw [u2_row_ne a3, u2_row_ne a2, u2_row_ne a1]; exact q2 c a1 a2 a3⟩
        have r289 : Y 289 = B 289 := by rw [q2 289 (by decide) (by decide) (by decide), p2 289 (by decide) (by decide)]
        have r290 : Y 290 = B 290 := by rw [q2 290 (by decide) (by decide) (by decide), p2 290 (by decide) (by decide)]
        have r291 : Y 291 = B 291 := by rw [q2 291 (by decide) (by decide) (by decide), p2 291 (by decide) (by decide)]
        by_cases c : j = i
        · rw [c]
          refine ⟨?_, ?_, ?_⟩
          · rw [u2_row_ne (a := 294) (by decide), u2_row_ne (a := 294) (by decide), u2_s, r289]
          · rw [u2_row_ne (a := 295) (by decide), u2_s, r290]
          · rw [u2_s, r291]
        · have hq := q1 j (by omega)
          refine ⟨?_, ?_, ?_⟩
          · rw [u2_row_ne (a := 294) (by decide), u2_row_ne (a := 294) (by decide), u2_nn (fun z => c z.2)]; exact hq.1
          · rw [u2_row_ne (a := 295) (by decide), u2_nn (fun z => c z.2), u2_row_ne (a := 295) (by decide)]; exact hq.2.1
          · rw [u2_nn (fun z => c z.2), u2_row_ne (a := 296) (by decide), u2_row_ne (a := 296) (by decide)]; exact hq.2.2
    · intro i Y hi3 ⟨p1, p2⟩ ih
      have nle : ¬ Y 279 18 ≤ nI i := by rw [p2 279 (by decide) (by decide), c18]; exact nI_ge hi3 (by omega)
      refine k_205_106 (fun z => absurd z nle) (fun _ => vp_in_nI (by omega) (by decide)) (fun _ => ?_)
      rw [nI_clamp (by omega), ← nI_succ]
      refine ih _ ⟨fun j hj => ?_, fun c a1 a2 => by rw [u2_row_ne a2, u2_row_ne a1]; exact p2 c a1 a2⟩
      have r282 : Y 282 = B 282 := p2 282 (by decide) (by decide)
      have r283 : Y 283 = B 283 := p2 283 (by decide) (by decide)
      by_cases c : j = i
      · rw [c]
        refine ⟨?_, ?_⟩
        · rw [u2_row_ne (a := 284) (by decide), u2_s, r282]
        · rw [u2_s, r283]
      · have hq := p1 j (by omega)
        refine ⟨?_, ?_⟩
        · rw [u2_row_ne (a := 284) (by decide), u2_nn (fun z => c z.2)]; exact hq.1
        · rw [u2_nn (fun z => c z.2), u2_row_ne (a := 285) (by decide)]; exact hq.2
  have o01 : onv D 5 = 0 ∨ onv D 5 = 1 := by
    unfold onv
    by_cases c : (dom D).testBit 5 = true
    · rw [if_pos c]; exact Or.inr rfl
    · rw [if_neg c]; exact Or.inl rfl
  have a52 : A 279 52 = onv D 5 := by rw [aR 279 52 (by decide)]; exact e52
  have a20 : A 279 20 = nI (dun D) := by rw [aR 279 20 (by decide)]; exact ip2
  have a17 : A 279 17 = nI (dps D).length := by rw [aR 279 17 (by decide)]; exact ip1
  refine k_205_69 (by rw [a52]; exact o01) (fun z => main _ ?_ ?_ ?_ (fun c j q => ?_)) (fun z => main _ ?_ ?_ ?_ (fun c j q => ?_))
  · rw [u2_s]
    rw [a52] at z
    have hb : (dom D).testBit 5 = false := by
      cases hb : (dom D).testBit 5
      · rfl
      · unfold onv at z
        rw [if_pos hb] at z
        exact absurd z (by decide)
    rcases hpl with ⟨_, h, _⟩ | ⟨h, _⟩
    · rw [h]; rfl
    · rw [hb] at h
      cases h
  · rw [u2_nn (by decide), u2_nn (by decide), u2_s]; exact a20
  · rw [u2_nn (by decide), u2_s]; exact a52
  · rw [u2_nn (by omega), u2_nn (by omega), u2_nn (by omega)]
  · rw [u2_s]; exact a17
  · rw [u2_nn (by decide), u2_nn (by decide), u2_s]; exact a20
  · rw [u2_nn (by decide), u2_s]; exact a52
  · rw [u2_nn (by omega), u2_nn (by omega), u2_nn (by omega)]
end VRE
