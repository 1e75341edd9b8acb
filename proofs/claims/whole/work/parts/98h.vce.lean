/-! ===== village: the class's end ===== -/
section VCE
variable {d : Nat} {Q : am_Q} {hi hi' : Nat → Nat → Int32} {hl hl' : Nat → Nat → Int64} {sw : Bool} {kp : Nat → Nat} {n a : Nat} {f : Nat → Int32} {D : Dr}
theorem f107 (w : ∀ Y : Nat → Nat → Int32, (∀ j, j ≤ 8 → Y 19 j = hi 5 j) → (∀ p, p < 8 → Y 20 p = hi 6 p ∧ Y 21 p = hi 7 p ∧ Y 22 p = hi 8 p) → (∀ c, c < 4 → Y 23 c = hi 9 c) → (∀ k, k < 16 → Y 24 k = hi 10 k) → Y 25 2 = hi 11 2 → Y 25 3 = hi 11 3 → (∀ k, k < 269 → Y 26 k = hi 12 k) → (∀ c, c < 19 ∨ 26 < c → Y c = hi c) → Q none (mkH Y hl sw kp)) : cS (d + 2) 107 [.ref 19, .ref 5] (mkH hi hl sw kp) Q := by
  refine e_107 (d := d + 1) (k_107_56 (k_107_146 (e_9 (d := d) (k_107_157 (w _ (fun j hj => ?_) (fun p hp => ⟨?_, ?_, ?_⟩) (fun c hc => ?_) (fun k hk => ?_) rfl rfl (fun k hk => ?_) (fun c hc => ?_))))))
  · rcases (show j = 0 ∨ j = 1 ∨ j = 2 ∨ j = 3 ∨ j = 4 ∨ j = 5 ∨ j = 6 ∨ j = 7 ∨ j = 8 by omega) with rfl | rfl | rfl | rfl | rfl | rfl | rfl | rfl | rfl <;> rfl
  · exact va_cpy0 (f := hi 6) (g := hi 20) (n := 8) hp
  · exact va_cpy0 (f := hi 7) (g := hi 21) (n := 8) hp
  · exact va_cpy0 (f := hi 8) (g := hi 22) (n := 8) hp
  · exact va_cpy0 (f := hi 9) (g := hi 23) (n := 4) hc
  · exact va_cpy0 (f := hi 10) (g := hi 24) (n := 16) hk
  · exact va_cpy0 (f := hi 12) (g := hi 26) (n := 269) hk
  · have h19 : c ≠ 19 := by omega
    have h20 : c ≠ 20 := by omega
    have h21 : c ≠ 21 := by omega
    have h22 : c ≠ 22 := by omega
    have h23 : c ≠ 23 := by omega
    have h24 : c ≠ 24 := by omega
    have h25 : c ≠ 25 := by omega
    have h26 : c ≠ 26 := by omega
    rw [u2_row_ne h25, u2_row_ne h25, uR_ne h26, uR_ne h24, uR_ne h23, uR_ne h22, uR_ne h21, uR_ne h20, u2_row_ne h19, u2_row_ne h19, u2_row_ne h19, u2_row_ne h19, u2_row_ne h19, u2_row_ne h19, u2_row_ne h19, u2_row_ne h19, u2_row_ne h19]
theorem f79 (w : ∀ Y : Nat → Nat → Int32, ((g_108 hi (hi 19 6) = 0 ∧ Y 28 0 = -1) ∨ (¬ g_108 hi (hi 19 6) = 0 ∧ Y 28 0 = hi 19 6)) → Y 28 1 = 0 → Y 28 2 = hi 19 8 → (∀ j, j < 8 → Y 29 j = 0) → (∀ j, j < 4 → Y 30 j = 0) → (∀ j, j < 4 → Y 31 j = 0) → (∀ c, c < 28 ∨ 31 < c → Y c = hi c) → Q none (mkH Y hl sw kp)) : cS (d + 2) 79 [.ref 28, .ref 19] (mkH hi hl sw kp) Q := by
  have go : ∀ x : Int32, ((g_108 hi (hi 19 6) = 0 ∧ x = -1) ∨ (¬ g_108 hi (hi 19 6) = 0 ∧ x = hi 19 6)) → cS (d + 1) 287 [.ref 29, .int 0] (mkH (u2 (u2 (u2 hi 28 0 x) 28 1 0) 28 2 (hi 19 8)) hl sw kp) (am_ret (cW cd_79 (d + 1) Q) 44 [some (.ref 28), some (.ref 19)] []) := fun x hx => by
    refine f287_29 (d := d) (fun Y1 a1 a2 => k_79_44 (f287_30 (d := d) (fun Y2 b1 b2 => k_79_52 (f287_31 (d := d) (fun Y3 c1 c2 => k_79_60 (w Y3 ?_ ?_ ?_ ?_ ?_ c1 (fun c hc => ?_)))))))
    · rw [c2 28 (by decide), b2 28 (by decide), a2 28 (by decide), u2_nn (by decide), u2_nn (by decide), u2_s]
      exact hx
    · rw [c2 28 (by decide), b2 28 (by decide), a2 28 (by decide), u2_nn (by decide), u2_s]
    · rw [c2 28 (by decide), b2 28 (by decide), a2 28 (by decide), u2_s]
    · intro j hj
      rw [c2 29 (by decide), b2 29 (by decide)]
      exact a1 j hj
    · intro j hj
      rw [c2 30 (by decide)]
      exact b1 j hj
    · have h28 : c ≠ 28 := by omega
      rw [c2 c (by omega), b2 c (by omega), a2 c (by omega), u2_row_ne h28, u2_row_ne h28, u2_row_ne h28]
  exact e_79 (d := d) (fun z => go _ (Or.inl ⟨z, rfl⟩)) (fun z => go _ (Or.inr ⟨z, rfl⟩))
/-- the class with a new village -/
def CV (D : Dr) (hi : Nat → Nat → Int32) : Prop :=
  (hi 3 7 = 0 ∧ hi 3 8 = -1 ∧ hi 1 1 = 0 ∧ hi 0 13 = 0 ∧ hi 0 8 = 0 ∧ hi 33 1 = 0 ∧ hi 33 2 = 0 ∧ hi 266 8 = 0) ∧ (hi 19 0 = nI (dD D) ∧ hi 19 1 = nI (dP D) ∧ hi 19 2 = nI (dT D) ∧ hi 19 3 = nI (dC D) ∧ ∀ k, 4 ≤ k → k ≤ 8 → hi 19 k = nI (dvl D k)) ∧ (∀ p, p < dP D → hi 20 p = nI (dsm D p) ∧ hi 21 p = nI (ddz D p)) ∧ (∀ p, p < 8 → hi 22 p = nI (dld D p)) ∧ (∀ c, c < dC D → hi 23 c = nI (dbr D c)) ∧ (∀ k, k < 16 → hi 24 k = dtb D k) ∧ (hi 25 2 = nI (dps D).length ∧ hi 25 3 = nI (dun D) ∧ ∀ j x, (dps D)[j]? = some x → hi 26 j = f_cnv (nI x.1) (nI x.2)) ∧ (((dP D = 0 ∧ hi 28 0 = -1) ∨ (0 < dP D ∧ hi 28 0 = nI (dvl D 6))) ∧ hi 28 1 = 0 ∧ hi 28 2 = nI (dvl D 8) ∧ (∀ j, j < 8 → hi 29 j = 0) ∧ (∀ j, j < 4 → hi 30 j = 0) ∧ ∀ j, j < 4 → hi 31 j = 0)
theorem f125 (hT : TP n f hi) (h4 : ∀ j, j < 21 → hl 4 j = rd_W j) (w0 : ∀ k e (hi' : Nat → Nat → Int32) (hl' : Nat → Nat → Int64), TA (byt n f) k D0 0 (.inl e) → hi' 3 7 = nI e.1 → hi' 3 8 = nI e.2 → CF hi' hi hl' hl → Q (some (.int (-1))) (mkH (u2 hi' 1 1 0) hl' sw kp)) (w1 : ∀ k D x (hi' : Nat → Nat → Int32) (hl' : Nat → Nat → Int64), TA (byt n f) k D0 0 (.inr (D, x)) → DA D → CV D hi' → (∀ c, 279 ≤ c → hi' c = hi c) → hi' 266 9 = hi 266 9 → hl' 4 = hl 4 → Q (some (.int (nI (dP D)))) (mkH hi' hl' sw kp)) : cS (d + 57) 125 [.ref 0] (mkH hi hl sw kp) Q := by
  refine e_125 (d := d + 56) (f90 (d := d) hT h4 (fun k o r hi1 hl1 t1 co da cf => ?_))
  rcases co with ⟨e, rfl, rfl, z7, z8⟩ | ⟨q, rfl, rfl, cs⟩
  · exact k_125_7 (fun _ => w0 k e hi1 hl1 t1 z7 z8 cf) (fun z => absurd rfl z)
  · have hA := da q rfl
    obtain ⟨hR, ⟨⟨i0, i1, i2, i3, i4⟩, i5, i6, i7, i8, i9, i10, i11, i12, i13⟩, hN, z7, z8⟩ := cs
    obtain ⟨⟨⟨b1, b2, b3, b4⟩, hDN, hdz, hld, hl0, hbr, htb, ht0, htm, htt, hom, v1, v2, v3, v4, v5, v6, v7⟩, hpl⟩ := id hA
    refine k_125_7 (fun z => absurd z (by decide)) (fun _ => f107 (d := d + 54) (fun Y y0 y1 y2 y3 y4 y5 y6 y7 => k_125_33 (f79 (d := d + 54) (fun Z e0 e1 e2 e3 e4 e5 e6 => k_125_44 (e_1 (d := d + 55) (k_125_51 (e_25 (d := d + 55) (k_125_58 ?_))))))))
    obtain ⟨X, eX⟩ : ∃ X, X = u2 (u2 (u2 (u2 (u2 Z 33 1 0) 33 2 0) 266 8 0) 0 13 0) 0 8 0 := ⟨_, rfl⟩
    rw [← eX]
    have xr : ∀ c, c ≠ 0 → c ≠ 33 → c ≠ 266 → X c = Z c := fun c a1 a2 a3 => by rw [eX, u2_row_ne a1, u2_row_ne a1, u2_row_ne a3, u2_row_ne a2, u2_row_ne a2]
    have yr : ∀ c, c ≠ 1 → (c < 19 ∨ 26 < c) → Y c = hi1 c := fun c a1 a2 => by rw [y7 c a2, u2_row_ne a1]
    have ro : ∀ c j, c ≠ 1 → (u2 hi1 1 1 0) c j = hi1 c j := fun c j a1 => u2_nn (fun z => a1 z.1)
    have x19 : ∀ j, j ≤ 8 → X 19 j = hi1 5 j := fun j hj => by rw [xr 19 (by decide) (by decide) (by decide), e6 19 (by decide), y0 j hj, ro 5 j (by decide)]
    have ev : (u2 (u2 (u2 Z 33 1 0) 33 2 0) 266 8 0) 19 1 = nI (dP q.1) := by
      rw [u2_row_ne (by decide), u2_row_ne (by decide), u2_row_ne (by decide), e6 19 (by decide), y0 1 (by decide), ro 5 1 (by decide)]
      exact i1
    rw [ev]
    have ey6 : Y 19 6 = nI (dvl q.1 6) := by rw [y0 6 (by decide), ro 5 6 (by decide)]; exact i4 6 (by decide) (by decide)
    have ey1 : Y 19 1 = nI (dP q.1) := by rw [y0 1 (by decide), ro 5 1 (by decide)]; exact i1
    refine w1 k q.1 q.2 X hl1 t1 hA ⟨⟨?_, ?_, ?_, ?_, ?_, ?_, ?_, ?_⟩, ⟨?_, ?_, ?_, ?_, fun k k1 k2 => ?_⟩, fun p hp => ?_, fun p hp => ?_, fun c hc => ?_, fun k hk => ?_, ⟨?_, ?_, fun j x hx => ?_⟩, ⟨?_, ?_, ?_, fun j hj => ?_, fun j hj => ?_, fun j hj => ?_⟩⟩ (fun c hc => ?_) ?_ (cf.2 4 (by decide) (by decide))
    · rw [xr 3 (by decide) (by decide) (by decide), e6 3 (by decide), yr 3 (by decide) (by decide)]; exact z7
    · rw [xr 3 (by decide) (by decide) (by decide), e6 3 (by decide), yr 3 (by decide) (by decide)]; exact z8
    · rw [xr 1 (by decide) (by decide) (by decide), e6 1 (by decide), y7 1 (by decide), u2_s]
    · rw [eX, u2_nn (by decide), u2_s]
    · rw [eX, u2_s]
    · rw [eX, u2_nn (by decide), u2_nn (by decide), u2_nn (by decide), u2_nn (by decide), u2_s]
    · rw [eX, u2_nn (by decide), u2_nn (by decide), u2_nn (by decide), u2_s]
    · rw [eX, u2_nn (by decide), u2_nn (by decide), u2_s]
    · rw [x19 0 (by decide)]; exact i0
    · rw [x19 1 (by decide)]; exact i1
    · rw [x19 2 (by decide)]; exact i2
    · rw [x19 3 (by decide)]; exact i3
    · rw [x19 k k2]; exact i4 k k1 k2
    · rw [xr 20 (by decide) (by decide) (by decide), xr 21 (by decide) (by decide) (by decide), e6 20 (by decide), e6 21 (by decide), (y1 p (by omega)).1, (y1 p (by omega)).2.1, ro 6 p (by decide), ro 7 p (by decide)]
      exact i5 p hp
    · rw [xr 22 (by decide) (by decide) (by decide), e6 22 (by decide), (y1 p hp).2.2, ro 8 p (by decide)]
      exact i6 p hp
    · rw [xr 23 (by decide) (by decide) (by decide), e6 23 (by decide), y2 c (by omega), ro 9 c (by decide)]
      exact i7 c hc
    · rw [xr 24 (by decide) (by decide) (by decide), e6 24 (by decide), y3 k hk, ro 10 k (by decide)]
      exact i8 k hk
    · rw [xr 25 (by decide) (by decide) (by decide), e6 25 (by decide), y4, ro 11 2 (by decide)]; exact i11
    · rw [xr 25 (by decide) (by decide) (by decide), e6 25 (by decide), y5, ro 11 3 (by decide)]; exact i12
    · have hj : j < 269 := by
        have h1 : j < (dps q.1).length := by
          rcases Nat.lt_or_ge j (dps q.1).length with z | z
          · exact z
          · rw [List.getElem?_eq_none z] at hx
            cases hx
        rcases hpl with ⟨_, h2, _⟩ | ⟨_, _, h2⟩
        · rw [h2] at h1
          exact absurd h1 (Nat.not_lt_zero j)
        · omega
      rw [xr 26 (by decide) (by decide) (by decide), e6 26 (by decide), y6 j hj, ro 12 j (by decide)]
      exact i13 j x hx
    · rw [xr 28 (by decide) (by decide) (by decide)]
      have gz : g_108 Y (Y 19 6) = 0 ↔ dP q.1 = 0 := by
        unfold g_108
        rw [ey6, ey1, if_neg (nI_pos (by omega))]
        by_cases c : dvl q.1 6 < dP q.1
        · rw [if_neg (nI_ge c (by omega)), if_neg (show ¬ (8 : Int32) ≤ nI (dvl q.1 6) from nI_ge (b := 8) (by omega) (by decide))]
          exact ⟨fun z => absurd z (by decide), fun z => by omega⟩
        · rw [if_pos (nI_le (by omega) (by omega))]
          exact ⟨fun _ => by omega, fun _ => rfl⟩
      rcases e0 with ⟨g1, g2⟩ | ⟨g1, g2⟩
      · exact Or.inl ⟨gz.mp g1, g2⟩
      · exact Or.inr ⟨Nat.pos_of_ne_zero (fun z => g1 (gz.mpr z)), by rw [g2]; exact ey6⟩
    · rw [xr 28 (by decide) (by decide) (by decide)]; exact e1
    · rw [xr 28 (by decide) (by decide) (by decide), e2, y0 8 (by decide), ro 5 8 (by decide)]
      exact i4 8 (by decide) (by decide)
    · rw [xr 29 (by decide) (by decide) (by decide)]; exact e3 j hj
    · rw [xr 30 (by decide) (by decide) (by decide)]; exact e4 j hj
    · rw [xr 31 (by decide) (by decide) (by decide)]; exact e5 j hj
    · rw [xr c (by omega) (by omega) (by omega), e6 c (by omega), yr c (by omega) (by omega)]
      exact cf.1 c (by omega)
    · rw [eX, u2_nn (by decide), u2_nn (by decide), u2_nn (by decide), u2_nn (by decide), u2_nn (by decide), e6 266 (by decide), yr 266 (by decide) (by decide), cf.1 266 (by decide)]
end VCE
