/-! ===== village: the class tells the whole text ===== -/
section VTA
variable {d : Nat} {Q : am_Q} {hi hi' : Nat → Nat → Int32} {hl hl' : Nat → Nat → Int64} {sw : Bool} {kp : Nat → Nat} {n a : Nat} {f : Nat → Int32} {D : Dr}
theorem f287_8 (w : ∀ Y : Nat → Nat → Int32, (∀ j, j < 8 → Y 8 j = 0) → (∀ c, c ≠ 8 → Y c = hi c) → Q none (mkH Y hl sw kp)) : cS (d + 1) 287 [.ref 8, .int 0] (mkH hi hl sw kp) Q := by
  refine e_287_8 (lpu (σ := Nat → Nat → Int32) 8 (fun i Y => cW cd_287 d Q 5 [some (.ref 8), some (.int 0), some (.int (nI i)), some (.int (Int32.ofNat 8))] [] (mkH Y hl sw kp)) (fun i Y => (∀ j, j < i → Y 8 j = 0) ∧ ∀ c, c ≠ 8 → Y c = hi c) ?_ ?_ 8 0 hi rfl ⟨fun j hj => absurd hj (Nat.not_lt_zero j), fun _ _ => rfl⟩)
  · intro Y h
    exact k_287_8_5 (fun _ => w Y h.1 h.2) (fun z => absurd (Int32.le_refl _) z) (fun z => absurd (Int32.le_refl _) z)
  · intro i Y hi2 h ih
    have nle : ¬ (Int32.ofNat 8) ≤ nI i := nI_ge (b := 8) hi2 (by decide)
    refine k_287_8_5 (fun z => absurd z nle) (fun _ => vp_in_nI (by omega) (by decide)) (fun _ => ?_)
    rw [nI_clamp (by omega), ← nI_succ]
    refine ih _ ⟨fun j hj => ?_, fun c hc => by rw [u2_row_ne hc]; exact h.2 c hc⟩
    by_cases c : j = i
    · rw [c, u2_s]
    · rw [u2_nn (fun z => c z.2)]
      exact h.1 j (by omega)
theorem f287_10 (w : ∀ Y : Nat → Nat → Int32, (∀ j, j < 16 → Y 10 j = 0) → (∀ c, c ≠ 10 → Y c = hi c) → Q none (mkH Y hl sw kp)) : cS (d + 1) 287 [.ref 10, .int 0] (mkH hi hl sw kp) Q := by
  refine e_287_10 (lpu (σ := Nat → Nat → Int32) 16 (fun i Y => cW cd_287 d Q 5 [some (.ref 10), some (.int 0), some (.int (nI i)), some (.int (Int32.ofNat 16))] [] (mkH Y hl sw kp)) (fun i Y => (∀ j, j < i → Y 10 j = 0) ∧ ∀ c, c ≠ 10 → Y c = hi c) ?_ ?_ 16 0 hi rfl ⟨fun j hj => absurd hj (Nat.not_lt_zero j), fun _ _ => rfl⟩)
  · intro Y h
    exact k_287_10_5 (fun _ => w Y h.1 h.2) (fun z => absurd (Int32.le_refl _) z) (fun z => absurd (Int32.le_refl _) z)
  · intro i Y hi2 h ih
    have nle : ¬ (Int32.ofNat 16) ≤ nI i := nI_ge (b := 16) hi2 (by decide)
    refine k_287_10_5 (fun z => absurd z nle) (fun _ => vp_in_nI (by omega) (by decide)) (fun _ => ?_)
    rw [nI_clamp (by omega), ← nI_succ]
    refine ih _ ⟨fun j hj => ?_, fun c hc => by rw [u2_row_ne hc]; exact h.2 c hc⟩
    by_cases c : j = i
    · rw [c, u2_s]
    · rw [u2_nn (fun z => c z.2)]
      exact h.1 j (by omega)
theorem f287_29 (w : ∀ Y : Nat → Nat → Int32, (∀ j, j < 8 → Y 29 j = 0) → (∀ c, c ≠ 29 → Y c = hi c) → Q none (mkH Y hl sw kp)) : cS (d + 1) 287 [.ref 29, .int 0] (mkH hi hl sw kp) Q := by
  refine e_287_29 (lpu (σ := Nat → Nat → Int32) 8 (fun i Y => cW cd_287 d Q 5 [some (.ref 29), some (.int 0), some (.int (nI i)), some (.int (Int32.ofNat 8))] [] (mkH Y hl sw kp)) (fun i Y => (∀ j, j < i → Y 29 j = 0) ∧ ∀ c, c ≠ 29 → Y c = hi c) ?_ ?_ 8 0 hi rfl ⟨fun j hj => absurd hj (Nat.not_lt_zero j), fun _ _ => rfl⟩)
  · intro Y h
    exact k_287_29_5 (fun _ => w Y h.1 h.2) (fun z => absurd (Int32.le_refl _) z) (fun z => absurd (Int32.le_refl _) z)
  · intro i Y hi2 h ih
    have nle : ¬ (Int32.ofNat 8) ≤ nI i := nI_ge (b := 8) hi2 (by decide)
    refine k_287_29_5 (fun z => absurd z nle) (fun _ => vp_in_nI (by omega) (by decide)) (fun _ => ?_)
    rw [nI_clamp (by omega), ← nI_succ]
    refine ih _ ⟨fun j hj => ?_, fun c hc => by rw [u2_row_ne hc]; exact h.2 c hc⟩
    by_cases c : j = i
    · rw [c, u2_s]
    · rw [u2_nn (fun z => c z.2)]
      exact h.1 j (by omega)
theorem f287_30 (w : ∀ Y : Nat → Nat → Int32, (∀ j, j < 4 → Y 30 j = 0) → (∀ c, c ≠ 30 → Y c = hi c) → Q none (mkH Y hl sw kp)) : cS (d + 1) 287 [.ref 30, .int 0] (mkH hi hl sw kp) Q := by
  refine e_287_30 (lpu (σ := Nat → Nat → Int32) 4 (fun i Y => cW cd_287 d Q 5 [some (.ref 30), some (.int 0), some (.int (nI i)), some (.int (Int32.ofNat 4))] [] (mkH Y hl sw kp)) (fun i Y => (∀ j, j < i → Y 30 j = 0) ∧ ∀ c, c ≠ 30 → Y c = hi c) ?_ ?_ 4 0 hi rfl ⟨fun j hj => absurd hj (Nat.not_lt_zero j), fun _ _ => rfl⟩)
  · intro Y h
    exact k_287_30_5 (fun _ => w Y h.1 h.2) (fun z => absurd (Int32.le_refl _) z) (fun z => absurd (Int32.le_refl _) z)
  · intro i Y hi2 h ih
    have nle : ¬ (Int32.ofNat 4) ≤ nI i := nI_ge (b := 4) hi2 (by decide)
    refine k_287_30_5 (fun z => absurd z nle) (fun _ => vp_in_nI (by omega) (by decide)) (fun _ => ?_)
    rw [nI_clamp (by omega), ← nI_succ]
    refine ih _ ⟨fun j hj => ?_, fun c hc => by rw [u2_row_ne hc]; exact h.2 c hc⟩
    by_cases c : j = i
    · rw [c, u2_s]
    · rw [u2_nn (fun z => c z.2)]
      exact h.1 j (by omega)
theorem f287_31 (w : ∀ Y : Nat → Nat → Int32, (∀ j, j < 4 → Y 31 j = 0) → (∀ c, c ≠ 31 → Y c = hi c) → Q none (mkH Y hl sw kp)) : cS (d + 1) 287 [.ref 31, .int 0] (mkH hi hl sw kp) Q := by
  refine e_287_31 (lpu (σ := Nat → Nat → Int32) 4 (fun i Y => cW cd_287 d Q 5 [some (.ref 31), some (.int 0), some (.int (nI i)), some (.int (Int32.ofNat 4))] [] (mkH Y hl sw kp)) (fun i Y => (∀ j, j < i → Y 31 j = 0) ∧ ∀ c, c ≠ 31 → Y c = hi c) ?_ ?_ 4 0 hi rfl ⟨fun j hj => absurd hj (Nat.not_lt_zero j), fun _ _ => rfl⟩)
  · intro Y h
    exact k_287_31_5 (fun _ => w Y h.1 h.2) (fun z => absurd (Int32.le_refl _) z) (fun z => absurd (Int32.le_refl _) z)
  · intro i Y hi2 h ih
    have nle : ¬ (Int32.ofNat 4) ≤ nI i := nI_ge (b := 4) hi2 (by decide)
    refine k_287_31_5 (fun z => absurd z nle) (fun _ => vp_in_nI (by omega) (by decide)) (fun _ => ?_)
    rw [nI_clamp (by omega), ← nI_succ]
    refine ih _ ⟨fun j hj => ?_, fun c hc => by rw [u2_row_ne hc]; exact h.2 c hc⟩
    by_cases c : j = i
    · rw [c, u2_s]
    · rw [u2_nn (fun z => c z.2)]
      exact h.1 j (by omega)
theorem tk_end (h : n ≤ a) : ts (tk (byt n f) a) = 0 := by
  have hb : byt n f a = -1 := byt_z h
  have h74 : g_74 (-1) = 0 := by decide
  unfold tk
  have e : rnd g_74 (byt n f) 1601 a = a := by
    show (if g_74 (byt n f a) = 0 then a else rnd g_74 (byt n f) 1600 (a + 1)) = a
    rw [hb, if_pos h74]
  rw [e]
  unfold tkp
  rw [if_pos hb]
/-- the draft cleared -/
theorem f106 (w : ∀ Y : Nat → Nat → Int32, (∀ X : Nat → Nat → Int32, (∀ c, c ≠ 3 → c ≠ 14 → X c = Y c) → X 14 6 = 0 → X 14 7 = 0 → CI D0 X) → (∀ c, c ≠ 5 → c ≠ 8 → c ≠ 10 → c ≠ 11 → Y c = hi c) → Q none (mkH Y hl sw kp)) : cS (d + 2) 106 [.ref 5] (mkH hi hl sw kp) Q := by
  refine e_106 (d := d + 1) (k_106_36 (f287_8 (d := d) (fun Y1 y1 y2 => k_106_54 (f287_10 (d := d) (fun Y2 v1 v2 => k_106_62 (e_7 (d := d) (k_106_69 (w _ (fun X hX x6 x7 => ?_) (fun c c1 c2 c3 c4 => ?_)))))))))
  · have r5 : X 5 = u2 (u2 (u2 (u2 (u2 (u2 (u2 (u2 (u2 hi 5 0 0) 5 1 0) 5 2 0) 5 3 0) 5 4 8) 5 5 1) 5 6 0) 5 7 0) 5 8 0 5 := by
      rw [hX 5 (by decide) (by decide), u2_row_ne (by decide), u2_row_ne (by decide), v2 5 (by decide), y2 5 (by decide)]
    refine ⟨⟨?_, ?_, ?_, ?_, fun k k1 k2 => ?_⟩, fun p hp => absurd hp (Nat.not_lt_zero p), fun p hp => ?_, fun p hp => absurd hp (Nat.not_lt_zero p), fun k hk => ?_, x6, x7, ⟨?_, ?_, fun j x q => by cases q⟩⟩
    · rw [r5, u2_nn (by decide), u2_nn (by decide), u2_nn (by decide), u2_nn (by decide), u2_nn (by decide), u2_nn (by decide), u2_nn (by decide), u2_nn (by decide), u2_s]; rfl
    · rw [r5, u2_nn (by decide), u2_nn (by decide), u2_nn (by decide), u2_nn (by decide), u2_nn (by decide), u2_nn (by decide), u2_nn (by decide), u2_s]; rfl
    · rw [r5, u2_nn (by decide), u2_nn (by decide), u2_nn (by decide), u2_nn (by decide), u2_nn (by decide), u2_nn (by decide), u2_s]; rfl
    · rw [r5, u2_nn (by decide), u2_nn (by decide), u2_nn (by decide), u2_nn (by decide), u2_nn (by decide), u2_s]; rfl
    · rw [r5]
      rcases (show k = 4 ∨ k = 5 ∨ k = 6 ∨ k = 7 ∨ k = 8 by omega) with rfl | rfl | rfl | rfl | rfl
      · rw [u2_nn (by decide), u2_nn (by decide), u2_nn (by decide), u2_nn (by decide), u2_s]; rfl
      · rw [u2_nn (by decide), u2_nn (by decide), u2_nn (by decide), u2_s]; rfl
      · rw [u2_nn (by decide), u2_nn (by decide), u2_s]; rfl
      · rw [u2_nn (by decide), u2_s]; rfl
      · rw [u2_s]; rfl
    · rw [hX 8 (by decide) (by decide), u2_row_ne (by decide), u2_row_ne (by decide), v2 8 (by decide), y1 p hp]; rfl
    · rw [hX 10 (by decide) (by decide), u2_row_ne (by decide), u2_row_ne (by decide), v1 k hk]; rfl
    · rw [hX 11 (by decide) (by decide), u2_nn (by decide), u2_s]; rfl
    · rw [hX 11 (by decide) (by decide), u2_s]; rfl
  · rw [u2_row_ne c4, u2_row_ne c4, v2 c c3, y2 c c2, u2_row_ne c1, u2_row_ne c1, u2_row_ne c1, u2_row_ne c1, u2_row_ne c1, u2_row_ne c1, u2_row_ne c1, u2_row_ne c1, u2_row_ne c1]
abbrev TS : Type := (Nat → Nat → Int32) × (Nat → Nat → Int64) × Dr × Nat
/-- the whole text -/
theorem f90 (hT : TP n f hi) (h4 : ∀ j, j < 21 → hl 4 j = rd_W j) (w : ∀ k o r (hi' : Nat → Nat → Int32) (hl' : Nat → Nat → Int64), TA (byt n f) k D0 0 o → CO n f o r hi' hl' → (∀ q, o = .inr q → DA q.1) → CF hi' hi hl' hl → Q (some (.int r)) (mkH hi' hl' sw kp)) : cS (d + 56) 90 [.ref 14] (mkH hi hl sw kp) Q := by
  refine e_90 (d := d + 55) (f106 (d := d + 53) (fun Y yC yF => k_90_7 (e_66 (d := d + 54) ?_)))
  have F1 : CF (u2 (u2 (u2 (u2 (u2 Y 14 6 0) 14 7 0) 3 7 0) 3 8 (-1)) 3 6 0) hi hl hl := by
    refine ((((CF.u (CF.u ⟨fun c q => yF c (by omega) (by omega) (by omega) (by omega), fun _ _ _ => rfl⟩ (by decide)) (by decide)).u (by decide)).u (by decide)).u (by decide))
  refine f67t (d := d + 50) (n := n) (a := 0) (f := f) ?_ h4 (Nat.zero_le n) u2_s (fun hi1 hl1 c1 c2 q1 => k_66_19 (k_90_24 ?_))
  · refine ⟨hT.1, ?_, fun j hj => ?_⟩
    · rw [u2_row_ne (by decide), u2_row_ne (by decide), u2_row_ne (by decide), u2_row_ne (by decide), u2_row_ne (by decide), yF 1 (by decide) (by decide) (by decide) (by decide)]
      exact hT.2.1
    · rw [u2_row_ne (by decide), u2_row_ne (by decide), u2_row_ne (by decide), u2_row_ne (by decide), u2_row_ne (by decide), yF 2 (by decide) (by decide) (by decide) (by decide)]
      exact hT.2.2 j hj
  have S0 : CST n f D0 0 hi1 hl1 := by
    refine ⟨⟨?_, ?_, c1, c2⟩, (yC _ (fun c a1 a2 => ?_) ?_ ?_).ft q1, ⟨fun i hi => absurd hi (Nat.not_lt_zero i), fun i hi => absurd hi (Nat.not_lt_zero i), fun i hi => absurd hi (Nat.not_lt_zero i)⟩, q1.z7 ?_, q1.z8 ?_⟩
    · refine q1.tp ⟨hT.1, ?_, fun j hj => ?_⟩
      · rw [u2_row_ne (by decide), u2_row_ne (by decide), u2_row_ne (by decide), u2_row_ne (by decide), u2_row_ne (by decide), yF 1 (by decide) (by decide) (by decide) (by decide)]
        exact hT.2.1
      · rw [u2_row_ne (by decide), u2_row_ne (by decide), u2_row_ne (by decide), u2_row_ne (by decide), u2_row_ne (by decide), yF 2 (by decide) (by decide) (by decide) (by decide)]
        exact hT.2.2 j hj
    · rw [q1.2 4 (by decide)]
      exact h4
    · rw [u2_row_ne a1, u2_row_ne a1, u2_row_ne a1, u2_row_ne a2, u2_row_ne a2]
    · rw [u2_nn (by decide), u2_nn (by decide), u2_nn (by decide), u2_nn (by decide), u2_s]
    · rw [u2_nn (by decide), u2_nn (by decide), u2_nn (by decide), u2_s]
    · rw [u2_nn (by decide), u2_nn (by decide), u2_s]
    · rw [u2_nn (by decide), u2_s]
  refine lpu (σ := TS) 1600 (fun i s => cW cd_90 (d + 55) Q 26 [some (.ref 14), some (.int (nI i))] [] (mkH s.1 s.2.1 sw kp)) (fun i s => CST n f s.2.2.1 s.2.2.2 s.1 s.2.1 ∧ DA s.2.2.1 ∧ i ≤ s.2.2.2 ∧ CF s.1 hi s.2.1 hl ∧ ∀ k o, TA (byt n f) k s.2.2.1 s.2.2.2 o → TA (byt n f) (k + i) D0 0 o) ?_ ?_ 1600 0 (hi1, hl1, D0, 0) (Nat.zero_add _) ⟨S0, DA.d0, Nat.le_refl 0, F1.ft q1, fun k o h => h⟩
  · intro s ⟨s1, s2, s3, s4, s5⟩
    have h0 : ts (tk (byt n f) s.2.2.2) = 0 := tk_end (Nat.le_trans hT.1 s3)
    refine k_90_26 (fun _ => w (1 + 1600) (.inr (s.2.2.1, s.2.2.2)) 1 s.1 s.2.1 (s5 1 _ (Or.inl ⟨h0, rfl⟩)) (Or.inr ⟨_, rfl, rfl, s1⟩) (fun q e => by cases e; exact s2) s4) (fun z => absurd (by decide) z) (fun z => absurd (by decide) z)
  · intro i s hi16 ⟨s1, s2, s3, s4, s5⟩ ih
    have h16 : ¬ (1600 : Int32) ≤ nI i := nI_ge (b := 1600) hi16 (by decide)
    refine k_90_26 (fun z => absurd z h16) (fun _ z => ?_) (fun _ z => ?_)
    · have h0 := s1.1.fin.mp z
      exact w (1 + i) (.inr (s.2.2.1, s.2.2.2)) 1 s.1 s.2.1 (s5 1 _ (Or.inl ⟨h0, rfl⟩)) (Or.inr ⟨_, rfl, rfl, s1⟩) (fun q e => by cases e; exact s2) s4
    · have h0 : ts (tk (byt n f) s.2.2.2) ≠ 0 := fun y => z (s1.1.fin.mpr y)
      refine f91 (d := d) s1 s2.1 s2.pu (fun o r hi2 hl2 L1 o1 o2 => ?_)
      rcases o1 with ⟨e, eo, rfl, z7, z8⟩ | ⟨q, eo, rfl, cs⟩
      · exact k_90_47 (fun _ => w (1 + i) (.inl e) 0 hi2 hl2 (s5 1 _ (Or.inr ⟨h0, o, L1, Or.inl ⟨e, eo, rfl⟩⟩)) (Or.inl ⟨e, rfl, rfl, z7, z8⟩) (fun q e => by cases e) (s4.tr o2)) (fun y => absurd rfl y)
      · refine k_90_47 (fun y => absurd y (by decide)) (fun _ => ?_)
        rw [← nI_succ]
        rw [eo] at L1
        have hl := LN_i s2 L1
        refine ih (hi2, hl2, q.1, q.2) ⟨cs, hl.1, by show i + 1 ≤ q.2; have := hl.2; omega, s4.tr o2, fun k o' h => ?_⟩
        have h2 := s5 (k + 1) o' (Or.inr ⟨h0, _, L1, Or.inr ⟨q, rfl, h⟩⟩)
        rw [show k + (i + 1) = k + 1 + i by omega]
        exact h2
end VTA
