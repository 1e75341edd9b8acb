/-! ===== village: the reference reads the whole text ===== -/
section VRA
variable {d : Nat} {Q : am_Q} {hi hi' : Nat → Nat → Int32} {hl hl' : Nat → Nat → Int64} {sw : Bool} {kp : Nat → Nat} {n a : Nat} {f : Nat → Int32} {D : Dr}
theorem c204 {o : Out Dr} : ∀ (k : Nat) (D : Dr) (a : Nat) (hi : Nat → Nat → Int32) (hl : Nat → Nat → Int64), TA (byt n f) k D a o → RST n f D a hi hl → DA D → (∀ (hi' : Nat → Nat → Int32) (hl' : Nat → Nat → Int64), RO n f o hi' hl' → RF hi' hi hl' hl → Q none (mkH hi' hl' sw kp)) → cW cd_204 (d + 7) Q 123 [some (.ref 279)] [] (mkH hi hl sw kp)
  | 0, _, _, _, _, h, _, _, _ => by cases h
  | k + 1, D, a, hi, hl, h, hS, hA, w => by
    have z2 : hi 279 2 = 0 := hS.1.2.2.2.2.1
    have i0 : hi 279 6 = 0 ↔ ts (tk (byt n f) a) = 0 := hS.1.so (k := 0) (by decide)
    rcases h with ⟨h0, eo⟩ | ⟨h0, o1, hL, h⟩
    · exact k_204_123 (fun _ _ => w hi hl (Or.inr ⟨_, eo, hS⟩) RF.rf) (fun _ z => absurd (i0.mpr h0) z) (fun z => absurd z2 z)
    · refine k_204_123 (fun _ z => absurd (i0.mp z) h0) (fun _ _ => f203 (d := d) hS hA.1 hA.pu hL (fun hi1 hl1 r1 r2 => k_204_141 ?_)) (fun z => absurd z2 z)
      rcases h with ⟨e, e1, eo⟩ | ⟨q, e1, hT⟩
      · rcases r1 with ⟨e', e2, hF⟩ | ⟨q', e2, _⟩
        · have ee : e' = e := by
            rw [e1] at e2
            cases e2
            rfl
          rw [ee] at hF
          exact k_204_123 (fun z => absurd z hF.ne) (fun z => absurd z hF.ne) (fun _ => w hi1 hl1 (Or.inl ⟨e, eo, hF⟩) r2)
        · rw [e1] at e2
          cases e2
      · rcases r1 with ⟨e', e2, _⟩ | ⟨q', e2, hS2⟩
        · rw [e1] at e2
          cases e2
        · have ee : q' = q := by
            rw [e1] at e2
            cases e2
            rfl
          rw [ee] at hS2
          rw [e1] at hL
          exact c204 k q.1 q.2 hi1 hl1 hT hS2 (LN_i hA hL).1 (fun hi2 hl2 s1 s2 => w hi2 hl2 s1 (r2.tr s2))
theorem f204 {k : Nat} {o : Out Dr} (hn : n ≤ 1600) (e1 : hi 279 1 = nI n) (hb : ∀ j, j < n → ¬ hi 280 j < 0) (hA : TA (byt n (hi 280)) k D0 0 o) (w : ∀ (hi' : Nat → Nat → Int32) (hl' : Nat → Nat → Int64), RO n (hi 280) o hi' hl' → RF hi' (u2 hi 279 1 0) hl' hl → Q none (mkH hi' hl' sw kp)) : cS (d + 8) 204 [.ref 279] (mkH hi hl sw kp) Q := by
  refine e_204 (d := d + 7) (k_204_38 (k_204_74 (k_204_109 ?_)))
  obtain ⟨X, eX⟩ : ∃ X, X = u2 (u2 (u2 (u2 (u2 (u2 (u2 (u2 (u2 (u2 (u2 (u2 (u2 (u2 (u2 (u2 (u2 (u2 (u2 (u2 (u2 (u2 (u2 hi 279 5 (hi 279 1)) 279 1 0) 279 4 0) 279 2 0) 279 3 (-1)) 279 35 0) 279 36 0) 279 37 0) 279 38 0) 279 39 0) 279 40 8) 279 41 1) 279 42 0) 279 43 0) 279 44 0) 279 52 0) 279 53 0) 279 54 0) 279 55 0) 279 56 0) 279 57 0) 279 20 0) 279 17 0 := ⟨_, rfl⟩
  rw [← eX]
  have row : ∀ c, c ≠ 279 → X c = hi c := fun c hc => by
    rw [eX]
    iterate 23 rw [u2_row_ne hc]
  have x17 : X 279 17 = 0 := by rw [eX, u2_s]
  have x20 : X 279 20 = 0 := by rw [eX]; simp [u2_eq]
  have x5 : X 279 5 = nI n := by rw [eX, ← e1]; simp [u2_eq]
  have x4 : X 279 4 = nI 0 := by rw [eX]; simp [u2_eq]; rfl
  have x2 : X 279 2 = 0 := by rw [eX]; simp [u2_eq]
  have x3 : X 279 3 = -1 := by rw [eX]; simp [u2_eq]
  have x1 : X 279 1 = 0 := by rw [eX]; simp [u2_eq]
  have x35 : X 279 35 = 0 := by rw [eX]; simp [u2_eq]
  have x36 : X 279 36 = 0 := by rw [eX]; simp [u2_eq]
  have x37 : X 279 37 = 0 := by rw [eX]; simp [u2_eq]
  have x38 : X 279 38 = 0 := by rw [eX]; simp [u2_eq]
  have x39 : X 279 39 = 0 := by rw [eX]; simp [u2_eq]
  have x40 : X 279 40 = 8 := by rw [eX]; simp [u2_eq]
  have x41 : X 279 41 = 1 := by rw [eX]; simp [u2_eq]
  have x42 : X 279 42 = 0 := by rw [eX]; simp [u2_eq]
  have x43 : X 279 43 = 0 := by rw [eX]; simp [u2_eq]
  have x44 : X 279 44 = 0 := by rw [eX]; simp [u2_eq]
  have x52 : X 279 52 = 0 := by rw [eX]; simp [u2_eq]
  have x53 : X 279 53 = 0 := by rw [eX]; simp [u2_eq]
  have x54 : X 279 54 = 0 := by rw [eX]; simp [u2_eq]
  have x55 : X 279 55 = 0 := by rw [eX]; simp [u2_eq]
  have x56 : X 279 56 = 0 := by rw [eX]; simp [u2_eq]
  have x57 : X 279 57 = 0 := by rw [eX]; simp [u2_eq]
  have F : RF X (u2 hi 279 1 0) hl hl := by
    refine ⟨fun c j q => ?_, fun _ _ _ => rfl⟩
    by_cases hc : c = 279
    · subst hc
      by_cases hj : j = 1
      · rw [hj, x1, u2_s]
      · rw [eX, u2_nn (by omega), u2_nn (by omega), u2_nn (by omega), u2_nn (by omega), u2_nn (by omega), u2_nn (by omega), u2_nn (by omega), u2_nn (by omega), u2_nn (by omega), u2_nn (by omega), u2_nn (by omega), u2_nn (by omega), u2_nn (by omega), u2_nn (by omega), u2_nn (by omega), u2_nn (by omega), u2_nn (by omega), u2_nn (by omega), u2_nn (by omega), u2_nn (by omega), u2_nn (by omega), u2_nn (by omega), u2_nn (by omega), u2_nn (by omega)]
    · rw [row c hc, u2_row_ne hc]
  have h280 : X 280 = hi 280 := row 280 (by decide)
  have I0 : RI D0 X := by
    refine ⟨⟨x35, x36, x37, x38, x39, fun k k1 k2 => ?_⟩, fun p hp => absurd hp (Nat.not_lt_zero p), fun p hp => absurd hp (Nat.not_lt_zero p), fun e c he => absurd he (Nat.not_lt_zero e), fun i i1 i2 => ?_, ⟨x17, x20, fun j x q => by cases q⟩⟩
    · rcases (show k = 4 ∨ k = 5 ∨ k = 6 ∨ k = 7 ∨ k = 8 by omega) with rfl | rfl | rfl | rfl | rfl
      · exact x40
      · exact x41
      · exact x42
      · exact x43
      · exact x44
    · have ov : onv D0 i = 0 := by
        unfold onv
        rw [if_neg (by show ¬ (0 : Nat).testBit i = true; rw [Nat.zero_testBit]; decide)]
      rw [ov]
      rcases (show i = 5 ∨ i = 6 ∨ i = 7 ∨ i = 8 ∨ i = 9 ∨ i = 10 by omega) with rfl | rfl | rfl | rfl | rfl | rfl
      · exact x52
      · exact x53
      · exact x54
      · exact x55
      · exact x56
      · exact x57
  refine f170t (d := d + 5) (n := n) (a := 0) (by rw [h280]; exact hb) hn x5 x4 (Nat.zero_le n) (fun hi1 hl1 c1 c2 q1 => ?_)
  rw [h280] at c1 c2
  refine c204 (f := hi 280) k D0 0 hi1 hl1 hA ⟨⟨hn, by rw [q1.row (by decide)]; exact h280, hb, by rw [q1.1 279 5 (by omega)]; exact x5, by rw [q1.1 279 2 (by omega)]; exact x2, c1, c2⟩, I0.fr q1, fun i q => ?_, by rw [q1.1 279 3 (by omega)]; exact x3⟩ DA.d0 (fun hi2 hl2 r1 r2 => w hi2 hl2 r1 ((F.fr q1).tr r2))
  have q2 : i < 0 ∨ (4 ≤ i ∧ i < 4 + 0) ∨ (12 ≤ i ∧ i < 12 + 0) := q
  omega
end VRA
