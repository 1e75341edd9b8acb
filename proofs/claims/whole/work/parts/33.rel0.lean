/-! ===== the relation holds where the law's loop begins ===== -/
set_option maxRecDepth 100000 in
theorem z_bones : ∀ p, p < 8 → hi0 29 p = nI 0 ∧ hi0 299 p = nI 0 := by decide +kernel
set_option maxRecDepth 100000 in
theorem z_sc : ∀ c, c < 4 → hi0 30 c = 0 ∧ hi0 31 c = 0 ∧ hi0 299 (8 + c) = 0 ∧ hi0 299 (12 + c) = 0 := by decide +kernel
set_option maxRecDepth 100000 in
theorem z_box : ∀ b, b < 3 → hi0 322 b = nI 0 := by decide +kernel
set_option maxRecDepth 100000 in
theorem z_vil : R_vil (0, 0, 0, 0, 8, 1, 0, 0) hi0 := by
  refine ⟨by decide, ⟨?_, ?_, ?_, ?_, ?_, ?_, ?_, ?_⟩, ⟨?_, ?_, ?_, ?_, ?_, ?_, ?_⟩, fun p hp => absurd hp (Nat.not_lt_zero p), fun c hc => absurd hc (Nat.not_lt_zero c), fun e c he => absurd he (Nat.not_lt_zero e)⟩ <;> decide +kernel
set_option maxRecDepth 100000 in
theorem z_now : SRc (0, 0, 0, 0, 8, 1, 0, 0) hi0 28 (hi0 299) := by
  refine ⟨0, by decide, by decide +kernel, by decide +kernel, by decide +kernel, Or.inl ⟨rfl, by decide +kernel⟩, by decide +kernel, ⟨0, by decide, by decide +kernel⟩, by decide +kernel, fun p hp => ⟨0, by decide, (z_bones p hp).1, (z_bones p hp).2⟩, fun c hc => ?_, by decide +kernel, fun k hk => absurd hk (by simp)⟩
  obtain ⟨h1, h2, h3, h4⟩ := z_sc c hc
  have e1 : hi0 (28 + 2) c = 0 := h1
  have e2 : hi0 (28 + 3) c = 0 := h2
  rw [e1, e2, h3, h4]
  exact ⟨rfl, rfl, Or.inl rfl, by decide, by decide, fun q => absurd q (Nat.not_lt_zero c)⟩
set_option maxRecDepth 100000 in
theorem rel0 : Rel hi0 hl0 false kp0 := by
  refine ⟨⟨0, by decide, by decide +kernel, by decide +kernel, fun j hj => absurd hj (Nat.not_lt_zero j)⟩, ⟨by decide +kernel, by decide +kernel⟩, ⟨0, by decide, by decide +kernel, by decide +kernel, fun j hj => absurd hj (Nat.not_lt_zero j)⟩, ⟨0, 0, by decide, by decide, by decide +kernel, by decide +kernel, by decide +kernel, by decide +kernel, fun j hj => absurd hj (Nat.not_lt_zero j)⟩, fun j hj => rfl, ⟨fun j h => h, fun i j _ _ h => h⟩, ?_⟩
  refine ⟨(0, 0, 0, 0, 8, 1, 0, 0), z_vil, ⟨0, by decide, by decide +kernel, by decide +kernel, by decide +kernel, Or.inl ⟨by decide +kernel, rfl⟩, fun k hk => absurd hk (Nat.not_lt_zero k)⟩, z_now, ⟨0, 0, by decide, by decide +kernel, by decide +kernel, by decide +kernel, by decide +kernel, fun j hj => absurd hj (Nat.not_lt_zero j), fun j h1 h2 => absurd h2 (Nat.not_lt_zero j), fun q => absurd q (Nat.lt_irrefl 0)⟩, ⟨0, by decide, by decide +kernel, fun b hb => ⟨?_, fun q => absurd q (by simp)⟩⟩⟩
  rw [z_box b hb]
  simp
