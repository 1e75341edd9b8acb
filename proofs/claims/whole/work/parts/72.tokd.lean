/-! ===== tokens: the class's reader, advance ===== -/
section TOKD
variable {d : Nat} {Q : am_Q} {hi : Nat → Nat → Int32} {hl : Nat → Nat → Int64} {sw : Bool} {kp : Nat → Nat}
theorem sgn_v {c : Int32} (h : ¬ g_77 c = 0) : ∃ s : Nat, 32 < s ∧ s < 64 ∧ c = nI s := by
  rw [← sgn_eq] at h
  unfold g_169 at h
  by_cases h1 : c = 59
  · exact ⟨59, by decide, by decide, h1⟩
  rw [if_neg h1] at h
  by_cases h2 : c = 40
  · exact ⟨40, by decide, by decide, h2⟩
  rw [if_neg h2] at h
  by_cases h3 : c = 41
  · exact ⟨41, by decide, by decide, h3⟩
  rw [if_neg h3] at h
  by_cases h4 : c = 60
  · exact ⟨60, by decide, by decide, h4⟩
  rw [if_neg h4] at h
  by_cases h5 : c = 62
  · exact ⟨62, by decide, by decide, h5⟩
  rw [if_neg h5] at h
  by_cases h6 : c = 61
  · exact ⟨61, by decide, by decide, h6⟩
  rw [if_neg h6] at h
  by_cases h7 : c = 43
  · exact ⟨43, by decide, by decide, h7⟩
  rw [if_neg h7] at h
  by_cases h8 : c = 45
  · exact ⟨45, by decide, by decide, h8⟩
  rw [if_neg h8] at h
  by_cases h9 : c = 42
  · exact ⟨42, by decide, by decide, h9⟩
  rw [if_neg h9] at h
  by_cases h10 : c = 47
  · exact ⟨47, by decide, by decide, h10⟩
  rw [if_neg h10] at h
  by_cases h11 : c = 37
  · exact ⟨37, by decide, by decide, h11⟩
  rw [if_neg h11] at h
  exact absurd rfl h
theorem dg_w {b : Nat → Int32} {p k : Nat} (h : ¬ g_76 (b (p + k)) = 0) : nI (dgs b p k) * 10 + (b (p + k) - 48) = nI (dgs b p (k + 1)) := by
  obtain ⟨x, x2, x3⟩ := dig_v h
  have e1 : dgs b p (k + 1) = 10 * dgs b p k + x := by
    show 10 * dgs b p k + ((b (p + k)).toNatClampNeg - 48) = _
    rw [x3, nI_clamp (by omega)]
    omega
  rw [e1, x3, show nI (x + 48) - 48 = nI x from (pk_sub (a := x + 48) (b := 48) (by omega)).trans (by congr 1), show (10 : Int32) = nI 10 from rfl, pk_mul, nI_add, Nat.mul_comm]
theorem f69 {n p : Nat} {f : Nat → Int32} (ht : TP n f hi) (hp : p < n) (e3 : hi 3 3 = nI p) (e6 : hi 3 6 = nI p) (w' : ∀ (hi' : Nat → Nat → Int32) (q : Nat), RUN g_76 (byt n f) p q → q ≤ n → FT hi' hi hl hl → hi' 3 3 = nI p → hi' 3 6 = nI q → (((4 < q - p ∨ ¬ g_75 (byt n f q) = 0) ∧ hi' 3 2 = 1) ∨ (q - p ≤ 4 ∧ g_75 (byt n f q) = 0 ∧ hi' 3 2 = 3 ∧ hi' 3 4 = nI (dgs (byt n f) p (q - p)))) → Q none (mkH hi' hl sw kp)) : cS (d + 3) 69 [.ref 3] (mkH hi hl sw kp) Q := by
  obtain ⟨t1, t2, t3⟩ := id ht
  refine e_69 (cW.hi (hi := u2 (u2 hi 3 4 (nI 0)) 3 6 (nI p)) (by
    have : (u2 hi 3 4 (nI 0)) 3 6 = nI p := by rw [u2_nn (by decide)]; exact e6
    rw [← this, u2_id]
    rfl) (lpu (σ := Unit) (n - p) (fun k _ => cW cd_69 (d + 2) Q 5 [some (.ref 3), none] [] (mkH (u2 (u2 hi 3 4 (nI (dgs (byt n f) p (min k 4)))) 3 6 (nI (p + k))) hl sw kp)) (fun k _ => ∀ j, p ≤ j → j < p + k → ¬ g_76 (byt n f j) = 0) ?_ ?_ (n - p) 0 () (Nat.zero_add _) (fun j a1 a2 => absurd a2 (by omega))))
  all_goals
    have x6 : ∀ v k, (u2 (u2 hi 3 4 v) 3 6 (nI (p + k))) 3 6 = nI (p + k) := fun v k => u2_s
    have x3 : ∀ v k, (u2 (u2 hi 3 4 v) 3 6 (nI (p + k))) 3 3 = nI p := fun v k => by rw [u2_nn (by decide), u2_nn (by decide)]; exact e3
    have x4 : ∀ v k, (u2 (u2 hi 3 4 v) 3 6 (nI (p + k))) 3 4 = v := fun v k => by rw [u2_nn (by decide), u2_s]
    have x1 : ∀ v k, (u2 (u2 hi 3 4 v) 3 6 (nI (p + k))) 1 1 = nI n := fun v k => by rw [u2_row_ne (by decide), u2_row_ne (by decide)]; exact t2
    have xd : ∀ k, k ≤ 2000 → nI (p + k) - nI p = nI k := fun k hk => by
      rw [pk_sub (by omega)]
      congr 1
      omega
    have xb : ∀ v k, p + k ≤ 5000 → g_88 (u2 (u2 hi 3 4 v) 3 6 (nI (p + k))) (nI (p + k)) = byt n f (p + k) := fun v k hk => TP.b (hi := u2 (u2 hi 3 4 v) 3 6 (nI (p + k))) ⟨t1, x1 v k, fun j hj => by rw [u2_row_ne (by decide), u2_row_ne (by decide)]; exact t3 j hj⟩ hk
    have fin : ∀ k, k ≤ n - p → (∀ j, p ≤ j → j < p + k → ¬ g_76 (byt n f j) = 0) → g_76 (byt n f (p + k)) = 0 → ∀ y, ((4 < k ∨ ¬ g_75 (byt n f (p + k)) = 0) ∧ y = 1) ∨ (k ≤ 4 ∧ g_75 (byt n f (p + k)) = 0 ∧ y = 3) → Q none (mkH (u2 (u2 (u2 hi 3 4 (nI (dgs (byt n f) p (min k 4)))) 3 6 (nI (p + k))) 3 2 y) hl sw kp) := by
      intro k hk hI hend y hy
      refine w' _ (p + k) ⟨by omega, hI, hend⟩ (by omega) ⟨fun c j h => by rw [u2_nn (by omega), u2_nn (by omega), u2_nn (by omega)], fun _ _ => rfl⟩ (by rw [u2_nn (by decide)]; exact x3 _ k) (by rw [u2_nn (by decide)]; exact x6 _ k) ?_
      rw [show p + k - p = k by omega, u2_s]
      rcases hy with ⟨h1, h2⟩ | ⟨h1, h2, h3⟩
      · exact Or.inl ⟨h1, h2⟩
      · refine Or.inr ⟨h1, h2, h3, ?_⟩
        rw [u2_nn (by decide), x4, Nat.min_eq_left h1]
    have d4 : ∀ k, k ≤ 2000 → ((4 : Int32) < nI (p + k) - nI p ↔ 4 < k) := fun k hk => by
      rw [xd k hk]
      exact nI_ltI (a := 4) (by decide) (by omega)
  · intro _ hI
    have hle : (u2 (u2 hi 3 4 (nI (dgs (byt n f) p (min (n - p) 4)))) 3 6 (nI (p + (n - p)))) 1 1 ≤ (u2 (u2 hi 3 4 (nI (dgs (byt n f) p (min (n - p) 4)))) 3 6 (nI (p + (n - p)))) 3 6 := by
      rw [x1, x6]
      exact nI_le (by omega) (by omega)
    have hz : g_76 (byt n f (p + (n - p))) = 0 := by rw [byt_z (by omega)]; decide
    refine k_69_5 ?_ ?_ ?_ (fun c => absurd hle c) (fun c => absurd hle c) (fun c => absurd hle c) (fun c => absurd hle c) (fun c => absurd hle c) <;> rw [x6, x3, d4 _ (by omega)]
    · exact fun _ c => fin _ (Nat.le_refl _) hI hz 1 (Or.inl ⟨Or.inl c, rfl⟩)
    · rw [xb _ _ (by omega)]
      exact fun _ c1 c2 => fin _ (Nat.le_refl _) hI hz 3 (Or.inr ⟨by omega, c2, rfl⟩)
    · rw [xb _ _ (by omega)]
      exact fun _ c1 c2 => fin _ (Nat.le_refl _) hI hz 1 (Or.inl ⟨Or.inr c2, rfl⟩)
  · intro k _ hk hI ih
    have hg : ¬ (u2 (u2 hi 3 4 (nI (dgs (byt n f) p (min k 4)))) 3 6 (nI (p + k))) 1 1 ≤ (u2 (u2 hi 3 4 (nI (dgs (byt n f) p (min k 4)))) 3 6 (nI (p + k))) 3 6 := by
      rw [x1, x6]
      exact nI_ge (by omega) (by omega)
    refine k_69_5 (fun c => absurd c hg) (fun c => absurd c hg) (fun c => absurd c hg) ?_ ?_ ?_ ?_ ?_ <;> rw [x6, x3, xb _ k (by omega)]
    · rw [d4 k (by omega)]
      exact fun _ c0 c => fin k (by omega) hI c0 1 (Or.inl ⟨Or.inl c, rfl⟩)
    · rw [d4 k (by omega)]
      exact fun _ c0 c1 c2 => fin k (by omega) hI c0 3 (Or.inr ⟨by omega, c2, rfl⟩)
    · rw [d4 k (by omega)]
      exact fun _ c0 c1 c2 => fin k (by omega) hI c0 1 (Or.inl ⟨Or.inr c2, rfl⟩)
    · intro _ c1 c2
      rw [xd k (by omega)] at c2
      have hk4 : 4 ≤ k := (nI_leI (a := 4) (by decide) (by omega)).mp c2
      have := ih () (fun j a1 a2 => by
        by_cases c : j = p + k
        · subst c; exact c1
        · exact hI j a1 (by omega))
      rw [Nat.min_eq_right (by omega)] at this ⊢
      rw [nI_1]
      exact cW.hi (by rw [u2_u2]; rfl) this
    · intro _ c1 c2
      rw [xd k (by omega)] at c2
      have hk4 : k < 4 := by
        rcases Nat.lt_or_ge k 4 with z | z
        · exact z
        · exact absurd (nI_le (a := 4) z (by omega)) c2
      have := ih () (fun j a1 a2 => by
        by_cases c : j = p + k
        · subst c; exact c1
        · exact hI j a1 (by omega))
      rw [Nat.min_eq_left (by omega)] at this ⊢
      rw [x4, dg_w c1, nI_1]
      refine cW.hi ?_ this
      rw [u2_cc (j := 6) (l := 4) (by decide), u2_u2, u2_u2]
      rfl
end TOKD
