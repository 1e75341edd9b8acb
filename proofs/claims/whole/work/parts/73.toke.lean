/-! ===== tokens: the class's advance ===== -/
section TOKE
variable {d : Nat} {Q : am_Q} {hi : Nat → Nat → Int32} {hl : Nat → Nat → Int64} {sw : Bool} {kp : Nat → Nat}
theorem f67 {n a : Nat} {f : Nat → Int32} (ht : TP n f hi) (h4 : ∀ j, j < 21 → hl 4 j = rd_W j) (ha : a ≤ n) (e6 : hi 3 6 = nI a) (w' : ∀ (hi' : Nat → Nat → Int32) (hl' : Nat → Nat → Int64) (p s : Nat) (l : List Nat) (v e : Nat), TKN (byt n f) a p s l v e → (s ≠ 3 → e ≤ n) → CT hi' hl' p s l v e → FT hi' hi hl' hl → Q none (mkH hi' hl' sw kp)) : cS (d + 4) 67 [.ref 3] (mkH hi hl sw kp) Q := by
  obtain ⟨t1, t2, t3⟩ := id ht
  have go : cW cd_67 (d + 3) Q 0 [some (.ref 3), none] [] (mkH (u2 hi 3 6 (nI a)) hl sw kp) := by
    refine lpu (σ := Unit) (n - a) (fun k _ => cW cd_67 (d + 3) Q 0 [some (.ref 3), none] [] (mkH (u2 hi 3 6 (nI (a + k))) hl sw kp)) (fun k _ => ∀ j, a ≤ j → j < a + k → ¬ g_74 (byt n f j) = 0) ?_ ?_ (n - a) 0 () (Nat.zero_add _) (fun j a1 a2 => absurd a2 (by omega))
    all_goals
      have x6 : ∀ k, (u2 hi 3 6 (nI (a + k))) 3 6 = nI (a + k) := fun k => u2_s
      have x1 : ∀ k, (u2 hi 3 6 (nI (a + k))) 1 1 = nI n := fun k => by rw [u2_row_ne (by decide)]; exact t2
      have tp : ∀ k, TP n f (u2 (u2 hi 3 6 (nI (a + k))) 3 3 (nI (a + k))) := fun k => ⟨t1, by rw [u2_row_ne (by decide)]; exact x1 k, fun j hj => by rw [u2_row_ne (by decide), u2_row_ne (by decide)]; exact t3 j hj⟩
      have xb : ∀ k, a + k ≤ 5000 → g_88 (u2 (u2 hi 3 6 (nI (a + k))) 3 3 (nI (a + k))) (nI (a + k)) = byt n f (a + k) := fun k hk => TP.b (tp k) hk
      have y3 : ∀ k, (u2 (u2 hi 3 6 (nI (a + k))) 3 3 (nI (a + k))) 3 3 = nI (a + k) := fun k => u2_s
      have y6 : ∀ k, (u2 (u2 hi 3 6 (nI (a + k))) 3 3 (nI (a + k))) 3 6 = nI (a + k) := fun k => by rw [u2_nn (by decide)]; exact x6 k
      have fr : ∀ k c j, ¬ (c = 3 ∧ 2 ≤ j ∧ j ≤ 6) → (u2 (u2 hi 3 6 (nI (a + k))) 3 3 (nI (a + k))) c j = hi c j := fun k c j h => by rw [u2_nn (by omega), u2_nn (by omega)]
      -- behind the blanks
      have b0 : ∀ k, k ≤ n - a → RUN g_74 (byt n f) a (a + k) → byt n f (a + k) = -1 → Q none (mkH (u2 (u2 (u2 hi 3 6 (nI (a + k))) 3 3 (nI (a + k))) 3 2 0) hl sw kp) := fun k hk hr hb =>
        w' _ _ (a + k) 0 [] 0 (a + k) ⟨hr, Or.inl ⟨rfl, hb, rfl⟩⟩ (fun _ => by omega) ⟨by rw [u2_nn (by decide)]; exact y3 k, fun _ => u2_s, fun z => absurd z (by decide), fun z => absurd z (by decide), fun z => absurd z (by decide), fun z => absurd z (by decide), fun _ => by rw [u2_nn (by decide)]; exact y6 k⟩ ⟨fun c j h => by rw [u2_nn (by omega)]; exact fr k c j h, fun _ _ => rfl⟩
      have b1 : ∀ k, k ≤ n - a → RUN g_74 (byt n f) a (a + k) → ¬ byt n f (a + k) = -1 → g_75 (byt n f (a + k)) = 0 → g_76 (byt n f (a + k)) = 0 → g_77 (byt n f (a + k)) = 0 → Q none (mkH (u2 (u2 (u2 (u2 hi 3 6 (nI (a + k))) 3 3 (nI (a + k))) 3 2 1) 3 6 (nI (a + k) + 1)) hl sw kp) := fun k hk hr c1 c2 c3 c4 =>
        w' _ _ (a + k) 3 [] 0 0 ⟨hr, Or.inr (Or.inr (Or.inr (Or.inl ⟨c1, c2, c3, c4, rfl⟩)))⟩ (fun z => absurd rfl z) ⟨by rw [u2_nn (by decide), u2_nn (by decide)]; exact y3 k, fun z => absurd z (by decide), fun z => absurd z (by decide), fun z => absurd z (by decide), fun _ => by rw [u2_nn (by decide)]; exact u2_s, fun z => absurd z (by decide), fun z => absurd rfl z⟩ ⟨fun c j h => by rw [u2_nn (by omega), u2_nn (by omega)]; exact fr k c j h, fun _ _ => rfl⟩
      have hlt : ∀ k, ¬ byt n f (a + k) = -1 → a + k < n := fun k h => by
        rcases Nat.lt_or_ge (a + k) n with z | z
        · exact z
        · exact absurd (byt_z z) h
      have b2 : ∀ k, k ≤ n - a → RUN g_74 (byt n f) a (a + k) → ¬ byt n f (a + k) = -1 → g_75 (byt n f (a + k)) = 0 → g_76 (byt n f (a + k)) = 0 → ¬ g_77 (byt n f (a + k)) = 0 → Q none (mkH (u2 (u2 (u2 (u2 hi 3 6 (nI (a + k))) 3 3 (nI (a + k))) 3 2 (byt n f (a + k))) 3 6 (nI (a + k) + 1)) hl sw kp) := fun k hk hr c1 c2 c3 c4 => by
        obtain ⟨s, s1, s2, s3⟩ := sgn_v c4
        have := hlt k c1
        exact w' _ _ (a + k) s [] 0 (a + k + 1) ⟨hr, Or.inr (Or.inr (Or.inr (Or.inr ⟨c1, c2, c3, c4, s3, s1, s2, rfl⟩)))⟩ (fun _ => by omega) ⟨by rw [u2_nn (by decide), u2_nn (by decide)]; exact y3 k, fun z => by omega, fun z => by omega, fun z => by omega, fun z => by omega, fun _ => by rw [u2_nn (by decide), u2_s]; exact s3, fun _ => by rw [u2_s, nI_1]⟩ ⟨fun c j h => by rw [u2_nn (by omega), u2_nn (by omega)]; exact fr k c j h, fun _ _ => rfl⟩
      have b3 : ∀ k, k ≤ n - a → RUN g_74 (byt n f) a (a + k) → ¬ byt n f (a + k) = -1 → g_75 (byt n f (a + k)) = 0 → ¬ g_76 (byt n f (a + k)) = 0 → ∀ x, cS (d + 3) 69 [.ref 3] (mkH (u2 (u2 hi 3 6 (nI (a + k))) 3 3 (nI (a + k))) hl sw kp) (am_ret (cW cd_67 (d + 3) Q) 102 [some (.ref 3), some (.int x)] []) := fun k hk hr c1 c2 c3 x => by
        refine f69 (d := d) (tp k) (hlt k c1) (y3 k) (y6 k) (fun hi' q r1 r2 r3 r4 r5 r6 => k_67_102 ?_)
        have ft : FT hi' hi hl hl := ⟨fun c j h => by rw [r3.1 c j h]; exact fr k c j h, fun _ _ => rfl⟩
        rcases r6 with ⟨s1, s2⟩ | ⟨s1, s2, s3, s4⟩
        · exact w' _ _ (a + k) 3 [] 0 0 ⟨hr, Or.inr (Or.inr (Or.inl ⟨c2, c3, q, r1, Or.inl ⟨s1, rfl⟩⟩))⟩ (fun z => absurd rfl z) ⟨r4, fun z => absurd z (by decide), fun z => absurd z (by decide), fun z => absurd z (by decide), fun _ => s2, fun z => absurd z (by decide), fun z => absurd rfl z⟩ ft
        · exact w' _ _ (a + k) 2 [] _ q ⟨hr, Or.inr (Or.inr (Or.inl ⟨c2, c3, q, r1, Or.inr ⟨s1, s2, rfl, rfl, rfl⟩⟩))⟩ (fun _ => r2) ⟨r4, fun z => absurd z (by decide), fun z => absurd z (by decide), fun _ => ⟨s3, s4⟩, fun z => absurd z (by decide), fun z => absurd z (by decide), fun _ => r5⟩ ft
      have b4 : ∀ k, k ≤ n - a → RUN g_74 (byt n f) a (a + k) → ¬ byt n f (a + k) = -1 → ¬ g_75 (byt n f (a + k)) = 0 → ∀ x, cS (d + 3) 68 [.ref 3] (mkH (u2 (u2 hi 3 6 (nI (a + k))) 3 3 (nI (a + k))) hl sw kp) (am_ret (cW cd_67 (d + 3) Q) 88 [some (.ref 3), some (.int x)] []) := fun k hk hr c1 c2 x => by
        refine f68 (d := d) (tp k) h4 (hlt k c1) (y3 k) (y6 k) (fun hi' hl' q r1 r2 r3 r4 r5 r6 => k_67_88 ?_)
        have ft : FT hi' hi hl' hl := ⟨fun c j h => by rw [r3.1 c j h]; exact fr k c j h, r3.2⟩
        rcases r6 with ⟨s1, s2⟩ | ⟨s1, s2, s3⟩
        · exact w' _ _ (a + k) 3 [] 0 0 ⟨hr, Or.inr (Or.inl ⟨c2, q, r1, Or.inl ⟨s1, rfl⟩⟩)⟩ (fun z => absurd rfl z) ⟨r4, fun z => absurd z (by decide), fun z => absurd z (by decide), fun z => absurd z (by decide), fun _ => s2, fun z => absurd z (by decide), fun z => absurd rfl z⟩ ft
        · exact w' _ _ (a + k) 1 _ 0 q ⟨hr, Or.inr (Or.inl ⟨c2, q, r1, Or.inr ⟨s1, rfl, rfl, rfl⟩⟩)⟩ (fun _ => r2) ⟨r4, fun z => absurd z (by decide), fun _ => ⟨s2, s3⟩, fun z => absurd z (by decide), fun z => absurd z (by decide), fun z => absurd z (by decide), fun _ => r5⟩ ft
    · intro _ hI
      have hle : (u2 hi 3 6 (nI (a + (n - a)))) 1 1 ≤ (u2 hi 3 6 (nI (a + (n - a)))) 3 6 := by
        rw [x1, x6]
        exact nI_le (by omega) (by omega)
      have hr : RUN g_74 (byt n f) a (a + (n - a)) := ⟨by omega, hI, by rw [byt_z (by omega)]; decide⟩
      have hb : byt n f (a + (n - a)) = -1 := byt_z (by omega)
      refine k_67_0 ?_ ?_ ?_ ?_ ?_ (fun c => absurd hle c) (fun c => absurd hle c) (fun c => absurd hle c) (fun c => absurd hle c) (fun c => absurd hle c) (fun c => absurd hle c) <;> rw [x6, xb _ (by omega)]
      · exact fun _ c => b0 _ (Nat.le_refl _) hr c
      · exact fun _ c => absurd hb c
      · exact fun _ c => absurd hb c
      · exact fun _ c => absurd hb c
      · exact fun _ c => absurd hb c
    · intro k _ hk hI ih
      have hg : ¬ (u2 hi 3 6 (nI (a + k))) 1 1 ≤ (u2 hi 3 6 (nI (a + k))) 3 6 := by
        rw [x1, x6]
        exact nI_ge (by omega) (by omega)
      have xb0 : g_88 (u2 hi 3 6 (nI (a + k))) (nI (a + k)) = byt n f (a + k) := TP.b (hi := u2 hi 3 6 (nI (a + k))) ⟨t1, x1 k, fun j hj => by rw [u2_row_ne (by decide)]; exact t3 j hj⟩ (by omega)
      refine k_67_0 (fun c => absurd c hg) (fun c => absurd c hg) (fun c => absurd c hg) (fun c => absurd c hg) (fun c => absurd c hg) ?_ ?_ ?_ ?_ ?_ ?_ <;> rw [x6, xb0]
      · rw [xb k (by omega)]
        exact fun _ c0 c => b0 k (by omega) ⟨by omega, hI, c0⟩ c
      · rw [xb k (by omega)]
        exact fun _ c0 c1 c2 c3 c4 => b1 k (by omega) ⟨by omega, hI, c0⟩ c1 c2 c3 c4
      · rw [xb k (by omega)]
        exact fun _ c0 c1 c2 c3 c4 => b2 k (by omega) ⟨by omega, hI, c0⟩ c1 c2 c3 c4
      · rw [xb k (by omega)]
        exact fun _ c0 c1 c2 c3 => b3 k (by omega) ⟨by omega, hI, c0⟩ c1 c2 c3 _
      · rw [xb k (by omega)]
        exact fun _ c0 c1 c2 => b4 k (by omega) ⟨by omega, hI, c0⟩ c1 c2 _
      · intro _ c0
        rw [nI_1]
        exact cW.hi (by rw [u2_u2]; rfl) (ih () (fun j a1 a2 => by
          by_cases c : j = a + k
          · subst c; exact c0
          · exact hI j a1 (by omega)))
  rw [← e6, u2_id] at go
  exact cS.of rfl go
end TOKE
