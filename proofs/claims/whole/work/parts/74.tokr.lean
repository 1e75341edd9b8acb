/-! ===== tokens: the reference's ===== -/
section TOKR
variable {d : Nat} {Q : am_Q} {hi : Nat → Nat → Int32} {hl : Nat → Nat → Int64} {sw : Bool} {kp : Nat → Nat}
theorem sh_or {a c : Nat} (ha : a < 2 ^ 55) (hc : c < 256) : (lN a <<< (Nat.toInt64 8 &&& 63)) ||| lN c = lN (a * 256 + c) := by
  have e : (Nat.toInt64 8 &&& 63) = (8 : Int64) := by decide
  rw [e]
  apply Int64.toBitVec_inj.mp
  apply BitVec.eq_of_toNat_eq
  have h1 : a * 256 + c = a * 256 ||| c := by
    have := Nat.two_pow_add_eq_or_of_lt (i := 8) (show c < 2 ^ 8 from hc) a
    rw [Nat.mul_comm]
    exact this
  have e1 : (lN a).toBitVec.toNat = a := by
    show (BitVec.ofNat 64 a).toNat = a
    rw [BitVec.toNat_ofNat, Nat.mod_eq_of_lt (by omega)]
  have e2 : (lN c).toBitVec.toNat = c := by
    show (BitVec.ofNat 64 c).toNat = c
    rw [BitVec.toNat_ofNat, Nat.mod_eq_of_lt (by omega)]
  have e3 : (lN (a * 256 + c)).toBitVec.toNat = a * 256 + c := by
    show (BitVec.ofNat 64 (a * 256 + c)).toNat = _
    rw [BitVec.toNat_ofNat, Nat.mod_eq_of_lt (by omega)]
  have e4 : (lN a <<< (8 : Int64)).toBitVec.toNat = a * 256 := by
    show ((lN a).toBitVec <<< 8).toNat = _
    rw [BitVec.toNat_shiftLeft, e1, Nat.shiftLeft_eq, Nat.mod_eq_of_lt (by omega)]
  rw [Int64.toBitVec_or, BitVec.toNat_or, e4, e2, e3, h1]
def RT (hi : Nat → Nat → Int32) (hl : Nat → Nat → Int64) (p s : Nat) (l : List Nat) (v e : Nat) : Prop :=
  hi 279 7 = nI p ∧ hi 279 6 = nI s ∧ (s = 1 → hl 279 9 = lN (w8 l)) ∧ (s = 2 → hi 279 8 = nI v) ∧ (s ≠ 3 → hi 279 4 = nI e)
def FR (hi' hi : Nat → Nat → Int32) (hl' hl : Nat → Nat → Int64) : Prop := (∀ c j, ¬ (c = 279 ∧ (j = 4 ∨ j = 6 ∨ j = 7 ∨ j = 8)) → hi' c j = hi c j) ∧ (∀ c j, ¬ (c = 279 ∧ j = 9) → hl' c j = hl c j)
theorem w8_55 {b : Nat → Int32} {p k : Nat} (hk : k < 8) (h : ∀ j, p ≤ j → j < p + k → ¬ g_75 (b j) = 0) : w8 (lts b p k) < 2 ^ 55 := by
  obtain ⟨l1, l2⟩ := lts_ok (b := b) (p := p) k h
  rcases w8_lt _ l1 with q | q
  · rw [l2] at q
    have : 256 ^ (k - 1) ≤ 256 ^ 6 := Nat.pow_le_pow_right (by decide) (by omega)
    omega
  · rw [q]
    decide
theorem f170w {n p : Nat} {x1 : Int32} (hn : n ≤ 1600) (e5 : hi 279 5 = nI n) (e4 : hi 279 4 = nI p) (hp : p < n) (w' : ∀ (hi' : Nat → Nat → Int32) (hl' : Nat → Nat → Int64) (q : Nat), RUN g_75 (byt n (hi 280)) p q → q ≤ n → FR hi' hi hl' hl → hi' 279 7 = hi 279 7 → ((8 < q - p ∧ hi' 279 6 = nI 3) ∨ (q - p ≤ 8 ∧ hi' 279 6 = nI 1 ∧ hl' 279 9 = lN (w8 (lts (byt n (hi 280)) p (q - p))) ∧ hi' 279 4 = nI q)) → Q none (mkH hi' hl' sw kp)) : cW cd_170 (d + 1) Q 78 [some (.ref 279), some (.int x1), some (.int 0)] [] (mkH hi (u2 hl 279 9 0) sw kp) := by
  refine lpu (σ := Unit) (n - p) (fun k _ => cW cd_170 (d + 1) Q 78 [some (.ref 279), some (.int x1), some (.int (nI k))] [] (mkH hi (u2 hl 279 9 (lN (w8 (lts (byt n (hi 280)) p (min k 8))))) sw kp)) (fun k _ => ∀ j, p ≤ j → j < p + k → ¬ g_75 (byt n (hi 280) j) = 0) ?_ ?_ (n - p) 0 () (Nat.zero_add _) (fun j a1 a2 => absurd a2 (by omega))
  all_goals
    have fin : ∀ k, k ≤ n - p → (∀ j, p ≤ j → j < p + k → ¬ g_75 (byt n (hi 280) j) = 0) → g_75 (byt n (hi 280) (p + k)) = 0 → (nI k ≤ 8 → Q none (mkH (u2 (u2 hi 279 6 1) 279 4 (hi 279 4 + nI k)) (u2 hl 279 9 (lN (w8 (lts (byt n (hi 280)) p (min k 8))))) sw kp)) ∧ (¬ nI k ≤ 8 → Q none (mkH (u2 hi 279 6 3) (u2 hl 279 9 (lN (w8 (lts (byt n (hi 280)) p (min k 8))))) sw kp)) := by
      intro k hk hI hend
      have hfl : ∀ y c j, ¬ (c = 279 ∧ j = 9) → (u2 hl 279 9 y) c j = hl c j := fun y c j h => u2_nn h
      refine ⟨fun cc => ?_, fun cc => ?_⟩
      · have hk8 : k ≤ 8 := (nI_leI (b := 8) (by omega) (by decide)).mp cc
        refine w' _ _ (p + k) ⟨by omega, hI, hend⟩ (by omega) ⟨fun c j h => by rw [u2_nn (by omega), u2_nn (by omega)], hfl _⟩ (by rw [u2_nn (by decide), u2_nn (by decide)]) (Or.inr ⟨by omega, ?_, ?_, ?_⟩)
        · rw [u2_nn (by decide), u2_s]; rfl
        · rw [u2_s, Nat.min_eq_left hk8, show p + k - p = k by omega]
        · rw [u2_s, e4, nI_add]
      · have hk8 : ¬ k ≤ 8 := fun z => cc (nI_le (b := 8) z (by decide))
        exact w' _ _ (p + k) ⟨by omega, hI, hend⟩ (by omega) ⟨fun c j h => by rw [u2_nn (by omega)], hfl _⟩ (by rw [u2_nn (by decide)]) (Or.inl ⟨by omega, u2_s⟩)
  · intro _ hI
    obtain ⟨b1, b2⟩ := g166 (hi := hi) (k := n - p) hn e5 e4 (by omega)
    have hz : g_75 (byt n (hi 280) (p + (n - p))) = 0 := by rw [byt_z (by omega)]; decide
    obtain ⟨q1, q2⟩ := fin (n - p) (Nat.le_refl _) hI hz
    refine k_170_78 b2 ?_ ?_ ?_ ?_ <;> rw [b1]
    · exact fun _ c => q1 c
    · exact fun _ c => q2 c
    · exact fun c => absurd hz c
    · exact fun c => absurd hz c
  · intro k _ hk hI ih
    obtain ⟨b1, b2⟩ := g166 (hi := hi) (k := k) hn e5 e4 (by omega)
    refine k_170_78 b2 ?_ ?_ ?_ ?_ <;> rw [b1]
    · exact fun c0 c => (fin k (by omega) hI c0).1 c
    · exact fun c0 c => (fin k (by omega) hI c0).2 c
    · intro c1 c2
      have hk8 : 8 ≤ k := (nI_leI (a := 8) (by decide) (by omega)).mp c2
      have := ih () (fun j a1 a2 => by
        by_cases c : j = p + k
        · subst c; exact c1
        · exact hI j a1 (by omega))
      rw [Nat.min_eq_right (by omega)] at this ⊢
      rw [nI_1]
      exact this
    · intro c1 c2
      have hk8 : k < 8 := by
        rcases Nat.lt_or_ge k 8 with z | z
        · exact z
        · exact absurd (nI_le (a := 8) z (by omega)) c2
      have := ih () (fun j a1 a2 => by
        by_cases c : j = p + k
        · subst c; exact c1
        · exact hI j a1 (by omega))
      obtain ⟨x, x1', x2, x3⟩ := let_v c1
      have ew : w8 (lts (byt n (hi 280)) p (k + 1)) = w8 (lts (byt n (hi 280)) p k) * 256 + (x + 96) := by
        show w8 (lts (byt n (hi 280)) p k) * 256 + ((byt n (hi 280) (p + k)).toNatClampNeg - 96 + 96) = _
        rw [x3, nI_clamp (by omega)]
        omega
      rw [Nat.min_eq_left (by omega)] at this ⊢
      rw [ew] at this
      rw [u2_s, x3, nI_l (by omega), sh_or (w8_55 hk8 hI) (by omega), nI_1]
      exact cW.hl (by rw [u2_u2]) this
theorem f170n {n p : Nat} {x1 : Int32} (hn : n ≤ 1600) (e5 : hi 279 5 = nI n) (e4 : hi 279 4 = nI p) (e8 : hi 279 8 = 0) (hp : p < n) (w' : ∀ (hi' : Nat → Nat → Int32) (q : Nat), RUN g_76 (byt n (hi 280)) p q → q ≤ n → FR hi' hi hl hl → hi' 279 7 = hi 279 7 → (((4 < q - p ∨ ¬ g_75 (byt n (hi 280) q) = 0) ∧ hi' 279 6 = nI 3) ∨ (q - p ≤ 4 ∧ g_75 (byt n (hi 280) q) = 0 ∧ hi' 279 6 = nI 2 ∧ hi' 279 8 = nI (dgs (byt n (hi 280)) p (q - p)) ∧ hi' 279 4 = nI q)) → Q none (mkH hi' hl sw kp)) : cW cd_170 (d + 1) Q 144 [some (.ref 279), some (.int x1), some (.int 0)] [] (mkH hi hl sw kp) := by
  refine cW.hi (hi := u2 hi 279 8 (nI 0)) (by rw [show nI 0 = hi 279 8 from e8.symm, u2_id]) ?_
  refine lpu (σ := Unit) (n - p) (fun k _ => cW cd_170 (d + 1) Q 144 [some (.ref 279), some (.int x1), some (.int (nI k))] [] (mkH (u2 hi 279 8 (nI (dgs (byt n (hi 280)) p (min k 4)))) hl sw kp)) (fun k _ => ∀ j, p ≤ j → j < p + k → ¬ g_76 (byt n (hi 280) j) = 0) ?_ ?_ (n - p) 0 () (Nat.zero_add _) (fun j a1 a2 => absurd a2 (by omega))
  all_goals
    have y5 : ∀ v, (u2 hi 279 8 v) 279 5 = nI n := fun v => by rw [u2_nn (by decide)]; exact e5
    have y4 : ∀ v, (u2 hi 279 8 v) 279 4 = nI p := fun v => by rw [u2_nn (by decide)]; exact e4
    have y280 : ∀ v, (u2 hi 279 8 v) 280 = hi 280 := fun v => by rw [u2_row_ne (by decide)]
    have gb : ∀ v k, p + k ≤ 5000 → g_166 (u2 hi 279 8 v) (nI k) = byt n (hi 280) (p + k) ∧ (¬ (u2 hi 279 8 v) 279 5 ≤ (u2 hi 279 8 v) 279 4 + nI k → vp_in ((u2 hi 279 8 v) 279 4 + nI k) 1600) := fun v k hk => by
      have := g166 (hi := u2 hi 279 8 v) (k := k) hn (y5 v) (y4 v) hk
      rw [y280] at this
      exact this
    have bad : ∀ k, k ≤ n - p → (∀ j, p ≤ j → j < p + k → ¬ g_76 (byt n (hi 280) j) = 0) → g_76 (byt n (hi 280) (p + k)) = 0 → (4 < k ∨ ¬ g_75 (byt n (hi 280) (p + k)) = 0) → ∀ v, Q none (mkH (u2 (u2 hi 279 8 v) 279 6 3) hl sw kp) := fun k hk hI hend hc v =>
      w' _ (p + k) ⟨by omega, hI, hend⟩ (by omega) ⟨fun c j h => by rw [u2_nn (by omega), u2_nn (by omega)], fun _ _ _ => rfl⟩ (by rw [u2_nn (by decide), u2_nn (by decide)]) (Or.inl ⟨by rw [show p + k - p = k by omega]; exact hc, u2_s⟩)
    have good : ∀ k, k ≤ n - p → (∀ j, p ≤ j → j < p + k → ¬ g_76 (byt n (hi 280) j) = 0) → g_76 (byt n (hi 280) (p + k)) = 0 → k ≤ 4 → g_75 (byt n (hi 280) (p + k)) = 0 → Q none (mkH (u2 (u2 (u2 hi 279 8 (nI (dgs (byt n (hi 280)) p (min k 4)))) 279 6 2) 279 4 ((u2 hi 279 8 (nI (dgs (byt n (hi 280)) p (min k 4)))) 279 4 + nI k)) hl sw kp) := fun k hk hI hend hk4 h75 => by
      refine w' _ (p + k) ⟨by omega, hI, hend⟩ (by omega) ⟨fun c j h => by rw [u2_nn (by omega), u2_nn (by omega), u2_nn (by omega)], fun _ _ _ => rfl⟩ (by rw [u2_nn (by decide), u2_nn (by decide), u2_nn (by decide)]) (Or.inr ⟨by omega, h75, ?_, ?_, ?_⟩)
      · rw [u2_nn (by decide), u2_s]; rfl
      · rw [u2_nn (by decide), u2_nn (by decide), u2_s, Nat.min_eq_left hk4, show p + k - p = k by omega]
      · rw [u2_s, y4, nI_add]
    have d4 : ∀ k, k ≤ 2000 → ((4 : Int32) < nI k ↔ 4 < k) := fun k hk => nI_ltI (a := 4) (by decide) (by omega)
  · intro _ hI
    obtain ⟨b1, b2⟩ := gb (nI (dgs (byt n (hi 280)) p (min (n - p) 4))) (n - p) (by omega)
    have hz : g_76 (byt n (hi 280) (p + (n - p))) = 0 := by rw [byt_z (by omega)]; decide
    refine k_170_144 b2 ?_ ?_ ?_ ?_ ?_ <;> rw [b1]
    · exact fun _ c => bad _ (Nat.le_refl _) hI hz (Or.inl ((d4 _ (by omega)).mp c)) _
    · exact fun _ c1 c2 => good _ (Nat.le_refl _) hI hz (by have := mt (d4 (n - p) (by omega)).mpr c1; omega) c2
    · exact fun _ c1 c2 => bad _ (Nat.le_refl _) hI hz (Or.inr c2) _
    · exact fun c => absurd hz c
    · exact fun c => absurd hz c
  · intro k _ hk hI ih
    obtain ⟨b1, b2⟩ := gb (nI (dgs (byt n (hi 280)) p (min k 4))) k (by omega)
    refine k_170_144 b2 ?_ ?_ ?_ ?_ ?_ <;> rw [b1]
    · exact fun c0 c => bad k (by omega) hI c0 (Or.inl ((d4 _ (by omega)).mp c)) _
    · exact fun c0 c1 c2 => good k (by omega) hI c0 (by have := mt (d4 k (by omega)).mpr c1; omega) c2
    · exact fun c0 c1 c2 => bad k (by omega) hI c0 (Or.inr c2) _
    · intro c1 c2
      have hk4 : 4 ≤ k := (nI_leI (a := 4) (by decide) (by omega)).mp c2
      have := ih () (fun j a1 a2 => by
        by_cases c : j = p + k
        · subst c; exact c1
        · exact hI j a1 (by omega))
      rw [Nat.min_eq_right (by omega)] at this ⊢
      rw [nI_1]
      exact this
    · intro c1 c2
      have hk4 : k < 4 := by
        rcases Nat.lt_or_ge k 4 with z | z
        · exact z
        · exact absurd (nI_le (a := 4) z (by omega)) c2
      have := ih () (fun j a1 a2 => by
        by_cases c : j = p + k
        · subst c; exact c1
        · exact hI j a1 (by omega))
      obtain ⟨x, x2, x3⟩ := dig_v c1
      have e1 : dgs (byt n (hi 280)) p (k + 1) = 10 * dgs (byt n (hi 280)) p k + x := by
        show 10 * dgs (byt n (hi 280)) p k + ((byt n (hi 280) (p + k)).toNatClampNeg - 48) = _
        rw [x3, nI_clamp (by omega)]
        omega
      rw [Nat.min_eq_left (by omega)] at this ⊢
      rw [e1] at this
      rw [u2_s, x3, show (10 : Int32) = nI 10 from rfl, pk_mul, nI_add, show nI (10 * dgs (byt n (hi 280)) p k + (x + 48)) - 48 = nI (10 * dgs (byt n (hi 280)) p k + x) from (pk_sub (a := 10 * dgs (byt n (hi 280)) p k + (x + 48)) (b := 48) (by omega)).trans (by congr 1), nI_1]
      exact cW.hi (by rw [u2_u2]) this
theorem an255 (x : Int32) : ∃ m, m ≤ 255 ∧ x &&& 255 = nI m := by
  refine ⟨(x &&& 255).toBitVec.toNat, ?_, ?_⟩
  · rw [Int32.toBitVec_and, BitVec.toNat_and]
    exact Nat.and_le_right
  · apply Int32.toBitVec_inj.mp
    show _ = BitVec.ofNat 32 _
    rw [BitVec.ofNat_toNat, BitVec.setWidth_eq]
theorem f170 {n a : Nat} (hbt : ∀ j, j < n → ¬ hi 280 j < 0) (hn : n ≤ 1600) (e5 : hi 279 5 = nI n) (e4 : hi 279 4 = nI a) (ha : a ≤ n) (w' : ∀ (hi' : Nat → Nat → Int32) (hl' : Nat → Nat → Int64) (p s : Nat) (l : List Nat) (v e : Nat), TKN (byt n (hi 280)) a p s l v e → (s ≠ 3 → e ≤ n) → RT hi' hl' p s l v e → FR hi' hi hl' hl → Q none (mkH hi' hl' sw kp)) : cS (d + 2) 170 [.ref 279] (mkH hi hl sw kp) Q := by
  have go : cW cd_170 (d + 1) Q 0 [some (.ref 279), none, none] [] (mkH (u2 hi 279 4 (nI a)) hl sw kp) := by
    refine lpu (σ := Unit) (n - a) (fun k _ => cW cd_170 (d + 1) Q 0 [some (.ref 279), none, none] [] (mkH (u2 hi 279 4 (nI (a + k))) hl sw kp)) (fun k _ => ∀ j, a ≤ j → j < a + k → ¬ g_74 (byt n (hi 280) j) = 0) ?_ ?_ (n - a) 0 () (Nat.zero_add _) (fun j a1 a2 => absurd a2 (by omega))
    all_goals
      have key : ∀ k, k ≤ n - a → (∀ j, a ≤ j → j < a + k → ¬ g_74 (byt n (hi 280) j) = 0) → (¬ g_74 (byt n (hi 280) (a + k)) = 0 → cW cd_170 (d + 1) Q 0 [some (.ref 279), none, none] [] (mkH (u2 (u2 hi 279 4 (nI (a + k))) 279 4 (nI (a + k) + 1)) hl sw kp)) → cW cd_170 (d + 1) Q 0 [some (.ref 279), none, none] [] (mkH (u2 hi 279 4 (nI (a + k))) hl sw kp) := by
        intro k hk hI nx
        obtain ⟨Y, eY⟩ : ∃ Y, Y = u2 hi 279 4 (nI (a + k)) := ⟨_, rfl⟩
        have Y4 : Y 279 4 = nI (a + k) := by rw [eY, u2_s]
        have Y5 : Y 279 5 = nI n := by rw [eY, u2_nn (by decide)]; exact e5
        have Y280 : Y 280 = hi 280 := by rw [eY, u2_row_ne (by decide)]
        rw [← eY] at nx ⊢
        obtain ⟨Z, eZ⟩ : ∃ Z, Z = u2 Y 279 7 (nI (a + k)) := ⟨_, rfl⟩
        have Z4 : Z 279 4 = nI (a + k) := by rw [eZ, u2_nn (by decide)]; exact Y4
        have Z5 : Z 279 5 = nI n := by rw [eZ, u2_nn (by decide)]; exact Y5
        have Z280 : Z 280 = hi 280 := by rw [eZ, u2_row_ne (by decide)]; exact Y280
        have Z7 : Z 279 7 = nI (a + k) := by rw [eZ, u2_s]
        have frZ : ∀ c j, ¬ (c = 279 ∧ (j = 4 ∨ j = 6 ∨ j = 7 ∨ j = 8)) → Z c j = hi c j := fun c j h => by rw [eZ, u2_nn (by omega), eY, u2_nn (by omega)]
        have gy := g166 (hi := Y) (a := a + k) (k := 0) hn Y5 Y4 (by omega)
        have gz := g166 (hi := Z) (a := a + k) (k := 0) hn Z5 Z4 (by omega)
        rw [Y280] at gy
        rw [Z280] at gz
        obtain ⟨y1, y2⟩ := gy
        obtain ⟨z1, z2⟩ := gz
        have y1' : g_166 Y (0 : Int32) = byt n (hi 280) (a + k) := y1
        have z1' : g_166 Z (0 : Int32) = byt n (hi 280) (a + k) := z1
        have hrun : (¬ byt n (hi 280) (a + k) = 32) → (¬ byt n (hi 280) (a + k) = 10) → RUN g_74 (byt n (hi 280)) a (a + k) := fun c1 c2 => ⟨by omega, hI, by unfold g_74; rw [if_neg c1, if_neg c2]⟩
        have hlt : ¬ byt n (hi 280) (a + k) = -1 → a + k < n := fun h => by
          rcases Nat.lt_or_ge (a + k) n with z | z
          · exact z
          · exact absurd (byt_z z) h
        have hnm : (0 : Int32) ≤ byt n (hi 280) (a + k) → ¬ byt n (hi 280) (a + k) = -1 := fun h z => by
          rw [z] at h
          exact absurd h (by decide)
        have T5 : (u2 Z 279 8 0) 279 5 = nI n := by rw [u2_nn (by decide)]; exact Z5
        have T4 : (u2 Z 279 8 0) 279 4 = nI (a + k) := by rw [u2_nn (by decide)]; exact Z4
        have T280 : (u2 Z 279 8 0) 280 = hi 280 := by rw [u2_row_ne (by decide)]; exact Z280
        have T7 : (u2 Z 279 8 0) 279 7 = nI (a + k) := by rw [u2_nn (by decide)]; exact Z7
        refine k_170_0 ?_ ?_ ?_ ?_ ?_ ?_ ?_ ?_ ?_ ?_
        · exact y2
        · rw [y1', Y4]
          exact fun c => nx (by unfold g_74; rw [if_pos c]; decide)
        · rw [y1', Y4]
          exact fun c1 c2 => nx (by unfold g_74; rw [if_neg c1, if_pos c2]; decide)
        · rw [Y4, ← eZ]
          exact fun _ _ => z2
        · rw [y1', Y4, ← eZ, z1']
          intro c1 c2 c3 c4 c5 c6
          exact w' _ _ (a + k) 3 [] 0 0 ⟨hrun c1 c2, Or.inr (Or.inr (Or.inr (Or.inl ⟨hnm c3, c4, c5, by rw [← sgn_eq]; exact c6, rfl⟩)))⟩ (fun z => absurd rfl z) ⟨by rw [u2_nn (by decide)]; exact T7, u2_s, fun z => absurd z (by decide), fun z => absurd z (by decide), fun z => absurd rfl z⟩ ⟨fun c j h => by rw [u2_nn (by omega), u2_nn (by omega)]; exact frZ c j h, fun c j h => u2_nn h⟩
        · rw [y1', Y4, ← eZ, z1']
          intro c1 c2 c3 c4 c5 c6 c7
          obtain ⟨s, s1, s2, s3⟩ := sgn_v (by rw [← sgn_eq]; exact c6)
          rw [s3] at c7
          exact absurd ((nI_eq (b := 3) (by omega) (by decide)).mp c7) (by omega)
        · rw [y1', Y4, ← eZ, z1']
          intro c1 c2 c3 c4 c5 c6 c7
          obtain ⟨s, s1, s2, s3⟩ := sgn_v (by rw [← sgn_eq]; exact c6)
          have := hlt (hnm c3)
          exact w' _ _ (a + k) s [] 0 (a + k + 1) ⟨hrun c1 c2, Or.inr (Or.inr (Or.inr (Or.inr ⟨hnm c3, c4, c5, by rw [← sgn_eq]; exact c6, s3, s1, s2, rfl⟩)))⟩ (fun _ => by omega) ⟨by rw [u2_nn (by decide), u2_nn (by decide)]; exact T7, by rw [u2_nn (by decide), u2_s]; exact s3, fun z => by omega, fun z => by omega, fun _ => by rw [u2_s, nI_1]⟩ ⟨fun c j h => by rw [u2_nn (by omega), u2_nn (by omega), u2_nn (by omega)]; exact frZ c j h, fun c j h => u2_nn h⟩
        · rw [y1', Y4, ← eZ, z1']
          intro c1 c2 c3 c4 c5
          refine f170n (d := d) (hi := u2 Z 279 8 0) (hl := u2 hl 279 9 0) hn T5 T4 u2_s (hlt (hnm c3)) (fun hi' q r1 r2 r3 r4 r5 => ?_)
          rw [T280] at r1 r5
          have ft : FR hi' hi (u2 hl 279 9 0) hl := ⟨fun c j h => by rw [r3.1 c j h, u2_nn (by omega)]; exact frZ c j h, fun c j h => u2_nn h⟩
          rcases r5 with ⟨s1, s2⟩ | ⟨s1, s2, s3, s4, s5⟩
          · exact w' _ _ (a + k) 3 [] 0 0 ⟨hrun c1 c2, Or.inr (Or.inr (Or.inl ⟨c4, c5, q, r1, Or.inl ⟨s1, rfl⟩⟩))⟩ (fun z => absurd rfl z) ⟨r4.trans T7, s2, fun z => absurd z (by decide), fun z => absurd z (by decide), fun z => absurd rfl z⟩ ft
          · exact w' _ _ (a + k) 2 [] _ q ⟨hrun c1 c2, Or.inr (Or.inr (Or.inl ⟨c4, c5, q, r1, Or.inr ⟨s1, s2, rfl, rfl, rfl⟩⟩))⟩ (fun _ => r2) ⟨r4.trans T7, s3, fun z => absurd z (by decide), fun _ => s4, fun _ => s5⟩ ft
        · rw [y1', Y4, ← eZ, z1']
          intro c1 c2 c3 c4
          refine f170w (d := d) (hi := u2 Z 279 8 0) (hl := hl) hn T5 T4 (hlt (hnm c3)) (fun hi' hl' q r1 r2 r3 r4 r5 => ?_)
          rw [T280] at r1 r5
          have ft : FR hi' hi hl' hl := ⟨fun c j h => by rw [r3.1 c j h, u2_nn (by omega)]; exact frZ c j h, r3.2⟩
          rcases r5 with ⟨s1, s2⟩ | ⟨s1, s2, s3, s4⟩
          · exact w' _ _ (a + k) 3 [] 0 0 ⟨hrun c1 c2, Or.inr (Or.inl ⟨c4, q, r1, Or.inl ⟨s1, rfl⟩⟩)⟩ (fun z => absurd rfl z) ⟨r4.trans T7, s2, fun z => absurd z (by decide), fun z => absurd z (by decide), fun z => absurd rfl z⟩ ft
          · exact w' _ _ (a + k) 1 _ 0 q ⟨hrun c1 c2, Or.inr (Or.inl ⟨c4, q, r1, Or.inr ⟨s1, rfl, rfl, rfl⟩⟩)⟩ (fun _ => r2) ⟨r4.trans T7, s2, fun _ => s3, fun z => absurd z (by decide), fun _ => s4⟩ ft
        · rw [y1', Y4, ← eZ, z1']
          intro c1 c2 c3
          have hm : byt n (hi 280) (a + k) = -1 := by
            unfold byt at c3 ⊢
            by_cases c : a + k < n
            · rw [if_pos c] at c3
              exact absurd (Int32.not_lt.mp (hbt _ c)) c3
            · rw [if_neg c]
          exact w' _ _ (a + k) 0 [] 0 (a + k) ⟨hrun c1 c2, Or.inl ⟨rfl, hm, rfl⟩⟩ (fun _ => by omega) ⟨by rw [u2_nn (by decide), u2_nn (by decide)]; exact T7, by rw [u2_nn (by decide), u2_s]; rfl, fun z => absurd z (by decide), fun z => absurd z (by decide), fun _ => by rw [u2_s]; exact Int32.add_zero _⟩ ⟨fun c j h => by rw [u2_nn (by omega), u2_nn (by omega), u2_nn (by omega)]; exact frZ c j h, fun c j h => u2_nn h⟩
    · intro _ hI
      exact key (n - a) (Nat.le_refl _) hI (fun h => absurd (by rw [byt_z (by omega)]; decide) h)
    · intro k _ hk hI ih
      refine key k (by omega) hI (fun c0 => ?_)
      rw [nI_1]
      exact cW.hi (by rw [u2_u2]; rfl) (ih () (fun j a1 a2 => by
        by_cases c : j = a + k
        · subst c; exact c0
        · exact hI j a1 (by omega)))
  rw [← e4, u2_id] at go
  exact cS.of rfl go
end TOKR
