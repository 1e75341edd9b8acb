/-! ===== operation: hour, the reference ===== -/
section HOURR
variable {d : Nat} {Q : am_Q} {hi : Nat → Nat → Int32} {hl : Nat → Nat → Int64} {sw : Bool} {kp : Nat → Nat} {V : vN}
theorem u2_cr {α : Type} {f : Nat → Nat → α} {i j k l : Nat} {x y : α} (h : i ≠ k) : u2 (u2 f i j x) k l y = u2 (u2 f k l y) i j x := by
  funext a b
  simp only [u2_eq]
  by_cases h1 : a = k ∧ b = l
  · rw [if_pos h1, if_neg (fun q => h (q.1.symm.trans h1.1)), if_pos h1]
  · rw [if_neg h1, if_neg h1]
theorem uR_cr {α : Type} {f : Nat → Nat → α} {i j k : Nat} {x : α} {g : Nat → α} (h : i ≠ k) : uR (u2 f i j x) k g = u2 (uR f k g) i j x := (u2_co (Ne.symm h)).symm
theorem rx_299 {h a x : Int32} {b g f r w : Nat → Int32} {k : Nat} : u2 (rx hi h a b g f r w) 299 k x = rx (u2 hi 299 k x) h a b g f r w := by
  show u2 (uR (uR (uR (uR (uR (u2 (u2 hi 279 61 h) 279 62 a) 300 b) 288 g) 287 f) 301 r) 302 w) 299 k x = _
  rw [u2_co (by decide), u2_co (by decide), u2_co (by decide), u2_co (by decide), u2_co (by decide), u2_cr (by decide), u2_cr (i := 279) (by decide)]
theorem rx_299R {h a : Int32} {b g f r w y : Nat → Int32} : uR (rx hi h a b g f r w) 299 y = rx (uR hi 299 y) h a b g f r w := by
  show uR (uR (uR (uR (uR (uR (u2 (u2 hi 279 61 h) 279 62 a) 300 b) 288 g) 287 f) 301 r) 302 w) 299 y = _
  rw [uR_co (by decide), uR_co (i := 301) (by decide), uR_co (i := 287) (by decide), uR_co (i := 288) (by decide), uR_co (i := 300) (by decide), uR_cr (i := 279) (j := 62) (k := 299) (by decide), uR_cr (i := 279) (j := 61) (k := 299) (by decide)]
/-- the walk, one place longer -/
def WK (n : Nat) (x : Int32) (r r0 : Nat → Int32) : Prop := (∀ k, k < 20 → r k = r0 k) ∧ r 20 = nI (min (n + 1) 60) ∧ (∀ k, k < min (n + 1) 60 → r (21 + k) = if k + 1 = min (n + 1) 60 then x else r0 (21 + (k + (n + 1 - min (n + 1) 60))))
theorem f226 {n : Nat} {x : Int32} (hn : n ≤ 60) (e20 : hi 299 20 = nI n) (w' : ∀ r : Nat → Int32, WK n x r (hi 299) → Q none (mkH (uR hi 299 r) hl sw kp)) : cS (d + 1) 226 [.ref 279, .int x] (mkH hi hl sw kp) Q := by
  refine e_226 ?_ ?_ ?_ <;> rw [e20]
  · intro c
    have h60 : n = 60 := (nI_eq (b := 60) (by omega) (by decide)).mp c
    subst h60
    refine cW.hi (hi := uR hi 299 (hi 299)) uR_id.symm ?_
    refine lpu (σ := Nat → Int32) 60 (fun i r => cW cd_226 d Q 14 [some (.ref 279), some (.int x), some (.int (nI i))] [] (mkH (uR hi 299 r) hl sw kp)) (fun i r => 1 ≤ i ∧ (∀ k, k < 21 → r k = hi 299 k) ∧ (∀ k, k + 1 < i → r (21 + k) = hi 299 (21 + (k + 1))) ∧ (∀ k, i ≤ k + 1 → r (21 + k) = hi 299 (21 + k))) ?_ ?_ 59 1 (hi 299) rfl ⟨Nat.le_refl 1, fun _ _ => rfl, fun k hk => absurd hk (by omega), fun _ _ => rfl⟩
    · intro r ⟨_, h1, h2, h3⟩
      have e1 : (uR hi 299 r) 299 20 = nI 60 := by rw [uR_s, h1 20 (by decide)]; exact e20
      have e2 : (uR hi 299 r) 299 20 - 1 = nI 59 := by rw [e1]; rfl
      refine k_226_14 (fun _ => by rw [e2, show (21 : Int32) + nI 59 = nI 80 from rfl]; exact vp_in_nI (by decide) (by decide)) (fun _ => ?_) (fun c => absurd (by decide) c) (fun c => absurd (by decide) c) (fun c => absurd (by decide) c)
      rw [e2, show (21 : Int32) + nI 59 = nI 80 from rfl, nI_clamp (by decide)]
      have e3 : (u2 (u2 (uR hi 299 r) 299 20 (nI 59)) 299 80 x) 299 20 + 1 = nI 60 := by
        rw [u2_nn (by decide), u2_s]
        rfl
      rw [e3]
      refine qhi (hi := uR hi 299 (up1 (up1 (up1 r 20 (nI 59)) 80 x) 20 (nI 60))) (by rw [u2_in, u2_in, u2_in]) (w' _ ⟨fun k hk => ?_, up1_s, fun k hk => ?_⟩)
      · rw [up1_n (by omega), up1_n (by omega), up1_n (by omega)]
        exact h1 k (by omega)
      · rw [up1_n (by omega)]
        by_cases c1 : k = 59
        · subst c1
          rw [if_pos (by decide)]
          exact up1_s
        · rw [if_neg (by omega), up1_n (by omega), up1_n (by omega), h2 k (by omega)]
          rfl
    · intro i r hi' ⟨h0, h1, h2, h3⟩ ih
      have e1 : (21 : Int32) + nI i = nI (21 + i) := nI_add 21 i
      have e2 : nI (21 + i) - 1 = nI (21 + i - 1) := pk_sub (a := 21 + i) (b := 1) (by omega)
      refine k_226_14 (fun c => absurd c (nI_ge (a := i) (b := 60) hi' (by decide))) (fun c => absurd c (nI_ge (a := i) (b := 60) hi' (by decide))) (fun _ => by rw [e1]; exact vp_in_nI (by omega) (by decide)) (fun _ => by rw [e1, e2]; exact vp_in_nI (by omega) (by decide)) (fun _ => ?_)
      rw [e1, e2, nI_clamp (by omega), nI_clamp (by omega), nI_1, uR_s]
      refine cW.hi u2_in (ih _ ⟨by omega, fun k hk => ?_, fun k hk => ?_, fun k hk => ?_⟩)
      · rw [up1_n (by omega)]
        exact h1 k hk
      · by_cases c1 : k + 1 = i
        · have e3 : 21 + i - 1 = 21 + k := by omega
          rw [e3, up1_s, show 21 + i = 21 + (k + 1) by omega]
          exact h3 (k + 1) (by omega)
        · rw [up1_n (by omega)]
          exact h2 k (by omega)
      · rw [up1_n (by omega)]
        exact h3 k (by omega)
  · intro c
    have h60 : n < 60 := by
      rcases Nat.lt_or_ge n 60 with z | z
      · exact z
      · exact absurd (show nI n = 60 by rw [show n = 60 by omega]; rfl) c
    rw [show (21 : Int32) + nI n = nI (21 + n) from nI_add 21 n]
    exact vp_in_nI (by omega) (by decide)
  · intro c
    have h60 : n < 60 := by
      rcases Nat.lt_or_ge n 60 with z | z
      · exact z
      · exact absurd (show nI n = 60 by rw [show n = 60 by omega]; rfl) c
    rw [show (21 : Int32) + nI n = nI (21 + n) from nI_add 21 n, nI_clamp (by omega)]
    have e3 : (u2 hi 299 (21 + n) x) 299 20 + 1 = nI (n + 1) := by
      rw [u2_nn (by omega), e20, nI_1]
    rw [e3]
    refine qhi (hi := uR hi 299 (up1 (up1 (hi 299) (21 + n) x) 20 (nI (n + 1)))) (by rw [u2_uR (f := hi), u2_in]) (w' _ ⟨fun k hk => ?_, ?_, fun k hk => ?_⟩)
    · rw [up1_n (by omega), up1_n (by omega)]
    · rw [up1_s, Nat.min_eq_left (by omega)]
    · rw [up1_n (by omega)]
      by_cases c1 : k = n
      · subst c1
        rw [if_pos (by omega)]
        exact up1_s
      · rw [if_neg (by omega), up1_n (by omega), show k + (n + 1 - min (n + 1) 60) = k by omega]
/-- the decree, as the reference has it -/
def DC (V : vN) (X : Nat → Nat → Int32) (H t : Nat) (r r0 : Nat → Int32) : Prop := (∀ k, ¬ (8 ≤ k ∧ k < 16) → r k = r0 k) ∧ (∀ c, c < 4 → r (8 + c) = nsc (hdd V H c) (r0 (8 + c)) (r0 (12 + c)) (nI (cnA X c t) - 3)) ∧ (∀ c, c < 4 → r (12 + c) = nsd (hdd V H c) (r0 (8 + c)) (r0 (12 + c)) (nI (cnA X c t) - 3) (X 23 c))
theorem f225 {t H : Nat} (hv : R_vil V hi) (ht : t < vP V) (e17 : hi 299 17 = nI H) (hH : H ≤ 5000) (hst : ∀ c, c < 4 → hi 299 (12 + c) = 0 ∨ hi 299 (12 + c) = 1 ∨ hi 299 (12 + c) = 2) (w' : ∀ r : Nat → Int32, DC V hi H t r (hi 299) → Q none (mkH (uR hi 299 r) hl sw kp)) : cS (d + 2) 225 [.ref 279, .int (hi 295 t)] (mkH hi hl sw kp) Q := by
  have hb := hv.1
  have q1 : ¬ hi 279 48 = 0 → ¬ hi 279 51 = 0 := fun _ => by
    rw [hv.2.2.1.2.2.2.2.2.1]
    exact nI_ne0 (by omega) (by omega)
  rcases Nat.eq_zero_or_pos (vC V) with hC | hC
  · have z : g_218 hi (hi 299 17) < 0 := by
      rw [heard_eq hv, g120z hv hC]
      decide
    have same : Q none (mkH hi hl sw kp) := qhi (hi := uR hi 299 (hi 299)) uR_id.symm (w' _ ⟨fun _ _ => rfl, fun c _ => by rw [hdd_f (Or.inl hC)]; rfl, fun c _ => by rw [hdd_f (Or.inl hC)]; rfl⟩)
    exact e_225 q1 (fun c => c) (fun _ => same) (fun c => absurd z c) (fun c => absurd z c) (fun c => absurd z c) (fun c => absurd z c) (fun c => absurd z c) (fun c => absurd z c) (fun c => absurd z c) (fun c => absurd z c)
  · obtain ⟨k, hk⟩ : ∃ k, k = H / vHr V % vC V := ⟨_, rfl⟩
    have hkC : k < vC V := by rw [hk]; exact Nat.mod_lt _ hC
    have h1 : hdd V H k = true := by rw [hk]; exact hdd_t hC
    have h0 : ∀ c, c ≠ k → hdd V H c = false := fun c hc => hdd_f (Or.inr (by rw [← hk]; exact hc))
    have eg : g_218 hi (hi 299 17) = nI k := by rw [heard_eq hv, e17, g120' hv hH hC, hk]
    have z : ¬ g_218 hi (hi 299 17) < 0 := by rw [eg]; exact nI_pos (by omega)
    obtain ⟨e, e1, e2, e3, e4, e5, e6⟩ := cnA_ok hv ht hkC
    obtain ⟨b, b1, b2, b3, b4⟩ := hv.2.2.2.2.1 k hkC
    have i12 : (12 : Int32) + nI k = nI (12 + k) := nI_add 12 k
    have i8 : (8 : Int32) + nI k = nI (8 + k) := nI_add 8 k
    have i4 : (4 : Int32) * nI e + nI k = nI (4 * e + k) := by
      rw [show (4 : Int32) = nI 4 from rfl, pk_mul, nI_add]
    have c12 : (nI (12 + k)).toNatClampNeg = 12 + k := nI_clamp (by omega)
    have c8 : (nI (8 + k)).toNatClampNeg = 8 + k := nI_clamp (by omega)
    have c4 : (nI (4 * e + k)).toNatClampNeg = 4 * e + k := nI_clamp (by omega)
    have ck : (nI k).toNatClampNeg = k := nI_clamp (by omega)
    have eb : hi 297 k = hi 23 k := b4.trans b3.symm
    have es : (u2 hi 299 (8 + k) (hi 299 (8 + k) + (nI (cnA hi k t) - 3))) 299 (8 + k) = hi 299 (8 + k) + (nI (cnA hi k t) - 3) := u2_s
    have fin : ∀ y : Int32, hi 299 (12 + k) = 0 → y = nst (hi 299 (8 + k) + (nI (cnA hi k t) - 3)) (hi 23 k) → Q none (mkH (u2 (u2 hi 299 (8 + k) (hi 299 (8 + k) + (nI (cnA hi k t) - 3))) 299 (12 + k) y) hl sw kp) := by
      intro y c0 hy
      refine qhi (hi := uR hi 299 (up1 (up1 (hi 299) (8 + k) (hi 299 (8 + k) + (nI (cnA hi k t) - 3))) (12 + k) y)) (by rw [u2_uR (f := hi), u2_in]) (w' _ ⟨fun j hj => ?_, fun c hc => ?_, fun c hc => ?_⟩)
      · rw [up1_n (by omega), up1_n (by omega)]
      · rw [up1_n (by omega)]
        by_cases hck : c = k
        · subst hck
          rw [up1_s, h1]
          unfold nsc
          rw [cond_true, if_pos c0]
        · rw [up1_n (by omega), h0 c hck]
          rfl
      · by_cases hck : c = k
        · subst hck
          rw [up1_s, h1]
          unfold nsd
          rw [cond_true, if_pos c0, hy]
        · rw [up1_n (by omega), up1_n (by omega), h0 c hck]
          rfl
    refine e_225 q1 (fun c => c) (fun c => absurd c z) ?_ ?_ ?_ ?_ ?_ ?_ ?_ ?_ <;> rw [eg]
    · intro _
      rw [i12]
      exact vp_in_nI (by omega) (by decide)
    · intro _ _
      rw [i8]
      exact vp_in_nI (by omega) (by decide)
    · intro _ _
      rw [e3, i4]
      exact vp_in_nI (by omega) (by decide)
    · intro _ _
      exact vp_in_nI (by omega) (by decide)
    · rw [e3, i12, i8, i4, c12, c8, c4, ck, e5, es, eb]
      intro _ c1 c2 c3
      have c0 : hi 299 (12 + k) = 0 := by
        rcases hst k (by omega) with h | h | h
        · exact h
        · rw [h] at c1; exact absurd c1 (by decide)
        · rw [h] at c1; exact absurd c1 (by decide)
      exact fin _ c0 (by unfold nst; rw [if_pos c2, if_pos c3])
    · rw [e3, i12, i8, i4, c12, c8, c4, ck, e5, es, eb]
      intro _ c1 c2 c3
      have c0 : hi 299 (12 + k) = 0 := by
        rcases hst k (by omega) with h | h | h
        · exact h
        · rw [h] at c1; exact absurd c1 (by decide)
        · rw [h] at c1; exact absurd c1 (by decide)
      exact fin _ c0 (by unfold nst; rw [if_pos c2, if_neg c3])
    · rw [e3, i12, i8, i4, c12, c8, c4, ck, e5, es, eb]
      intro _ c1 c2
      have c0 : hi 299 (12 + k) = 0 := by
        rcases hst k (by omega) with h | h | h
        · exact h
        · rw [h] at c1; exact absurd c1 (by decide)
        · rw [h] at c1; exact absurd c1 (by decide)
      exact fin _ c0 (by unfold nst; rw [if_neg c2])
    · rw [i12, c12]
      intro _ c1
      have c0 : ¬ hi 299 (12 + k) = 0 := fun h => c1 (by rw [h]; decide)
      refine qhi (hi := uR hi 299 (hi 299)) uR_id.symm (w' _ ⟨fun _ _ => rfl, fun c hc => ?_, fun c hc => ?_⟩)
      · by_cases hck : c = k
        · subst hck
          rw [h1]
          unfold nsc
          rw [cond_true, if_neg c0]
        · rw [h0 c hck]
          rfl
      · by_cases hck : c = k
        · subst hck
          rw [h1]
          unfold nsd
          rw [cond_true, if_neg c0]
        · rw [h0 c hck]
          rfl
end HOURR
