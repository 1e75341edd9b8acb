/-! ===== tables that agree: meant, sure, ask ===== -/
/-- what a deed counts in table v -/
def tvl (v d : Nat) : Int32 := nI (v / 7 ^ d % 7) - 3
/-- count j counts for case x at time k -/
def tKn (hi : Nat → Nat → Int32) (x k : Int32) (j : Nat) : Prop := hi 267 j = x ∧ ¬ k < hi 273 j ∧ (hi 274 j = -1 ∨ k < hi 274 j)
def tOK (hi : Nat → Nat → Int32) (val : Nat → Int32) (j : Nat) : Prop := hi 269 j * val (hi 268 j).toNatClampNeg + hi 271 j * val (hi 270 j).toNatClampNeg = hi 272 j
def tS (hi : Nat → Nat → Int32) (n : Nat) (x k : Int32) (val : Nat → Int32) : Prop := ∀ j, j < n → tKn hi x k j → tOK hi val j
noncomputable def tB (hi : Nat → Nat → Int32) (n : Nat) (x k : Int32) (v : Nat) : Bool := @decide (tS hi n x k (tvl v)) (Classical.propDecidable _)
def tC (P : Nat → Bool) : Nat → Nat
  | 0 => 0
  | v + 1 => tC P v + (bif P v then 1 else 0)
theorem tC_le (P : Nat → Bool) : ∀ v, tC P v ≤ v
  | 0 => Nat.le_refl 0
  | v + 1 => by
    have := tC_le P v
    show tC P v + (bif P v then 1 else 0) ≤ v + 1
    cases P v <;> simp <;> omega
/-- how many tables below v agree in which deed e counts f - 3 -/
noncomputable def tL (hi : Nat → Nat → Int32) (n : Nat) (x k : Int32) (v e f : Nat) : Nat := tC (fun u => tB hi n x k u && Nat.beq (u / 7 ^ e % 7) f) v
theorem tB_t {hi : Nat → Nat → Int32} {n : Nat} {x k : Int32} {v : Nat} (h : tS hi n x k (tvl v)) : tB hi n x k v = true := by
  unfold tB
  exact @decide_eq_true _ (Classical.propDecidable _) h
theorem tB_f {hi : Nat → Nat → Int32} {n : Nat} {x k : Int32} {v : Nat} (h : ¬ tS hi n x k (tvl v)) : tB hi n x k v = false := by
  unfold tB
  exact @decide_eq_false _ (Classical.propDecidable _) h
/-- which values the tables' deeds have matters only below D -/
theorem tS_eq {hi : Nat → Nat → Int32} {n D : Nat} {x k : Int32} {a b : Nat → Int32} (hc : ∀ j, j < n → (∃ q : Nat, q < D ∧ hi 268 j = nI q) ∧ ∃ q : Nat, q < D ∧ hi 270 j = nI q) (hD : D ≤ 4) (e : ∀ i, i < D → a i = b i) (h : tS hi n x k a) : tS hi n x k b := by
  intro j hj hk
  have := h j hj hk
  obtain ⟨⟨q, q1, q2⟩, r, r1, r2⟩ := hc j hj
  unfold tOK at this ⊢
  rw [q2, r2, nI_clamp (by omega), nI_clamp (by omega)] at this ⊢
  rw [← e q q1, ← e r r1]
  exact this
theorem od7 {v i j : Nat} (hi : i < 4) (hj : j < 4) (h : ∀ q, q < i → v / 7 ^ q % 7 = 6) (hv : v / 7 ^ i % 7 ≠ 6) : (v + 1) / 7 ^ j % 7 = if j < i then 0 else if j = i then v / 7 ^ i % 7 + 1 else v / 7 ^ j % 7 := by
  rcases (show i = 0 ∨ i = 1 ∨ i = 2 ∨ i = 3 by omega) with rfl | rfl | rfl | rfl
  · rcases (show j = 0 ∨ j = 1 ∨ j = 2 ∨ j = 3 by omega) with rfl | rfl | rfl | rfl <;> simp at hv ⊢ <;> omega
  · have h0 := h 0 (by omega)
    rcases (show j = 0 ∨ j = 1 ∨ j = 2 ∨ j = 3 by omega) with rfl | rfl | rfl | rfl <;> simp at hv h0 ⊢ <;> omega
  · have h0 := h 0 (by omega)
    have h1 := h 1 (by omega)
    rcases (show j = 0 ∨ j = 1 ∨ j = 2 ∨ j = 3 by omega) with rfl | rfl | rfl | rfl <;> simp at hv h0 h1 ⊢ <;> omega
  · have h0 := h 0 (by omega)
    have h1 := h 1 (by omega)
    have h2 := h 2 (by omega)
    rcases (show j = 0 ∨ j = 1 ∨ j = 2 ∨ j = 3 by omega) with rfl | rfl | rfl | rfl <;> simp at hv h0 h1 h2 ⊢ <;> omega
theorem od7e {v D j : Nat} (hD : D ≤ 4) (hj : j < D) (h : ∀ q, q < D → v / 7 ^ q % 7 = 6) : (v + 1) / 7 ^ j % 7 = 0 := by
  have h0 : v / 7 ^ 0 % 7 = 6 := h 0 (by omega)
  rcases (show j = 0 ∨ j = 1 ∨ j = 2 ∨ j = 3 by omega) with rfl | rfl | rfl | rfl
  · simp at h0 ⊢; omega
  · have h1 := h 1 (by omega)
    simp at h0 h1 ⊢; omega
  · have h1 := h 1 (by omega)
    have h2 := h 2 (by omega)
    simp at h0 h1 h2 ⊢; omega
  · have h1 := h 1 (by omega)
    have h2 := h 2 (by omega)
    have h3 := h 3 (by omega)
    simp at h0 h1 h2 h3 ⊢; omega
theorem tv3 {e : Nat} (he : e < 7) : (3 : Int32) ≤ nI e - 3 ↔ e = 6 := by
  rcases (show e = 0 ∨ e = 1 ∨ e = 2 ∨ e = 3 ∨ e = 4 ∨ e = 5 ∨ e = 6 by omega) with rfl | rfl | rfl | rfl | rfl | rfl | rfl <;> decide
theorem p7 {D : Nat} (hD : D ≤ 4) : 7 ^ D ≤ 2401 := by
  rcases (show D = 0 ∨ D = 1 ∨ D = 2 ∨ D = 3 ∨ D = 4 by omega) with rfl | rfl | rfl | rfl | rfl <;> decide
section TALLY
variable {d : Nat} {Q : am_Q} {hi : Nat → Nat → Int32} {hl : Nat → Nat → Int64} {sw : Bool} {kp : Nat → Nat} {x k : Int32} {n D : Nat}
/-- what gather leaves -/
def tG (hi : Nat → Nat → Int32) (n : Nat) (x k : Int32) (m : Nat) (g : Nat → Int32) : Prop := m ≤ n ∧ (∀ a, a < m → ∃ j : Nat, j < n ∧ g a = nI j ∧ tKn hi x k j) ∧ (∀ j, j < n → tKn hi x k j → ∃ a, a < m ∧ g a = nI j)
theorem f29 (hn : n ≤ 30) (e8 : hi 266 8 = nI n) (w : ∀ (m : Nat) (g : Nat → Int32), tG hi n x k m g → Q none (mkH (uR (u2 hi 266 11 (nI m)) 275 g) hl sw kp)) : cS (d + 1) 29 [.ref 266, .int x, .int k] (mkH hi hl sw kp) Q := by
  have e0 : u2 hi 266 11 0 = uR (u2 hi 266 11 (nI 0)) 275 (hi 275) := by
    have : hi 275 = (u2 hi 266 11 (nI 0)) 275 := by rw [u2_row_ne (by decide)]
    rw [this, uR_id]
    rfl
  refine e_29 (cW.hi e0 (lpu (σ := Nat × (Nat → Int32)) n (fun i s => ∀ o4 : Option Value, cW cd_29 d Q 7 [some (.ref 266), some (.int x), some (.int k), some (.int (nI i)), o4] [] (mkH (uR (u2 hi 266 11 (nI s.1)) 275 s.2) hl sw kp)) (fun i s => tG hi i x k s.1 s.2) ?_ ?_ n 0 (0, hi 275) (Nat.zero_add n) ⟨Nat.le_refl 0, fun a ha => absurd ha (Nat.not_lt_zero a), fun j hj => absurd hj (Nat.not_lt_zero j)⟩ none))
  · intro s h o4
    have e8' : (uR (u2 hi 266 11 (nI s.1)) 275 s.2) 266 8 = nI n := e8
    exact k_29_7 (fun _ => w s.1 s.2 h) (fun c => absurd (by rw [e8']; exact Int32.le_refl _) c) (fun c => absurd (by rw [e8']; exact Int32.le_refl _) c) (fun c => absurd (by rw [e8']; exact Int32.le_refl _) c) (fun c => absurd (by rw [e8']; exact Int32.le_refl _) c) (fun c => absurd (by rw [e8']; exact Int32.le_refl _) c) (fun c => absurd (by rw [e8']; exact Int32.le_refl _) c) (fun c => absurd (by rw [e8']; exact Int32.le_refl _) c) (fun c => absurd (by rw [e8']; exact Int32.le_refl _) c) (fun c => absurd (by rw [e8']; exact Int32.le_refl _) c) (fun c => absurd (by rw [e8']; exact Int32.le_refl _) c) (fun c => absurd (by rw [e8']; exact Int32.le_refl _) c) (fun c => absurd (by rw [e8']; exact Int32.le_refl _) c) (fun c => absurd (by rw [e8']; exact Int32.le_refl _) c)
  · intro i s hin ⟨h1, h2, h3⟩ ih o4
    have ei : (nI i).toNatClampNeg = i := nI_clamp (by omega)
    have e8' : ¬ (uR (u2 hi 266 11 (nI s.1)) 275 s.2) 266 8 ≤ nI i := by
      show ¬ hi 266 8 ≤ nI i
      rw [e8]
      exact nI_ge hin (by omega)
    have e30 : ¬ (30 : Int32) ≤ nI i := nI_ge (b := 30) (by omega) (by decide)
    have e11 : (uR (u2 hi 266 11 (nI s.1)) 275 s.2) 266 11 = nI s.1 := by
      show u2 hi 266 11 (nI s.1) 266 11 = _
      rw [u2_s]
    have c267 : (uR (u2 hi 266 11 (nI s.1)) 275 s.2) 267 i = hi 267 i := rfl
    have c273 : (uR (u2 hi 266 11 (nI s.1)) 275 s.2) 273 i = hi 273 i := rfl
    have c274 : (uR (u2 hi 266 11 (nI s.1)) 275 s.2) 274 i = hi 274 i := rfl
    have no : ¬ tKn hi x k i → ∀ o : Option Value, cW cd_29 d Q 7 [some (.ref 266), some (.int x), some (.int k), some (.int (nI i + 1)), o] [] (mkH (uR (u2 hi 266 11 (nI s.1)) 275 s.2) hl sw kp) := by
      intro q o
      rw [nI_1]
      refine ih s ⟨by omega, fun a ha => ?_, fun j hj hk => ?_⟩ o
      · obtain ⟨j, j1, j2⟩ := h2 a ha
        exact ⟨j, by omega, j2⟩
      · by_cases hji : j = i
        · subst hji
          exact absurd hk q
        · exact h3 j (by omega) hk
    have ye : tKn hi x k i → cW cd_29 d Q 7 [some (.ref 266), some (.int x), some (.int k), some (.int (nI i + 1)), some (.int 0)] [] (mkH (u2 (u2 (uR (u2 hi 266 11 (nI s.1)) 275 s.2) 275 ((uR (u2 hi 266 11 (nI s.1)) 275 s.2) 266 11).toNatClampNeg (nI i)) 266 11 ((uR (u2 hi 266 11 (nI s.1)) 275 s.2) 266 11 + 1)) hl sw kp) := by
      intro q
      rw [e11, nI_clamp (by omega), nI_1, nI_1]
      refine cW.hi (hi := uR (u2 hi 266 11 (nI (s.1 + 1))) 275 (up1 s.2 s.1 (nI i))) (by rw [u2_in, u2_co (by decide), u2_u2]) (ih (s.1 + 1, up1 s.2 s.1 (nI i)) ⟨?_, fun a ha => ?_, fun j hj hk => ?_⟩ _)
      · show s.1 + 1 ≤ i + 1
        omega
      · by_cases has : a = s.1
        · subst has
          exact ⟨i, by omega, up1_s, q⟩
        · obtain ⟨j, j1, j2, j3⟩ := h2 a (show a < s.1 from by have : a < s.1 + 1 := ha; omega)
          exact ⟨j, by omega, (up1_n has).trans j2, j3⟩
      · by_cases hji : j = i
        · subst hji
          exact ⟨s.1, show s.1 < s.1 + 1 by omega, up1_s⟩
        · obtain ⟨a, a1, a2⟩ := h3 j (by omega) hk
          exact ⟨a, show a < s.1 + 1 by omega, (up1_n (by omega)).trans a2⟩
    have v11 : vp_in ((uR (u2 hi 266 11 (nI s.1)) 275 s.2) 266 11) 30 := by
      rw [e11]
      exact vp_in_nI (by omega) (by decide)
    refine k_29_7 (fun c => absurd c e8') (fun _ c => absurd c e30) (fun _ _ => vp_in_nI (by omega) (by decide)) ?_ (fun _ _ _ _ _ => v11) ?_ ?_ ?_ (fun _ _ _ _ _ _ => v11) ?_ ?_ ?_ ?_ ?_ <;> rw [ei, c274]
    · rw [c267, c273]
      exact fun _ _ _ _ c => no (fun q => q.2.1 c) _
    · rw [c267, c273]
      exact fun _ _ c1 c2 c3 => ye ⟨c2, c3, Or.inl c1⟩
    · rw [c267]
      exact fun _ _ _ c => no (fun q => c q.1) _
    · rw [c267, c273]
      exact fun _ _ _ _ _ c => no (fun q => q.2.1 c) _
    · rw [c267, c273]
      exact fun _ _ _ c1 c2 c3 => ye ⟨c2, c3, Or.inr c1⟩
    · rw [c267]
      exact fun _ _ _ _ c => no (fun q => c q.1) _
    · rw [c267, c273]
      exact fun _ _ c1 c2 _ _ => no (fun q => q.2.2.elim c1 c2) _
    · rw [c267, c273]
      exact fun _ _ c1 c2 _ _ => no (fun q => q.2.2.elim c1 c2) _
    · rw [c267]
      exact fun _ _ c1 c2 _ => no (fun q => q.2.2.elim c1 c2) _
theorem f30 {m : Nat} (hn : n ≤ 30) (hD : D ≤ 4) (hc : ∀ j, j < n → (∃ q : Nat, q < D ∧ hi 268 j = nI q) ∧ ∃ q : Nat, q < D ∧ hi 270 j = nI q) (hg : tG hi n x k m (hi 275)) (e11 : hi 266 11 = nI m) (w1 : tS hi n x k (hi 276) → Q (some (.int 1)) (mkH hi hl sw kp)) (w0 : ¬ tS hi n x k (hi 276) → Q (some (.int 0)) (mkH hi hl sw kp)) : cS (d + 1) 30 [.ref 266] (mkH hi hl sw kp) Q := by
  obtain ⟨g1, g2, g3⟩ := hg
  refine e_30 (lpu (σ := Unit) m (fun i _ => ∀ o2 : Option Value, cW cd_30 d Q 2 [some (.ref 266), some (.int (nI i)), o2] [] (mkH hi hl sw kp)) (fun i _ => ∀ a, a < i → ∀ j, hi 275 a = nI j → j < n → tOK hi (hi 276) j) ?_ ?_ m 0 () (Nat.zero_add m) (fun a ha => absurd ha (Nat.not_lt_zero a)) none)
  · intro _ h o2
    refine k_30_2 (fun _ => w1 (fun j hj hk => ?_)) (fun c => absurd (by rw [e11]; exact Int32.le_refl _) c) (fun c => absurd (by rw [e11]; exact Int32.le_refl _) c) (fun c => absurd (by rw [e11]; exact Int32.le_refl _) c) (fun c => absurd (by rw [e11]; exact Int32.le_refl _) c) (fun c => absurd (by rw [e11]; exact Int32.le_refl _) c) (fun c => absurd (by rw [e11]; exact Int32.le_refl _) c)
    obtain ⟨a, a1, a2⟩ := g3 j hj hk
    exact h a a1 j a2 hj
  · intro i _ hin h ih o2
    obtain ⟨j, j1, j2, j3⟩ := g2 i hin
    obtain ⟨⟨q, q1, q2⟩, r, r1, r2⟩ := hc j j1
    have ei : (nI i).toNatClampNeg = i := nI_clamp (by omega)
    have ej : (hi 275 (nI i).toNatClampNeg).toNatClampNeg = j := by rw [ei, j2, nI_clamp (by omega)]
    refine k_30_2 (fun c => absurd c (by rw [e11]; exact nI_ge hin (by omega))) (fun _ => vp_in_nI (by omega) (by decide)) (fun _ => by rw [ei, j2]; exact vp_in_nI (by omega) (by decide)) (fun _ => by rw [ej, q2]; exact vp_in_nI (by omega) (by decide)) (fun _ => by rw [ej, r2]; exact vp_in_nI (by omega) (by decide)) (fun _ c => ?_) (fun _ c => ?_)
    · rw [ej] at c
      rw [nI_1]
      refine ih () (fun a ha j' e1 hj' => ?_) _
      by_cases hai : a = i
      · subst hai
        rw [j2] at e1
        have : j' = j := ((nI_eq (by omega) (by omega)).mp e1).symm
        subst this
        exact c
      · exact h a (by omega) j' e1 hj'
    · rw [ej] at c
      exact w0 (fun q => c (q j j1 j3))
theorem ix7 (a e : Nat) : nI a + (nI e - 3) + 3 = nI (a + e) := by
  rw [Int32.add_assoc, Int32.sub_add_cancel, nI_add]
/-- one more table is noted, deeds below i -/
theorem f31 (hD : D ≤ 4) {ds : Nat → Nat} (hds : ∀ e, e < D → ds e < 7 ∧ hi 276 e = nI (ds e) - 3) (w : ∀ L : Nat → Int32, (∀ e f, e < D → f < 7 → L (7 * e + f) = if ds e = f then hi 277 (7 * e + f) + 1 else hi 277 (7 * e + f)) → Q none (mkH (uR hi 277 L) hl sw kp)) : cS (d + 1) 31 [.ref 266, .int (nI D)] (mkH hi hl sw kp) Q := by
  refine e_31 (cW.hi uR_id.symm (lpu (σ := Nat → Int32) D (fun i L => cW cd_31 d Q 2 [some (.ref 266), some (.int (nI D)), some (.int (nI i))] [] (mkH (uR hi 277 L) hl sw kp)) (fun i L => ∀ e f, e < D → f < 7 → L (7 * e + f) = if e < i ∧ ds e = f then hi 277 (7 * e + f) + 1 else hi 277 (7 * e + f)) ?_ ?_ D 0 (hi 277) (Nat.zero_add D) (fun e f _ _ => by rw [if_neg (by omega)])))
  · intro L h
    refine k_31_2 (fun _ => w L (fun e f he hf => ?_)) (fun c => absurd (Int32.le_refl _) c) (fun c => absurd (Int32.le_refl _) c) (fun c => absurd (Int32.le_refl _) c)
    rw [h e f he hf]
    by_cases q : ds e = f
    · rw [if_pos ⟨he, q⟩, if_pos q]
    · rw [if_neg (fun z => q z.2), if_neg q]
  · intro i L hiD h ih
    obtain ⟨d1, d2⟩ := hds i hiD
    have ei : (nI i).toNatClampNeg = i := nI_clamp (by omega)
    have ex : nI i * 7 + (uR hi 277 L) 276 (nI i).toNatClampNeg + 3 = nI (7 * i + ds i) := by
      show nI i * 7 + hi 276 (nI i).toNatClampNeg + 3 = _
      rw [ei, d2, show (7 : Int32) = nI 7 from rfl, pk_mul, ix7, Nat.mul_comm]
    refine k_31_2 (fun c => absurd c (nI_ge hiD (by omega))) (fun _ => vp_in_nI (by omega) (by decide)) (fun _ => by rw [ex]; exact vp_in_nI (by omega) (by decide)) (fun _ => ?_)
    rw [ex, nI_clamp (by omega), nI_1]
    refine cW.hi u2_in (ih _ (fun e f he hf => ?_))
    rw [uR_s]
    by_cases hq : 7 * e + f = 7 * i + ds i
    · have h1 : e = i := by omega
      subst h1
      have h2 : ds e = f := by omega
      rw [hq, up1_s, if_pos ⟨by omega, h2⟩, ← hq, h e f he hf, if_neg (by omega)]
    · rw [up1_n hq, h e f he hf]
      by_cases h1 : e < i ∧ ds e = f
      · rw [if_pos h1, if_pos ⟨by omega, h1.2⟩]
      · rw [if_neg h1, if_neg]
        intro z
        apply h1
        refine ⟨?_, z.2⟩
        have : e ≠ i := fun q => by subst q; omega
        omega
/-- the table's wheels turn -/
theorem f32 (hD : D ≤ 4) {v : Nat} (hv : ∀ e, e < D → hi 276 e = tvl v e) (w : ∀ L : Nat → Int32, (∀ e, e < D → L e = tvl (v + 1) e) → Q none (mkH (uR hi 276 L) hl sw kp)) : cS (d + 1) 32 [.ref 266, .int (nI D)] (mkH hi hl sw kp) Q := by
  refine e_32 (cW.hi uR_id.symm (lpu (σ := Nat → Int32) D (fun i L => cW cd_32 d Q 2 [some (.ref 266), some (.int (nI D)), some (.int (nI i))] [] (mkH (uR hi 276 L) hl sw kp)) (fun i L => (∀ q, q < i → v / 7 ^ q % 7 = 6) ∧ ∀ e, e < D → L e = if e < i then -3 else tvl v e) ?_ ?_ D 0 (hi 276) (Nat.zero_add D) ⟨fun q hq => absurd hq (Nat.not_lt_zero q), fun e he => by rw [if_neg (Nat.not_lt_zero e)]; exact hv e he⟩))
  · intro L ⟨h1, h2⟩
    refine k_32_2 (fun _ => w L (fun e he => ?_)) (fun c => absurd (Int32.le_refl _) c) (fun c => absurd (Int32.le_refl _) c) (fun c => absurd (Int32.le_refl _) c)
    rw [h2 e he, if_pos he]
    unfold tvl
    rw [od7e hD he h1]
    rfl
  · intro i L hiD ⟨h1, h2⟩ ih
    have ei : (nI i).toNatClampNeg = i := nI_clamp (by omega)
    have h7 : v / 7 ^ i % 7 < 7 := Nat.mod_lt _ (by decide)
    have eL : (uR hi 276 L) 276 (nI i).toNatClampNeg = nI (v / 7 ^ i % 7) - 3 := by
      rw [uR_s, ei, h2 i hiD, if_neg (Nat.lt_irrefl i)]
      rfl
    refine k_32_2 (fun c => absurd c (nI_ge hiD (by omega))) (fun _ => vp_in_nI (by omega) (by decide)) (fun _ c => ?_) (fun _ c => ?_)
    · rw [eL, tv3 h7] at c
      rw [ei, nI_1]
      refine cW.hi u2_in (ih _ ⟨fun q hq => ?_, fun e he => ?_⟩)
      · by_cases hqi : q = i
        · rw [hqi]; exact c
        · exact h1 q (by omega)
      · by_cases hei : e = i
        · subst hei
          rw [up1_s, if_pos (by omega)]
        · rw [up1_n hei, h2 e he]
          by_cases h3 : e < i
          · rw [if_pos h3, if_pos (by omega)]
          · rw [if_neg h3, if_neg (by omega)]
    · rw [eL] at c ⊢
      rw [tv3 h7] at c
      rw [ei]
      refine qhi u2_in (w _ (fun e he => ?_))
      unfold tvl
      rw [od7 (by omega) (by omega) h1 c]
      by_cases hei : e = i
      · subst hei
        rw [up1_s, if_neg (Nat.lt_irrefl _), if_pos rfl, ← nI_1]
        rw [Int32.sub_eq_add_neg, Int32.sub_eq_add_neg, Int32.add_assoc, Int32.add_assoc, Int32.add_comm (-3) 1]
      · rw [up1_n hei, h2 e he]
        by_cases h3 : e < i
        · rw [if_pos h3, if_pos h3]
          rfl
        · rw [if_neg h3, if_neg h3, if_neg hei]
          rfl
theorem f287_277 (w : ∀ L : Nat → Int32, (∀ j, j < 28 → L j = 0) → Q none (mkH (uR hi 277 L) hl sw kp)) : cS (d + 1) 287 [.ref 277, .int 0] (mkH hi hl sw kp) Q := by
  refine e_287_277 (cW.hi uR_id.symm (lpu (σ := Nat → Int32) 28 (fun i L => cW cd_287 d Q 5 [some (.ref 277), some (.int 0), some (.int (nI i)), some (.int (Int32.ofNat 28))] [] (mkH (uR hi 277 L) hl sw kp)) (fun i L => ∀ j, j < i → L j = 0) ?_ ?_ 28 0 (hi 277) rfl (fun j hj => absurd hj (Nat.not_lt_zero j))))
  · intro L h
    exact k_287_277_5 (fun _ => w L h) (fun c => absurd (by decide) c) (fun c => absurd (by decide) c)
  · intro i L hi' h ih
    refine k_287_277_5 (fun c => absurd c (nI_ge (a := i) (b := 28) hi' (by decide))) (fun _ => vp_in_nI hi' (by decide)) (fun _ => ?_)
    rw [nI_clamp (by omega), nI_1]
    refine cW.hi u2_in (ih _ (fun j hj => ?_))
    by_cases hji : j = i
    · subst hji; rw [up1_s]
    · rw [up1_n hji]; exact h j (by omega)
theorem f287_276 (w : ∀ L : Nat → Int32, (∀ j, j < 4 → L j = -3) → Q none (mkH (uR hi 276 L) hl sw kp)) : cS (d + 1) 287 [.ref 276, .int (-3)] (mkH hi hl sw kp) Q := by
  refine e_287_276 (cW.hi uR_id.symm (lpu (σ := Nat → Int32) 4 (fun i L => cW cd_287 d Q 5 [some (.ref 276), some (.int (-3)), some (.int (nI i)), some (.int (Int32.ofNat 4))] [] (mkH (uR hi 276 L) hl sw kp)) (fun i L => ∀ j, j < i → L j = -3) ?_ ?_ 4 0 (hi 276) rfl (fun j hj => absurd hj (Nat.not_lt_zero j))))
  · intro L h
    exact k_287_276_5 (fun _ => w L h) (fun c => absurd (by decide) c) (fun c => absurd (by decide) c)
  · intro i L hi' h ih
    refine k_287_276_5 (fun c => absurd c (nI_ge (a := i) (b := 4) hi' (by decide))) (fun _ => vp_in_nI hi' (by decide)) (fun _ => ?_)
    rw [nI_clamp (by omega), nI_1]
    refine cW.hi u2_in (ih _ (fun j hj => ?_))
    by_cases hji : j = i
    · subst hji; rw [up1_s]
    · rw [up1_n hji]; exact h j (by omega)
theorem tL_s {hi : Nat → Nat → Int32} {v e f : Nat} : tL hi n x k (v + 1) e f = tL hi n x k v e f + (bif tB hi n x k v && Nat.beq (v / 7 ^ e % 7) f then 1 else 0) := rfl
/-- the tally of the class -/
theorem f28 (hn : n ≤ 30) (hD : D ≤ 4) (e8 : hi 266 8 = nI n) (hc : ∀ j, j < n → (∃ q : Nat, q < D ∧ hi 268 j = nI q) ∧ ∃ q : Nat, q < D ∧ hi 270 j = nI q) (w : ∀ (m : Int32) (g vs L : Nat → Int32), (∀ e f, e < D → f < 7 → L (7 * e + f) = nI (tL hi n x k (7 ^ D) e f)) → Q (some (.int (nI (tC (tB hi n x k) (7 ^ D))))) (mkH (uR (uR (uR (u2 hi 266 11 m) 275 g) 277 L) 276 vs) hl sw kp)) : cS (d + 2) 28 [.ref 266, .int x, .int k, .int (nI D)] (mkH hi hl sw kp) Q := by
  have h7 := p7 hD
  refine e_28 (f29 (d := d) hn e8 (fun m g hg => k_28_17 (f287_277 (d := d) (fun L0 hL0 => k_28_25 (f287_276 (d := d) (fun vs0 hv0 => k_28_34 ?_))))))
  have eD : (if (0 : Int32) < (if nI D < 4 then nI D else 4) then (if nI D < 4 then nI D else 4) else 0) = nI D := by
    rcases (show D = 0 ∨ D = 1 ∨ D = 2 ∨ D = 3 ∨ D = 4 by omega) with rfl | rfl | rfl | rfl | rfl <;> decide
  rw [eD]
  -- 7 to the D
  refine lpu (σ := Unit) D (fun i _ => cW cd_28 (d + 1) Q 40 [some (.ref 266), some (.int x), some (.int k), some (.int (nI D)), some (.int (nI D)), some (.int (nI (7 ^ i))), some (.int (nI i)), none] [] (mkH (uR (uR (uR (u2 hi 266 11 (nI m)) 275 g) 277 L0) 276 vs0) hl sw kp)) (fun _ _ => True) ?_ ?_ D 0 () (Nat.zero_add D) trivial
  · intro _ _
    refine k_28_40 (fun _ => ?_) (fun c => absurd (Int32.le_refl _) c)
    refine lpu (σ := (Nat → Int32) × (Nat → Int32)) (7 ^ D) (fun v s => cW cd_28 (d + 1) Q 66 [some (.ref 266), some (.int x), some (.int k), some (.int (nI D)), some (.int (nI D)), some (.int (nI (7 ^ D))), some (.int (nI (tC (tB hi n x k) v))), some (.int (nI v))] [] (mkH (uR (uR (uR (u2 hi 266 11 (nI m)) 275 g) 277 s.1) 276 s.2) hl sw kp)) (fun v s => (∀ e f, e < D → f < 7 → s.1 (7 * e + f) = nI (tL hi n x k v e f)) ∧ ∀ e, e < D → s.2 e = tvl v e) ?_ ?_ (7 ^ D) 0 (L0, vs0) (Nat.zero_add _) ⟨fun e f he hf => hL0 _ (by omega), fun e he => ?_⟩
    · intro s ⟨h1, h2⟩
      exact k_28_66 (fun _ => w (nI m) g s.2 s.1 h1) (fun c => absurd (Int32.le_refl _) c)
    · intro v s hv ⟨h1, h2⟩ ih
      have hcl := tC_le (tB hi n x k) v
      refine k_28_66 (fun c => absurd c (nI_ge hv (by omega))) (fun _ => ?_)
      have goOn : ∀ (L : Nat → Int32) (c : Nat), c = tC (tB hi n x k) (v + 1) → (∀ e f, e < D → f < 7 → L (7 * e + f) = nI (tL hi n x k (v + 1) e f)) → cW cd_28 (d + 1) Q 89 [some (.ref 266), some (.int x), some (.int k), some (.int (nI D)), some (.int (nI D)), some (.int (nI (7 ^ D))), some (.int (nI c)), some (.int (nI v))] [] (mkH (uR (uR (uR (u2 hi 266 11 (nI m)) 275 g) 277 L) 276 s.2) hl sw kp) := by
        intro L c hc' hL
        subst hc'
        refine k_28_89 (f32 (d := d) hD (v := v) (fun e he => by rw [uR_s]; exact h2 e he) (fun vs' hvs => k_28_95 ?_))
        rw [nI_1]
        exact cW.hi uR_uR (ih (L, vs') ⟨hL, hvs⟩)
      have e276 : (uR (uR (uR (u2 hi 266 11 (nI m)) 275 g) 277 s.1) 276 s.2) 276 = s.2 := uR_s
      refine f30 (d := d) (n := n) (m := m) (x := x) (k := k) hn hD hc (show tG hi n x k m g from hg) (show (u2 hi 266 11 (nI m)) 266 11 = nI m from u2_s) (fun hs => ?_) (fun hs => ?_)
      · have hb : tB hi n x k v = true := by
          refine tB_t (tS_eq (a := s.2) hc hD h2 ?_)
          rw [e276] at hs
          exact hs
        refine k_28_77 (fun c => absurd c (by decide)) (fun _ => ?_)
        refine f31 (d := d) hD (ds := fun e => v / 7 ^ e % 7) (fun e he => ⟨Nat.mod_lt _ (by decide), by rw [uR_s]; exact h2 e he⟩) (fun L hL => ?_)
        rw [nI_1]
        refine cW.hi (hi := uR (uR (uR (u2 hi 266 11 (nI m)) 275 g) 277 L) 276 s.2) (by rw [uR_co (by decide), uR_uR]) (goOn L _ ?_ (fun e f he hf => ?_))
        · show _ = tC (tB hi n x k) v + (bif tB hi n x k v then 1 else 0)
          rw [hb]
          rfl
        · rw [hL e f he hf, tL_s, hb]
          have e277 : (uR (uR (uR (u2 hi 266 11 (nI m)) 275 g) 277 s.1) 276 s.2) 277 (7 * e + f) = nI (tL hi n x k v e f) := by
            show (uR (uR (u2 hi 266 11 (nI m)) 275 g) 277 s.1) 277 (7 * e + f) = _
            rw [uR_s]
            exact h1 e f he hf
          rw [e277]
          by_cases q : v / 7 ^ e % 7 = f
          · rw [if_pos q, nI_1, q, Nat.beq_refl]
            rfl
          · rw [if_neg q, am_beq q]
            rfl
      · have hb : tB hi n x k v = false := by
          refine tB_f (fun q => hs ?_)
          rw [e276]
          exact tS_eq (a := tvl v) hc hD (fun i hi' => (h2 i hi').symm) q
        refine k_28_77 (fun _ => goOn s.1 _ ?_ (fun e f he hf => ?_)) (fun c => absurd rfl c)
        · show _ = tC (tB hi n x k) v + (bif tB hi n x k v then 1 else 0)
          rw [hb]
          rfl
        · rw [h1 e f he hf, tL_s, hb]
          rfl
    · show vs0 e = tvl 0 e
      rw [hv0 e (by omega)]
      unfold tvl
      rw [Nat.zero_div]
      rfl
  · intro i _ hiD _ ih
    refine k_28_40 (fun c => absurd c (nI_ge hiD (by omega))) (fun _ => ?_)
    rw [nI_1, show (7 : Int32) = nI 7 from rfl, pk_mul, ← Nat.pow_succ]
    exact ih () trivial
end TALLY
