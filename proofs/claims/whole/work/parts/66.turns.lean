/-! ===== operation: byTurns ===== -/
section TURNS
variable {d : Nat} {Q : am_Q} {X hi : Nat → Nat → Int32} {hl hl0 : Nat → Nat → Int64} {sw : Bool} {kp : Nat → Nat} {V : vN} {c n M B H D0 : Nat} {bo : Nat → Nat} {W : Nat → Nat → Nat}
/-- a bone at p, one at q -/
def prq (p q t : Nat) : Nat := (if t = p then 1 else 0) + (if t = q then 1 else 0)
theorem prq_le (p q t : Nat) : prq p q t ≤ 2 := by
  unfold prq
  by_cases h1 : t = p
  · rw [if_pos h1]
    by_cases h2 : t = q
    · rw [if_pos h2]; omega
    · rw [if_neg h2]; omega
  · rw [if_neg h1]
    by_cases h2 : t = q
    · rw [if_pos h2]; omega
    · rw [if_neg h2]; omega
theorem prq_z {p q t : Nat} (h1 : t ≠ p) (h2 : t ≠ q) : prq p q t = 0 := by
  unfold prq
  rw [if_neg h1, if_neg h2]
theorem oks_pr {P p q : Nat} (hp : p < P) (hq : q < P) (hb : ∀ t, t < P → bo t ≤ 9) : oks bo P (prq p q) = true ↔ bo p + prq p q p ≤ 9 ∧ bo q + prq p q q ≤ 9 := by
  rw [oks_iff]
  constructor
  · intro h
    exact ⟨h p hp, h q hq⟩
  · intro ⟨h1, h2⟩ j hj
    by_cases c1 : j = p
    · subst c1; exact h1
    · by_cases c2 : j = q
      · subst c2; exact h2
      · rw [prq_z c1 c2]
        exact hb j hj
/-- the least behind p, of the first places -/
def ist (W : Nat → Nat → Nat) (bo : Nat → Nat) (P p : Nat) : Nat → Option (Nat × Nat)
  | 0 => none
  | j + 1 => if oks bo P (prq p j) = true then (match ist W bo P p j with | none => some (W p j, j) | some (v, q) => if W p j < v then some (W p j, j) else some (v, q)) else ist W bo P p j
/-- the greatest of them -/
def ost (W : Nat → Nat → Nat) (bo : Nat → Nat) (P : Nat) : Nat → Option (Nat × Nat × Nat)
  | 0 => none
  | j + 1 => match ist W bo P j P with
    | none => ost W bo P j
    | some (v, q) => match ost W bo P j with
      | none => some (v, j, q)
      | some (g, a, b) => if g < v then some (v, j, q) else some (g, a, b)
def iv : Option (Nat × Nat) → Int64
  | none => -1
  | some (v, _) => lN v
def iq : Option (Nat × Nat) → Int32
  | none => -1
  | some (_, q) => nI q
def ov : Option (Nat × Nat × Nat) → Int64
  | none => -1
  | some (v, _, _) => lN v
def of1 : Option (Nat × Nat × Nat) → Int32
  | none => -1
  | some (_, a, _) => nI a
def of2 : Option (Nat × Nat × Nat) → Int32
  | none => -1
  | some (_, _, b) => nI b
theorem ist_b {P p : Nat} (hW : ∀ q, W p q < 2 ^ 62) : ∀ j v q, ist W bo P p j = some (v, q) → v < 2 ^ 62 ∧ q < j
  | 0, v, q, h => by simp [ist] at h
  | j + 1, v, q, h => by
    unfold ist at h
    by_cases c : oks bo P (prq p j) = true
    · rw [if_pos c] at h
      cases hs : ist W bo P p j with
      | none =>
        rw [hs] at h
        have := Prod.mk.inj (Option.some.inj h)
        rw [← this.1, ← this.2]
        exact ⟨hW j, by omega⟩
      | some w =>
        obtain ⟨v0, q0⟩ := w
        rw [hs] at h
        have h2 : (if W p j < v0 then some (W p j, j) else some (v0, q0)) = some (v, q) := h
        by_cases c2 : W p j < v0
        · rw [if_pos c2] at h2
          have := Prod.mk.inj (Option.some.inj h2)
          rw [← this.1, ← this.2]
          exact ⟨hW j, by omega⟩
        · rw [if_neg c2] at h2
          have := Prod.mk.inj (Option.some.inj h2)
          have ih := ist_b hW j v0 q0 hs
          rw [← this.1, ← this.2]
          exact ⟨ih.1, by omega⟩
    · rw [if_neg c] at h
      have ih := ist_b hW j v q h
      exact ⟨ih.1, by omega⟩
theorem ost_b {P : Nat} (hW : ∀ p q, W p q < 2 ^ 62) : ∀ j v a b, ost W bo P j = some (v, a, b) → v < 2 ^ 62
  | 0, v, a, b, h => by simp [ost] at h
  | j + 1, v, a, b, h => by
    unfold ost at h
    cases hs : ist W bo P j P with
    | none =>
      rw [hs] at h
      exact ost_b hW j v a b h
    | some w =>
      obtain ⟨v0, q0⟩ := w
      rw [hs] at h
      have hv0 := (ist_b (hW j) P v0 q0 hs).1
      cases ho : ost W bo P j with
      | none =>
        rw [ho] at h
        have := Prod.mk.inj (Option.some.inj h)
        rw [← this.1]
        exact hv0
      | some w =>
        obtain ⟨g, a0, b0⟩ := w
        rw [ho] at h
        have h2 : (if g < v0 then some (v0, j, q0) else some (g, a0, b0)) = some (v, a, b) := h
        by_cases c2 : g < v0
        · rw [if_pos c2] at h2
          rw [← (Prod.mk.inj (Option.some.inj h2)).1]
          exact hv0
        · rw [if_neg c2] at h2
          rw [← (Prod.mk.inj (Option.some.inj h2)).1]
          exact ost_b hW j g a0 b0 ho
theorem lgl {a b : Nat} (ha : a < 2 ^ 63) (hb : b < 2 ^ 63) : lg_cmp (lN a) (lN b) < 0 ↔ a < b := by
  unfold lg_cmp
  rcases Nat.lt_trichotomy a b with h | h | h
  · rw [if_neg (fun q => by have := (pk_lLT hb ha).mp q; omega), if_neg (fun q => by have := (pk_lEQ ha hb).mp q; omega)]
    exact ⟨fun _ => h, fun _ => by decide⟩
  · subst h
    rw [if_neg (fun q => by have := (pk_lLT ha ha).mp q; omega), if_pos rfl]
    exact ⟨fun q => absurd q (by decide), fun q => by omega⟩
  · rw [if_pos (show lN a > lN b from (pk_lLT hb ha).mpr h)]
    exact ⟨fun q => absurd q (by decide), fun q => by omega⟩
theorem m_row {Y : Nat → Nat → Int32} {a p q : Nat} (hp : p < 8) (hq : q < 8) (h0 : ∀ j, j < 8 → Y a j = nI 0) {t : Nat} (ht : t < 8) : (u2 (u2 Y a p (Y a p + 1)) a q ((u2 Y a p (Y a p + 1)) a q + 1)) a t = nI (prq p q t) := by
  have e1 : ∀ t, t < 8 → (u2 Y a p (Y a p + 1)) a t = nI (if t = p then 1 else 0) := fun t ht => by
    by_cases c : t = p
    · subst c
      rw [u2_s, h0 t ht, nI_1, if_pos rfl]
    · rw [u2_nn (by omega), h0 t ht, if_neg c]
  by_cases c : t = q
  · subst c
    rw [u2_s, e1 t ht, nI_1]
    unfold prq
    rw [if_pos (rfl : t = t)]
  · rw [u2_nn (by omega), e1 t ht]
    unfold prq
    rw [if_neg c, Nat.add_zero]
/-- the class answers to p -/
theorem f22 {p : Nat} (eW : W = fun p q => wp V X (fun t => bo t + prq p q t) H c n D0) (hx : LX V X c n 2 B H D0 bo) (hp : p < vP V) (hli : LJ V X c n 2 B H bo hi) (hll : LL hl hl0) (h5 : hi 264 5 = of1 (ost W bo (vP V) p)) (h6 : hi 264 6 = of2 (ost W bo (vP V) p)) (h4 : hl 264 4 = ov (ost W bo (vP V) p))
    (w' : ∀ (hi' : Nat → Nat → Int32) (hl' : Nat → Nat → Int64) (sw' : Bool), LJ V X c n 2 B H bo hi' → LL hl' hl0 → hi' 264 5 = of1 (ost W bo (vP V) (p + 1)) → hi' 264 6 = of2 (ost W bo (vP V) (p + 1)) → hl' 264 4 = ov (ost W bo (vP V) (p + 1)) → Q none (mkH hi' hl' sw' kp)) : cS (d + 7) 22 [.ref 264, .int (nI p)] (mkH hi hl sw kp) Q := by
  have hxd := hx.dg
  obtain ⟨hv, hsn, hc, hcs, hn, hM, hdg, d1, hB⟩ := id hx
  have hb8 := hv.1
  obtain ⟨n1, n2, n3, n4, n5, n6, n7⟩ := id hsn
  have hW : ∀ p q, W p q < 2 ^ 62 := fun p q => by
    rw [eW]
    exact wp_2 hn hxd
  have e19 : ∀ hi, LJ V X c n 2 B H bo hi → hi 19 1 = nI (vP V) := fun hi h => (h.1 19 1 (by unfold LFr; omega)).trans hv.2.1.2.1
  have e29 : ∀ hi, LJ V X c n 2 B H bo hi → ∀ t, t < 8 → hi 29 t = nI (bo t) := fun hi h t ht => (h.1 29 t (by unfold LFr; omega)).trans (n5 t ht).2.1
  refine e_22 (lpu (σ := (Nat → Nat → Int32) × (Nat → Nat → Int64) × Bool) (vP V) (fun j z => ∀ o6 : Option Value, cW cd_22 (d + 6) Q 10 [some (.ref 264), some (.int (nI p)), some (.long (iv (ist W bo (vP V) p j))), none, some (.int (iq (ist W bo (vP V) p j))), some (.int (nI j)), o6, none] [] (mkH z.1 z.2.1 z.2.2 kp)) (fun j z => LJ V X c n 2 B H bo z.1 ∧ LL z.2.1 hl0 ∧ z.1 264 = hi 264 ∧ z.2.1 264 = hl 264) ?_ ?_ (vP V) 0 (hi, hl, sw) (Nat.zero_add _) ⟨hli, hll, rfl, rfl⟩ none)
  · intro z ⟨z1, z2, z3, z4⟩ o6
    have hle : z.1 19 1 ≤ nI (vP V) := by rw [e19 _ z1]; exact Int32.le_refl _
    have eo : ost W bo (vP V) (p + 1) = match ist W bo (vP V) p (vP V) with | none => ost W bo (vP V) p | some (v, q) => match ost W bo (vP V) p with | none => some (v, p, q) | some (g, a, b) => if g < v then some (v, p, q) else some (g, a, b) := rfl
    have y5 : z.1 264 5 = of1 (ost W bo (vP V) p) := by rw [z3]; exact h5
    have y6 : z.1 264 6 = of2 (ost W bo (vP V) p) := by rw [z3]; exact h6
    have y4 : z.2.1 264 4 = ov (ost W bo (vP V) p) := by rw [z4]; exact h4
    cases hs : ist W bo (vP V) p (vP V) with
    | none =>
      rw [hs] at eo
      have eo2 : ost W bo (vP V) (p + 1) = ost W bo (vP V) p := eo
      rw [eo2] at w'
      exact k_22_10 (fun _ _ => w' z.1 z.2.1 z.2.2 z1 z2 y5 y6 y4) (fun _ c => absurd rfl c) (fun _ c => absurd rfl c) (fun c => absurd hle c)
    | some w =>
      obtain ⟨v, q⟩ := w
      rw [hs] at eo
      obtain ⟨hv0, hq0⟩ := ist_b (hW p) (vP V) v q hs
      have nm : ¬ (iq (some (v, q)) = -1) := fun z => by
        have z2 : nI q < 0 := by rw [show nI q = -1 from z]; decide
        exact nI_pos (by omega) z2
      refine k_22_10 (fun _ c => absurd c nm) (fun _ _ cc => ?_) (fun _ _ cc => ?_) (fun c => absurd hle c)
      · rw [y4] at cc
        have eo2 : ost W bo (vP V) (p + 1) = ost W bo (vP V) p := by
          cases ho : ost W bo (vP V) p with
          | none =>
            rw [ho] at cc
            exact absurd cc (lgm (by omega))
          | some w =>
            obtain ⟨g, a, b⟩ := w
            have hg := ost_b (bo := bo) (P := vP V) hW p g a b ho
            rw [ho] at cc eo
            have h1 : v ≤ g := (lgc (by omega) (by omega)).mp cc
            rw [eo]
            exact if_neg (by omega)
        rw [eo2] at w'
        exact w' z.1 z.2.1 z.2.2 z1 z2 y5 y6 y4
      · rw [y4] at cc
        have eo2 : ost W bo (vP V) (p + 1) = some (v, p, q) := by
          cases ho : ost W bo (vP V) p with
          | none => rw [eo, ho]
          | some w =>
            obtain ⟨g, a, b⟩ := w
            have hg := ost_b (bo := bo) (P := vP V) hW p g a b ho
            rw [ho] at cc eo
            have h1 : ¬ v ≤ g := fun z => cc ((lgc (by omega) (by omega)).mpr z)
            rw [eo]
            exact if_pos (by omega)
        rw [eo2] at w'
        refine w' _ _ z.2.2 (z1.of (fun a j a1 a2 a3 a4 a5 a6 => ?_) (fun j _ => ?_) (by rw [u2_row_ne (by decide), u2_row_ne (by decide)]) (by rw [u2_row_ne (by decide), u2_row_ne (by decide)])) (fun a a1 a2 a3 => ?_) ?_ ?_ ?_
        · rw [u2_nn (by omega), u2_nn (by omega)]
        · rw [u2_row_ne (by decide), u2_row_ne (by decide)]
        · rw [u2_row_ne a3]
          exact z2 a a1 a2 a3
        · rw [u2_nn (by decide), u2_s]
          rfl
        · rw [u2_s]
          rfl
        · rw [u2_s]
          rfl
  · intro j z hj ⟨z1, z2, z3, z4⟩ ih o6
    have hg : ¬ z.1 19 1 ≤ nI j := by rw [e19 _ z1]; exact nI_ge hj (by omega)
    have ep : (nI p).toNatClampNeg = p := nI_clamp (by omega)
    have ej : (nI j).toNatClampNeg = j := nI_clamp (by omega)
    have ei : ist W bo (vP V) p (j + 1) = if oks bo (vP V) (prq p j) = true then (match ist W bo (vP V) p j with | none => some (W p j, j) | some (v, q) => if W p j < v then some (W p j, j) else some (v, q)) else ist W bo (vP V) p j := rfl
    refine k_22_10 (fun c => absurd c hg) (fun c => absurd c hg) (fun c => absurd c hg) (fun _ => cS.hi cx_id.symm (f38 (d := d + 4) (fun m' hm' => k_22_29 (vp_in_nI (by omega) (by decide)) (vp_in_nI (by omega) (by decide)) ?_ ?_ ?_)))
    all_goals
      rw [ep, ej]
      obtain ⟨Y, eY⟩ : ∃ Y, Y = cx z.1 (z.1 27) (z.1 256) m' (z.1 258) (z.1 259) (z.1 260) := ⟨_, rfl⟩
      rw [← eY]
      have Y257 : ∀ j, j < 8 → Y 257 j = nI 0 := fun j hj => by rw [eY]; exact hm' j hj
      have Yo : ∀ a, a ≠ 257 → Y a = z.1 a := fun a ha => by
        rw [eY]
        funext i
        by_cases b1 : a = 27
        · subst b1; rfl
        · by_cases b2 : a = 256
          · subst b2; rfl
          · by_cases b3 : a = 258
            · subst b3; rfl
            · by_cases b4 : a = 259
              · subst b4; rfl
              · by_cases b5 : a = 260
                · subst b5; rfl
                · show uR (uR (uR (uR (uR (uR z.1 27 _) 256 _) 257 _) 258 _) 259 _) 260 _ a i = _
                  rw [uR_ne b5, uR_ne b4, uR_ne b3, uR_ne ha, uR_ne b2, uR_ne b1]
      obtain ⟨T, eT⟩ : ∃ T, T = u2 (u2 Y 257 p (Y 257 p + 1)) 257 j ((u2 Y 257 p (Y 257 p + 1)) 257 j + 1) := ⟨_, rfl⟩
      rw [← eT]
      have T257 : ∀ t, t < 8 → T 257 t = nI (prq p j t) := fun t ht => by
        rw [eT]
        exact m_row (by omega) (by omega) Y257 ht
      have To : ∀ a, a ≠ 257 → T a = z.1 a := fun a ha => by
        funext i
        rw [eT, u2_row_ne ha, u2_row_ne ha, Yo a ha]
      have liT : LJ V X c n 2 B H bo T := z1.of (fun a i a1 a2 a3 a4 a5 a6 => by rw [To a a2]) (fun i _ => by rw [To 259 (by decide)]) (To 256 (by decide)) (To 260 (by decide))
      have g23 : ∀ t, t < vP V → (g_23 T (nI t) = 0 ↔ ¬ bo t + prq p j t ≤ 9) := fun t ht => by
        have hpl := prq_le p j t
        have hbt := (n5 t (by omega)).1
        unfold g_23
        rw [nI_clamp (by omega), e29 T liT t (by omega), T257 t (by omega), nI_add]
        by_cases cc : bo t + prq p j t ≤ 9
        · rw [if_neg (show ¬ (9 : Int32) < nI (bo t + prq p j t) from nI_nlt (a := 9) cc (by decide))]
          exact ⟨fun z => absurd z (by decide), fun z => absurd cc z⟩
        · rw [if_pos (show (9 : Int32) < nI (bo t + prq p j t) from nI_lt (a := 9) (by omega) (by omega))]
          exact ⟨fun _ => cc, fun _ => rfl⟩
      have okp := oks_pr (bo := bo) (P := vP V) hp hj (fun t ht => (n5 t (by omega)).1)
      have skip : ¬ oks bo (vP V) (prq p j) = true → cW cd_22 (d + 6) Q 10 [some (.ref 264), some (.int (nI p)), some (.long (iv (ist W bo (vP V) p j))), none, some (.int (iq (ist W bo (vP V) p j))), some (.int (nI j + 1)), o6, none] [] (mkH T z.2.1 z.2.2 kp) := fun hno => by
        rw [if_neg hno] at ei
        rw [nI_1, ← ei]
        exact ih (T, z.2.1, z.2.2) ⟨liT, z2, (To 264 (by decide)).trans z3, z4⟩ o6
    · intro cc
      refine skip (fun h => ?_)
      exact (g23 p hp).mp cc (okp.mp h).1
    · intro _ cc
      refine skip (fun h => ?_)
      exact (g23 j hj).mp cc (okp.mp h).2
    · intro c1 c2
      have hok : oks bo (vP V) (prq p j) = true := okp.mpr ⟨by
        rcases Nat.lt_or_ge 9 (bo p + prq p j p) with h | h
        · exact absurd ((g23 p hp).mpr (by omega)) c1
        · exact h, by
        rcases Nat.lt_or_ge 9 (bo j + prq p j j) with h | h
        · exact absurd ((g23 j hj).mpr (by omega)) c2
        · exact h⟩
      rw [if_pos hok] at ei
      refine f17 (d := d) (hl0 := hl0) (mr := prq p j) hv hsn hc hcs hn hM hdg d1 hB liT z2 (fun t ht => ⟨T257 t (by omega), prq_le p j t⟩) (fun hi1 hl1 sw1 q1 q2 q3 q4 q5 q6 => ?_)
      have eWp : wp V X (fun t => bo t + prq p j t) H c n D0 = W p j := by rw [eW]
      rw [eWp]
      have inv : LJ V X c n 2 B H bo hi1 ∧ LL hl1 hl0 ∧ hi1 264 = hi 264 ∧ hl1 264 = hl 264 := ⟨q1, q2, q5.trans ((To 264 (by decide)).trans z3), q6.trans z4⟩
      cases hs : ist W bo (vP V) p j with
      | none =>
        rw [hs] at ei
        have ei2 : ist W bo (vP V) p (j + 1) = some (W p j, j) := ei
        refine k_22_77 (fun _ => ?_) (fun c => absurd rfl c) (fun c => absurd rfl c)
        have := ih (hi1, hl1, sw1) inv (some (.long (lN (W p j))))
        rw [ei2] at this
        rw [nI_1]
        exact this
      | some w =>
        obtain ⟨v, q⟩ := w
        obtain ⟨hv0, hq0⟩ := ist_b (hW p) j v q hs
        have hWj := hW p j
        rw [hs] at ei
        have nm : ¬ (iq (some (v, q)) = -1) := fun z => by
          have z2 : nI q < 0 := by rw [show nI q = -1 from z]; decide
          exact nI_pos (by omega) z2
        refine k_22_77 (fun c => absurd c nm) (fun _ cc => ?_) (fun _ cc => ?_)
        · have h1 : ¬ W p j < v := fun h => absurd ((lgl (by omega) (by omega)).mpr h) (Int32.not_lt.mpr cc)
          have ei2 : ist W bo (vP V) p (j + 1) = some (v, q) := ei.trans (if_neg h1)
          have := ih (hi1, hl1, sw1) inv (some (.long (lN (W p j))))
          rw [ei2] at this
          rw [nI_1]
          exact this
        · have h1 : W p j < v := (lgl (by omega) (by omega)).mp (Int32.not_le.mp cc)
          have ei2 : ist W bo (vP V) p (j + 1) = some (W p j, j) := ei.trans (if_pos h1)
          have := ih (hi1, hl1, sw1) inv (some (.long (lN (W p j))))
          rw [ei2] at this
          rw [nI_1]
          exact this
theorem f21 (eW : W = fun p q => wp V X (fun t => bo t + prq p q t) H c n D0) (hx : LX V X c n 2 B H D0 bo) (hli : LJ V X c n 2 B H bo hi) (hll : LL hl hl0)
    (w' : ∀ (hi' : Nat → Nat → Int32) (hl' : Nat → Nat → Int64) (sw' : Bool), LJ V X c n 2 B H bo hi' → LL hl' hl0 → hi' 264 5 = of1 (ost W bo (vP V) (vP V)) → hi' 264 6 = of2 (ost W bo (vP V) (vP V)) → Q none (mkH hi' hl' sw' kp)) : cS (d + 8) 21 [.ref 264] (mkH hi hl sw kp) Q := by
  have hv := hx.1
  have hb8 := hv.1
  have e19 : ∀ hi, LJ V X c n 2 B H bo hi → hi 19 1 = nI (vP V) := fun hi h => (h.1 19 1 (by unfold LFr; omega)).trans hv.2.1.2.1
  have i1 : LJ V X c n 2 B H bo (u2 (u2 hi 264 5 (-1)) 264 6 (-1)) := hli.of (fun a j a1 a2 a3 a4 a5 a6 => by rw [u2_nn (by omega), u2_nn (by omega)]) (fun j _ => by rw [u2_row_ne (by decide), u2_row_ne (by decide)]) (by rw [u2_row_ne (by decide), u2_row_ne (by decide)]) (by rw [u2_row_ne (by decide), u2_row_ne (by decide)])
  have i2 : LL (u2 hl 264 4 (-1)) hl0 := fun a a1 a2 a3 => by rw [u2_row_ne a3]; exact hll a a1 a2 a3
  have i3 : (u2 (u2 hi 264 5 (-1)) 264 6 (-1)) 264 5 = of1 (ost W bo (vP V) 0) := by rw [u2_nn (by decide), u2_s]; rfl
  have i4 : (u2 (u2 hi 264 5 (-1)) 264 6 (-1)) 264 6 = of2 (ost W bo (vP V) 0) := by rw [u2_s]; rfl
  have i5 : (u2 hl 264 4 (-1)) 264 4 = ov (ost W bo (vP V) 0) := by rw [u2_s]; rfl
  refine e_21 (lpu (σ := (Nat → Nat → Int32) × (Nat → Nat → Int64) × Bool) (vP V) (fun j z => cW cd_21 (d + 7) Q 19 [some (.ref 264), some (.int (nI j))] [] (mkH z.1 z.2.1 z.2.2 kp)) (fun j z => LJ V X c n 2 B H bo z.1 ∧ LL z.2.1 hl0 ∧ z.1 264 5 = of1 (ost W bo (vP V) j) ∧ z.1 264 6 = of2 (ost W bo (vP V) j) ∧ z.2.1 264 4 = ov (ost W bo (vP V) j)) ?_ ?_ (vP V) 0 (u2 (u2 hi 264 5 (-1)) 264 6 (-1), u2 hl 264 4 (-1), sw) (Nat.zero_add _) ⟨i1, i2, i3, i4, i5⟩)
  · intro z ⟨z1, z2, z3, z4, z5⟩
    have hle : z.1 19 1 ≤ nI (vP V) := by rw [e19 _ z1]; exact Int32.le_refl _
    exact k_21_19 (fun _ => w' z.1 z.2.1 z.2.2 z1 z2 z3 z4) (fun c => absurd hle c)
  · intro j z hj ⟨z1, z2, z3, z4, z5⟩ ih
    have hg : ¬ z.1 19 1 ≤ nI j := by rw [e19 _ z1]; exact nI_ge hj (by omega)
    refine k_21_19 (fun c => absurd c hg) (fun _ => f22 (d := d) eW hx hj z1 z2 z3 z4 z5 (fun hi1 hl1 sw1 q1 q2 q3 q4 q5 => k_21_35 ?_))
    rw [nI_1]
    exact ih (hi1, hl1, sw1) ⟨q1, q2, q3, q4, q5⟩
end TURNS
