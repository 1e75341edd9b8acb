/-! ===== the class's weights: moveOne, moveAll, standAt (by program, wip/whole/gen48.py) ===== -/
theorem cW.hl {cd : Nat → am_T} {d : Nat} {Q : am_Q} {pc : Nat} {ls : am_Ls} {st : List Value} {hi : Nat → Nat → Int32} {hl' hl : Nat → Nat → Int64} {sw : Bool} {kp : Nat → Nat} (e : hl' = hl) (w : cW cd d Q pc ls st (mkH hi hl sw kp)) : cW cd d Q pc ls st (mkH hi hl' sw kp) := e ▸ w
theorem cS.hl {d mi : Nat} {args : List Value} {Q : am_Q} {hi : Nat → Nat → Int32} {hl' hl : Nat → Nat → Int64} {sw : Bool} {kp : Nat → Nat} (e : hl' = hl) (w : cS d mi args (mkH hi hl sw kp) Q) : cS d mi args (mkH hi hl' sw kp) Q := e ▸ w
theorem qhl {Q : am_Q} {r : Option Value} {hi : Nat → Nat → Int32} {hl' hl : Nat → Nat → Int64} {sw : Bool} {kp : Nat → Nat} (e : hl' = hl) (w : Q r (mkH hi hl sw kp)) : Q r (mkH hi hl' sw kp) := e ▸ w
section MOVE
variable {d : Nat} {Q : am_Q} {hi : Nat → Nat → Int32} {hl : Nat → Nat → Int64} {sw : Bool} {kp : Nat → Nat} {V : vN} {s o m p q g : Nat → Int32}
set_option maxRecDepth 100000 in
theorem k52_180 {x1 : Int32} {x2 : Int32} {x3 : Int32} {x4 : Int64} {x6 : Int32} {o7 : Option Value} {o8 : Option Value} {o9 : Option Value}
    (h1 : x2 = (-1) → Q (some (.long x4)) (mkH (u2 hi 256 12 x6) hl sw kp))
    (h2 : ¬ (x2 = (-1)) → Q (some (.long x4)) (mkH (u2 (u2 (u2 hi 256 12 x6) 256 13 (if ((hi 256 13) + (hi 256 7)) < ((1) - x3) then ((1) - x3) else ((hi 256 13) + (hi 256 7)))) 256 14 (if (x3 - (1)) < ((hi 256 14) + (hi 256 8)) then (x3 - (1)) else ((hi 256 14) + (hi 256 8)))) hl sw kp))
    : cW cd_52 (d + 1) Q 180 [some (.ref 256), some (.int x1), some (.int x2), some (.int x3), some (.long x4), none, some (.int x6), o7, o8, o9] [] (mkH hi hl sw kp) :=
  cW.run (am_in [8, 43, 58, 136]) 30 (And.intro (fun c1 => (cQ.of (h1 c1))) (fun c2 => (cQ.of (h2 c2))))
theorem f286_262 (w' : ∀ row : Nat → Int64, (∀ j, j < 248 → row j = lN 0) → Q none (mkH hi (uR hl 262 row) sw kp)) : cS (d + 1) 286 [.ref 262, .long 0] (mkH hi hl sw kp) Q := by
  refine e_286_262 (cW.hl uR_id.symm (lpu (σ := Nat → Int64) 248 (fun i L => cW cd_286 d Q 6 [some (.ref 262), some (.long 0), none, some (.int (nI i)), some (.int (Int32.ofNat 248))] [] (mkH hi (uR hl 262 L) sw kp)) (fun i L => ∀ j, j < i → L j = lN 0) ?_ ?_ 248 0 (hl 262) rfl (fun j hj => absurd hj (Nat.not_lt_zero j))))
  · intro L h
    exact k_286_262_6 (fun _ => w' L h) (fun c => absurd (by decide) c) (fun c => absurd (by decide) c)
  · intro i L hi' h ih
    refine k_286_262_6 (fun c => absurd c (nI_ge (a := i) (b := 248) hi' (by decide))) (fun _ => vp_in_nI hi' (by decide)) (fun _ => ?_)
    rw [nI_clamp (by omega), nI_1]
    refine cW.hl u2_in (ih _ (fun j hj => ?_))
    by_cases hji : j = i
    · subst hji
      rw [up1_s]
      rfl
    · rw [up1_n hji]
      exact h j (by omega)
theorem f286_261 (w' : ∀ row : Nat → Int64, (∀ j, j < 248 → row j = lN 0) → Q none (mkH hi (uR hl 261 row) sw kp)) : cS (d + 1) 286 [.ref 261, .long 0] (mkH hi hl sw kp) Q := by
  refine e_286_261 (cW.hl uR_id.symm (lpu (σ := Nat → Int64) 248 (fun i L => cW cd_286 d Q 6 [some (.ref 261), some (.long 0), none, some (.int (nI i)), some (.int (Int32.ofNat 248))] [] (mkH hi (uR hl 261 L) sw kp)) (fun i L => ∀ j, j < i → L j = lN 0) ?_ ?_ 248 0 (hl 261) rfl (fun j hj => absurd hj (Nat.not_lt_zero j))))
  · intro L h
    exact k_286_261_6 (fun _ => w' L h) (fun c => absurd (by decide) c) (fun c => absurd (by decide) c)
  · intro i L hi' h ih
    refine k_286_261_6 (fun c => absurd c (nI_ge (a := i) (b := 248) hi' (by decide))) (fun _ => vp_in_nI hi' (by decide)) (fun _ => ?_)
    rw [nI_clamp (by omega), nI_1]
    refine cW.hl u2_in (ih _ (fun j hj => ?_))
    by_cases hji : j = i
    · subst hji
      rw [up1_s]
      rfl
    · rw [up1_n hji]
      exact h j (by omega)
theorem f53f {f t D lo hh b a : Nat} {w v : Nat → Nat → Nat} (hf : f < 8) (ht : t < 8) (hlo : lo ≤ 31) (hhh : hh ≤ 30) (hb : b ≤ 16) (ha : a ≤ 6) (hD : D < 2 ^ 31) (e12 : hi 256 13 = sc lo) (e13 : hi 256 14 = sc hh) (hw : ∀ z, z < 31 → hl 261 (f * 31 + z) = lN (w f z) ∧ w f z < 2 ^ 63) (hv : ∀ t z, t < 8 → z < 31 → hl 262 (t * 31 + z) = lN (v t z))
    (w' : ∀ (c : Nat) (v' : Nat → Nat → Nat) (row : Nat → Int64), (∀ t z, t < 8 → z < 31 → row (t * 31 + z) = lN (v' t z)) → (∀ (r : Nat → Nat → Nat) (K : Nat), c * K + S2 31 (fun t z => v' t z * r t z) = S2 31 (fun t z => v t z * r t z) + Ts (fun z => wt lo (hh + 1) w f z * D * vv a b r K t z) 31) → (∀ t' z', v' t' z' ≠ 0 → v t' z' ≠ 0 ∨ (t' = t ∧ ∃ z, lo ≤ z ∧ z ≤ hh ∧ z' = z + a - 3 ∧ z + a < b + 18 ∧ 18 < z + a + b)) → Q (some (.long (lN c))) (mkH hi (uR hl 262 row) false kp)) : cS (d + 1) 53 [.ref 256, .int (nI f), .int (nI t), .int (nI D), .int (nI a - 3), .int (nI b)] (mkH hi hl false kp) Q := by
  have e31 : ∀ q : Nat, nI q * 31 = nI (q * 31) := fun q => pk_mul q 31
  refine e_53f ?_
  rw [e12, e31, e31]
  refine cW.hl (uR_id (i := 262)).symm ?_
  by_cases hemp : hh < lo
  · refine k_53f_30 (fun _ => w' 0 v (hl 262) hv (fun r K => ?_) (fun t' z' h => Or.inl h)) ?_ ?_ ?_ ?_ ?_ ?_
    · rw [Nat.zero_mul, Nat.zero_add, Ts_z 31 (fun z _ => by unfold wt; rw [if_neg (by omega), Nat.zero_mul, Nat.zero_mul]), Nat.add_zero]
    all_goals exact fun c => absurd (by rw [e13, sc_lt (by omega) (by omega)]; exact hemp) c
  · refine lpu (σ := Nat × (Nat → Nat → Nat) × (Nat → Int64)) (hh + 1) (fun z s => ∀ o11 : Option Value, cW cd_53 d Q 30 [some (.ref 256), some (.int (nI f)), some (.int (nI t)), some (.int (nI D)), some (.int (nI a - 3)), some (.int (nI b)), some (.int (nI (f * 31) + 15)), some (.int (nI (t * 31) + 15 + (nI a - 3))), some (.long (lN s.1)), none, some (.int (sc z)), o11, none] [] (mkH hi (uR hl 262 s.2.2) false kp))
      (fun z s => (∀ t z, t < 8 → z < 31 → s.2.2 (t * 31 + z) = lN (s.2.1 t z)) ∧ (∀ (r : Nat → Nat → Nat) (K : Nat), s.1 * K + S2 31 (fun t z => s.2.1 t z * r t z) = S2 31 (fun t z => v t z * r t z) + Ts (fun y => wt lo z w f y * D * vv a b r K t y) 31) ∧ (∀ t' z', s.2.1 t' z' ≠ 0 → v t' z' ≠ 0 ∨ (t' = t ∧ ∃ z, lo ≤ z ∧ z ≤ hh ∧ z' = z + a - 3 ∧ z + a < b + 18 ∧ 18 < z + a + b)) ∧ lo ≤ z) ?_ ?_ (hh + 1 - lo) lo (0, v, hl 262) (by omega) ⟨hv, fun r K => ?_, fun t' z' h => Or.inl h, Nat.le_refl _⟩ none
    · intro s ⟨h1, h2, h3, h4⟩ o11
      refine k_53f_30 (fun _ => w' s.1 s.2.1 s.2.2 h1 h2 h3) ?_ ?_ ?_ ?_ ?_ ?_
      all_goals exact fun c => absurd (by rw [e13, sc_lt (by omega) (by omega)]; omega) c
    · intro z s hz ⟨h1, h2, h3, h4⟩ ih o11
      have z31 : z < 31 := by omega
      have c0 : ¬ hi 256 14 < sc z := by rw [e13, sc_lt (by omega) (by omega)]; omega
      have i6 : nI (f * 31) + 15 + sc z = nI (f * 31 + z) := sc_ix _ _
      have ew : (uR hl 262 s.2.2) 261 (nI (f * 31) + 15 + sc z).toNatClampNeg = lN (w f z) := by
        rw [i6, nI_clamp (by omega)]
        exact (hw z z31).1
      have hwz := (hw z z31).2
      have eD : lN (w f z) * (nI D).toInt64 = lN (w f z * D) := by rw [nI_l hD, lN_mul]
      -- one more score in the sum
      have sm : ∀ (r : Nat → Nat → Nat) (K : Nat), Ts (fun y => wt lo (z + 1) w f y * D * vv a b r K t y) 31 = Ts (fun y => wt lo z w f y * D * vv a b r K t y) 31 + w f z * D * vv a b r K t z := by
        intro r K
        refine Ts_up 31 z31 (fun i hi' => ?_) ?_
        · have : wt lo (z + 1) w f i = wt lo z w f i := by
            unfold wt
            by_cases q : lo ≤ i ∧ i < z
            · rw [if_pos q, if_pos (by omega)]
            · rw [if_neg q, if_neg (by omega)]
          rw [this]
        · have q1 : wt lo (z + 1) w f z = w f z := if_pos (by omega)
          have q2 : wt lo z w f z = 0 := if_neg (by omega)
          rw [q1, q2, Nat.zero_mul, Nat.zero_mul, Nat.zero_add]
      -- nothing is added
      have same : w f z * D = 0 ∨ z + a + b ≤ 18 ∧ z + a < b + 18 → ∀ o : Option Value, cW cd_53 d Q 30 [some (.ref 256), some (.int (nI f)), some (.int (nI t)), some (.int (nI D)), some (.int (nI a - 3)), some (.int (nI b)), some (.int (nI (f * 31) + 15)), some (.int (nI (t * 31) + 15 + (nI a - 3))), some (.long (lN s.1)), none, some (.int (sc z + 1)), o, none] [] (mkH hi (uR hl 262 s.2.2) false kp) := by
        intro hq o
        rw [sc_1]
        refine ih s ⟨h1, fun r K => ?_, h3, by omega⟩ o
        rw [sm, h2 r K]
        rcases hq with hq | ⟨hq, hq2⟩
        · rw [hq, Nat.zero_mul, Nat.add_zero]
        · have : vv a b r K t z = 0 := by
            unfold vv
            rw [if_neg (by omega), if_pos hq]
          rw [this, Nat.mul_zero, Nat.add_zero]
      refine k_53f_30 (fun c => absurd c c0) (fun _ => by rw [i6]; exact vp_in_nI (by omega) (by decide)) ?_ ?_ ?_ ?_ ?_ <;> rw [ew] <;> rw [lz hwz]
      · intro _ c
        refine same (Or.inl ?_) _
        rw [c, Nat.zero_mul]
      · rw [gn_lt (by omega) ha hb, gn_le (by omega) ha hb]
        intro _ _ c1 c2
        exact same (Or.inr ⟨c2, c1⟩) _
      · rw [gn_lt (by omega) ha hb, gn_le (by omega) ha hb]
        intro _ _ c1 c2
        rw [gn_ix (by omega)]
        exact vp_in_nI (by omega) (by decide)
      · rw [gn_lt (by omega) ha hb, gn_le (by omega) ha hb]
        intro _ _ c1 c2
        have z2 : z + a - 3 < 31 := by omega
        rw [gn_ix (by omega), nI_clamp (by omega), uR_s, h1 t (z + a - 3) ht z2, eD, lN_add, sc_1]
        refine cW.hl u2_in (ih (s.1, (fun t' z' => if t' = t ∧ z' = z + a - 3 then s.2.1 t' z' + w f z * D else s.2.1 t' z'), up1 s.2.2 (t * 31 + (z + a - 3)) (lN (s.2.1 t (z + a - 3) + w f z * D))) ⟨fun t' z' ht' hz' => ?_, fun r K => ?_, fun t' z' hne => ?_, by omega⟩ _)
        · show up1 s.2.2 (t * 31 + (z + a - 3)) _ (t' * 31 + z') = lN (if t' = t ∧ z' = z + a - 3 then s.2.1 t' z' + w f z * D else s.2.1 t' z')
          by_cases q : t' = t ∧ z' = z + a - 3
          · rw [if_pos q, q.1, q.2, up1_s]
          · rw [if_neg q, up1_n (by omega)]
            exact h1 t' z' ht' hz'
        · show s.1 * K + S2 31 (fun t' z' => (if t' = t ∧ z' = z + a - 3 then s.2.1 t' z' + w f z * D else s.2.1 t' z') * r t' z') = _
          have e1 : S2 31 (fun t' z' => (if t' = t ∧ z' = z + a - 3 then s.2.1 t' z' + w f z * D else s.2.1 t' z') * r t' z') = S2 31 (fun t z => s.2.1 t z * r t z) + w f z * D * r t (z + a - 3) := by
            refine S2_up ht z2 (fun t' z' q => by rw [if_neg q]) ?_
            rw [if_pos ⟨rfl, rfl⟩, Nat.add_mul]
          have e2 : vv a b r K t z = r t (z + a - 3) := by
            unfold vv
            rw [if_neg (by omega), if_neg (by omega)]
          rw [e1, sm, e2, ← Nat.add_assoc, h2 r K, Nat.add_assoc]
        · have hne' : (if t' = t ∧ z' = z + a - 3 then s.2.1 t' z' + w f z * D else s.2.1 t' z') ≠ 0 := hne
          by_cases q : t' = t ∧ z' = z + a - 3
          · exact Or.inr ⟨q.1, z, h4, by omega, q.2, c1, by omega⟩
          · rw [if_neg q] at hne'
            exact h3 t' z' hne'
      · rw [gn_lt (by omega) ha hb]
        intro _ _ c1
        rw [eD, lN_add, sc_1]
        refine ih (s.1 + w f z * D, s.2.1, s.2.2) ⟨h1, fun r K => ?_, h3, by omega⟩ _
        show (s.1 + w f z * D) * K + S2 31 (fun t z => s.2.1 t z * r t z) = _
        have e2 : vv a b r K t z = K := by
          unfold vv
          rw [if_pos (by omega)]
        have := h2 r K
        rw [sm, e2, Nat.add_mul]
        omega
    · show 0 * K + S2 31 (fun t z => v t z * r t z) = _
      rw [Nat.zero_mul, Nat.zero_add, Ts_z 31 (fun z _ => by unfold wt; rw [if_neg (by omega), Nat.zero_mul, Nat.zero_mul]), Nat.add_zero]
theorem f52f {u lo hh b oc : Nat} {x2 : Int32} {w y : Nat → Nat → Nat} {a : Nat → Nat} (hv : R_vil V hi) (hu : u < 8) (hlo : lo ≤ 30) (hhh : hh ≤ 30) (hb : b ≤ 16) (ha : ∀ t, a t ≤ 6) (e11 : o 12 = nI oc) (hoc : oc < 256) (e12 : o 13 = sc lo) (e13 : o 14 = sc hh) (hx : (x2 = -1 ∧ b = 16 ∧ ∀ t, a t = 3) ∨ ∃ c, c < vC V ∧ x2 = nI c ∧ hi 23 c = nI b ∧ ∀ t, t < vP V → g t = nI (a t) - 3)
    (hw : ∀ t z, t < 8 → z < 31 → hl 261 (t * 31 + z) = lN (w t z) ∧ w t z < 2 ^ 63) (hws : ∀ t z, t < 8 → z < 31 → w t z ≠ 0 → oc / 2 ^ t % 2 = 1) (hy : ∀ f t, f < vP V → oc / 2 ^ f % 2 = 1 → t < vP V → q ((u * 8 + f) * 8 + t) = nI (y f t) ∧ y f t ≤ 60)
    (w' : ∀ (c oc' : Nat) (v : Nat → Nat → Nat) (row : Nat → Int64) (o' : Nat → Int32), (o' 12 = nI oc' ∧ oc' < 256 ∧ (∀ j, j ≠ 12 → j ≠ 13 → j ≠ 14 → o' j = o j) ∧ (x2 = -1 → o' 13 = o 13 ∧ o' 14 = o 14) ∧ (¬ x2 = -1 → o' 13 = (if o 13 + o 7 < 1 - nI b then 1 - nI b else o 13 + o 7) ∧ o' 14 = (if nI b - 1 < o 14 + o 8 then nI b - 1 else o 14 + o 8))) → (∀ t z, t < 8 → z < 31 → row (t * 31 + z) = lN (v t z)) →
      (∀ (r : Nat → Nat → Nat) (K : Nat), c * K + S2 31 (fun t z => v t z * r t z) = Ts (fun f => Ts (fun t => Ts (fun z => wt lo (hh + 1) w f z * y f t * vv (a t) b r K t z) 31) (vP V)) (vP V)) → (∀ t z, v t z ≠ 0 → t < vP V ∧ oc' / 2 ^ t % 2 = 1 ∧ ∃ z0, lo ≤ z0 ∧ z0 ≤ hh ∧ z = z0 + a t - 3 ∧ z0 + a t < b + 18 ∧ 18 < z0 + a t + b) → (∀ t, t < 8 → oc' / 2 ^ t % 2 = 1 → ∃ f, f < vP V ∧ oc / 2 ^ f % 2 = 1 ∧ y f t ≠ 0) → Q (some (.long (lN c))) (mkH (cx hi s o' m p q g) (uR hl 262 row) true kp)) : cS (d + 2) 52 [.ref 256, .int (nI u), .int x2] (mkH (cx hi s o m p q g) hl false kp) Q := by
  have hb8 := hv.1
  have e19 : (cx hi s o m p q g) 19 1 = nI (vP V) := hv.2.1.2.1
  have x11 : (cx hi s o m p q g) 256 12 = nI oc := e11
  have x12 : (cx hi s o m p q g) 256 13 = sc lo := e12
  have x13 : (cx hi s o m p q g) 256 14 = sc hh := e13
  refine e_52f (f286_262 (d := d) (fun row0 hrow0 => ?_))
  have main : cW cd_52 (d + 1) Q 43 [some (.ref 256), some (.int (nI u)), some (.int x2), some (.int (nI b)), some (.long 0), none, some (.int 0), some (.int 0), none, none] [] (mkH (cx hi s o m p q g) (uR hl 262 row0) false kp) := by
    refine lpu (σ := Nat × Nat × (Nat → Nat → Nat) × (Nat → Int64)) (vP V) (fun i z => ∀ o8 o9 : Option Value, cW cd_52 (d + 1) Q 43 [some (.ref 256), some (.int (nI u)), some (.int x2), some (.int (nI b)), some (.long (lN z.1)), none, some (.int (nI z.2.1)), some (.int (nI i)), o8, o9] [] (mkH (cx hi s o m p q g) (uR hl 262 z.2.2.2) false kp))
      (fun i z => (∀ t y, t < 8 → y < 31 → z.2.2.2 (t * 31 + y) = lN (z.2.2.1 t y)) ∧ (∀ (r : Nat → Nat → Nat) (K : Nat), z.1 * K + S2 31 (fun t y => z.2.2.1 t y * r t y) = Ts (fun f => Ts (fun t => Ts (fun z => wt lo (hh + 1) w f z * y f t * vv (a t) b r K t z) 31) (vP V)) i) ∧ (∀ t y, z.2.2.1 t y ≠ 0 → t < vP V ∧ z.2.1 / 2 ^ t % 2 = 1 ∧ ∃ z0, lo ≤ z0 ∧ z0 ≤ hh ∧ y = z0 + a t - 3 ∧ z0 + a t < b + 18 ∧ 18 < z0 + a t + b) ∧ z.2.1 < 256 ∧ (∀ t, t < 8 → z.2.1 / 2 ^ t % 2 = 1 → ∃ f, f < vP V ∧ oc / 2 ^ f % 2 = 1 ∧ y f t ≠ 0)) ?_ ?_ (vP V) 0 (0, 0, (fun _ _ => 0), row0) (Nat.zero_add _) ⟨fun t y ht hy' => hrow0 _ (by omega), fun r K => ?_, fun t y h => absurd rfl h, (show (0 : Nat) < 256 from by decide), fun t ht h => ?_⟩ none none
    · intro z ⟨h1, h2, h3, h4, h5⟩ o8 o9
      refine k_52f_43 (fun _ => ?_) (fun c => absurd (by rw [e19]; exact Int32.le_refl _) c)
      rw [HR_sw]
      refine k52_180 (fun c => ?_) (fun c => ?_)
      · refine qhi cx_256 (w' z.1 z.2.1 z.2.2.1 z.2.2.2 _ ⟨up1_s, h4, fun j j1 _ _ => up1_n j1, fun _ => ⟨up1_n (by decide), up1_n (by decide)⟩, fun q => absurd c q⟩ h1 h2 h3 h5)
      · refine qhi (by rw [cx_256, cx_256, cx_256]) (w' z.1 z.2.1 z.2.2.1 z.2.2.2 _ ⟨?_, h4, fun j j1 j2 j3 => ?_, fun q => absurd q c, fun _ => ⟨?_, ?_⟩⟩ h1 h2 h3 h5)
        · rw [up1_n (by decide), up1_n (by decide), up1_s]
        · rw [up1_n j3, up1_n j2, up1_n j1]
        · rw [up1_n (by decide), up1_s]
          rfl
        · rw [up1_s]
          rfl
    · intro i z hiP ⟨h1, h2, h3, h4, h5⟩ ih o8 o9
      refine k_52f_43 (fun c => absurd c (by rw [e19]; exact nI_ge hiP (by omega))) (fun _ => ?_)
      have hbit := bit8z (a := oc) (t := i) (by omega) (show i < 8 by omega)
      have hbit2 : oc / 2 ^ i % 2 < 2 := Nat.mod_lt _ (by decide)
      by_cases hoi : oc / 2 ^ i % 2 = 0
      · -- nothing is there
        have z0 : ((cx hi s o m p q g) 256 12 >>> (nI i &&& 31) &&& 1) = 0 := by rw [x11]; exact hbit.mpr hoi
        refine k_52f_58 (fun c => absurd c (by rw [e19]; exact nI_ge (a := 0) (by omega) (by omega))) (fun _ _ => ?_) (fun _ c => absurd z0 c) (fun _ c => absurd z0 c) (fun _ c => absurd z0 c) (fun _ c => absurd z0 c) (fun _ c => absurd z0 c)
        rw [nI_1]
        refine ih z ⟨h1, fun r K => ?_, h3, h4, h5⟩ _ _
        rw [h2 r K]
        show _ = Ts _ i + Ts (fun t => Ts (fun z => wt lo (hh + 1) w i z * y i t * vv (a t) b r K t z) 31) (vP V)
        have w0 : ∀ z, z < 31 → wt lo (hh + 1) w i z = 0 := by
          intro z hz
          unfold wt
          by_cases qq : lo ≤ z ∧ z < hh + 1
          · rw [if_pos qq]
            rcases Nat.eq_zero_or_pos (w i z) with k0 | k0
            · exact k0
            · have := hws i z (by omega) hz (by omega)
              omega
          · rw [if_neg qq]
        rw [Ts_z (f := fun t => Ts (fun z => wt lo (hh + 1) w i z * y i t * vv (a t) b r K t z) 31) (vP V) (fun t _ => Ts_z 31 (fun z hz => by rw [w0 z hz, Nat.zero_mul, Nat.zero_mul]))]
        rfl
      · have hoi1 : oc / 2 ^ i % 2 = 1 := by omega
        have z0 : ¬ ((cx hi s o m p q g) 256 12 >>> (nI i &&& 31) &&& 1) = 0 := by rw [x11]; exact fun c => hoi (hbit.mp c)
        refine lpu (σ := Nat × Nat × (Nat → Nat → Nat) × (Nat → Int64)) (vP V) (fun j z => ∀ o9 : Option Value, cW cd_52 (d + 1) Q 58 [some (.ref 256), some (.int (nI u)), some (.int x2), some (.int (nI b)), some (.long (lN z.1)), none, some (.int (nI z.2.1)), some (.int (nI i)), some (.int (nI j)), o9] [] (mkH (cx hi s o m p q g) (uR hl 262 z.2.2.2) false kp))
          (fun j z => (∀ t y, t < 8 → y < 31 → z.2.2.2 (t * 31 + y) = lN (z.2.2.1 t y)) ∧ (∀ (r : Nat → Nat → Nat) (K : Nat), z.1 * K + S2 31 (fun t y => z.2.2.1 t y * r t y) = Ts (fun f => Ts (fun t => Ts (fun z => wt lo (hh + 1) w f z * y f t * vv (a t) b r K t z) 31) (vP V)) i + Ts (fun t => Ts (fun z => wt lo (hh + 1) w i z * y i t * vv (a t) b r K t z) 31) j) ∧ (∀ t y, z.2.2.1 t y ≠ 0 → t < vP V ∧ z.2.1 / 2 ^ t % 2 = 1 ∧ ∃ z0, lo ≤ z0 ∧ z0 ≤ hh ∧ y = z0 + a t - 3 ∧ z0 + a t < b + 18 ∧ 18 < z0 + a t + b) ∧ z.2.1 < 256 ∧ (∀ t, t < 8 → z.2.1 / 2 ^ t % 2 = 1 → ∃ f, f < vP V ∧ oc / 2 ^ f % 2 = 1 ∧ y f t ≠ 0)) ?_ ?_ (vP V) 0 z (Nat.zero_add _) ⟨h1, h2, h3, h4, h5⟩ o9
        · intro z ⟨g1, g2, g3, g4, g5⟩ o9
          refine k_52f_58 (fun _ => ?_) (fun c => absurd (by rw [e19]; exact Int32.le_refl _) c) (fun c => absurd (by rw [e19]; exact Int32.le_refl _) c) (fun c => absurd (by rw [e19]; exact Int32.le_refl _) c) (fun c => absurd (by rw [e19]; exact Int32.le_refl _) c) (fun c => absurd (by rw [e19]; exact Int32.le_refl _) c) (fun c => absurd (by rw [e19]; exact Int32.le_refl _) c)
          rw [nI_1]
          exact ih z ⟨g1, g2, g3, g4, g5⟩ _ _
        · intro j z hjP ⟨g1, g2, g3, g4, g5⟩ ih2 o9
          obtain ⟨y1, y2⟩ := hy i j hiP hoi1 hjP
          have ex : (nI u * 8 + nI i) * 8 + nI j = nI ((u * 8 + i) * 8 + j) := by
            rw [show (8 : Int32) = nI 8 from rfl, pk_mul, nI_add, pk_mul, nI_add]
          have ey : (cx hi s o m p q g) 259 ((nI u * 8 + nI i) * 8 + nI j).toNatClampNeg = nI (y i j) := by
            rw [ex, nI_clamp (by omega)]
            exact y1
          have ej : (nI j).toNatClampNeg = j := nI_clamp (by omega)
          have c0 : ¬ (cx hi s o m p q g) 19 1 ≤ nI j := by rw [e19]; exact nI_ge hjP (by omega)
          have hpw := pw_bit j (by omega)
          -- the weights of i go to j
          have call : ¬ y i j = 0 → cS (d + 1) 53 [.ref 256, .int (nI i), .int (nI j), .int (nI (y i j)), .int (nI (a j) - 3), .int (nI b)] (mkH (cx hi s o m p q g) (uR hl 262 z.2.2.2) false kp) (am_ret (cW cd_52 (d + 1) Q) 136 [some (.ref 256), some (.int (nI u)), some (.int x2), some (.int (nI b)), some (.long (lN z.1)), none, some (.int (nI z.2.1)), some (.int (nI i)), some (.int (nI j)), some (.int (nI (y i j)))] [.long (lN z.1)]) := by
            intro hyne
            refine f53f (d := d) (hi := cx hi s o m p q g) (w := w) (v := z.2.2.1) (by omega) (by omega) (by omega) hhh hb (ha j) (by omega) x12 x13 (fun y hy' => hw i y (by omega) hy') (fun t y ht hy' => by rw [uR_s]; exact g1 t y ht hy') (fun c v' row k1 k2 k3 => ?_)
            refine cW.hl uR_uR (k_52f_136 ?_)
            rw [lN_add, (sh8 j (by omega)).2, fa_or, nI_1]
            have hor := or_lt8 g4 (hpw j (by omega)).2
            refine ih2 (z.1 + c, z.2.1 ||| 2 ^ j, v', row) ⟨k1, fun r K => ?_, fun t y hne => ?_, hor, fun t ht hbt => ?_⟩ _
            · show (z.1 + c) * K + S2 31 (fun t y => v' t y * r t y) = _ + (Ts (fun t => Ts (fun z => wt lo (hh + 1) w i z * y i t * vv (a t) b r K t z) 31) j + Ts (fun z => wt lo (hh + 1) w i z * y i j * vv (a j) b r K j z) 31)
              have q1 := k2 r K
              have q2 := g2 r K
              rw [Nat.add_mul]
              omega
            · show t < vP V ∧ (z.2.1 ||| 2 ^ j) / 2 ^ t % 2 = 1 ∧ _
              rcases k3 t y hne with k4 | ⟨rfl, z0, k4, k5, k6, k7, k8⟩
              · obtain ⟨m1, m2, m3⟩ := g3 t y k4
                exact ⟨m1, (or_bit _ _ _).mpr (Or.inl m2), m3⟩
              · exact ⟨hjP, (or_bit _ _ _).mpr (Or.inr ((hpw t (by omega)).1.mpr rfl)), z0, k4, k5, k6, k7, k8⟩
            · rcases (or_bit _ _ _).mp hbt with k4 | k4
              · exact g5 t ht k4
              · have : t = j := (hpw t ht).1.mp k4
                subst this
                exact ⟨i, hiP, hoi1, hyne⟩
          refine k_52f_58 (fun c => absurd c c0) (fun _ c => absurd c z0) (fun _ _ => by rw [ex]; exact vp_in_nI (by omega) (by decide)) ?_ ?_ (fun _ _ _ _ => vp_in_nI (by omega) (by decide)) ?_ <;> rw [ey]
          · intro _ _ c
            have y0 : y i j = 0 := (nI_eq (b := 0) (by omega) (by decide)).mp c
            rw [nI_1]
            refine ih2 z ⟨g1, fun r K => ?_, g3, g4, g5⟩ _
            rw [g2 r K]
            show _ = _ + (_ + Ts (fun z => wt lo (hh + 1) w i z * y i j * vv (a j) b r K j z) 31)
            rw [Ts_z (f := fun z => wt lo (hh + 1) w i z * y i j * vv (a j) b r K j z) 31 (fun z _ => by rw [y0, Nat.mul_zero, Nat.zero_mul])]
            rfl
          · intro _ _ c c2
            have y0 : ¬ y i j = 0 := fun k0 => c (by rw [k0]; rfl)
            rcases hx with ⟨-, -, ha3⟩ | ⟨c', hc', hx', -⟩
            · have := call y0
              rw [ha3 j] at this
              exact this
            · have : nI c' < 0 := by rw [← hx', c2]; decide
              exact absurd this (nI_pos (by omega))
          · intro _ _ c c2
            have y0 : ¬ y i j = 0 := fun k0 => c (by rw [k0]; rfl)
            rcases hx with ⟨hx', -⟩ | ⟨c', hc', hx', -, hg⟩
            · exact absurd hx' c2
            · have eg : (cx hi s o m p q g) 260 (nI j).toNatClampNeg = nI (a j) - 3 := by
                rw [ej]
                exact hg j hjP
              rw [eg]
              exact call y0
    · show 0 * K + S2 31 (fun t y => 0 * r t y) = Ts _ 0
      rw [Nat.zero_mul, S2_z (fun t z _ _ => Nat.zero_mul _)]
      rfl
    · have : (0 : Nat) / 2 ^ t % 2 = 1 := h
      rw [Nat.zero_div] at this
      exact absurd this (by decide)
  refine k_52f_8 (fun c => ?_) (fun c => ?_) (fun c => ?_)
  · rcases hx with ⟨-, hb16, -⟩ | ⟨c', hc', hx', -⟩
    · rw [hb16] at main
      exact main
    · rw [hx', g109_in (hi := cx hi s o m p q g) hv.2.1.2.2.2.1 hb8.2.2.2.1 hc'] at c
      exact absurd c (by decide)
  · rcases hx with ⟨hx', -⟩ | ⟨c', hc', hx', -⟩
    · exact absurd (by rw [hx']; exact g109_out (hi := cx hi s o m p q g) hv.2.1.2.2.2.1 (Or.inl (by decide))) c
    · rw [hx']
      exact vp_in_nI (by omega) (by decide)
  · rcases hx with ⟨hx', -⟩ | ⟨c', hc', hx', e23, -⟩
    · exact absurd (by rw [hx']; exact g109_out (hi := cx hi s o m p q g) hv.2.1.2.2.2.1 (Or.inl (by decide))) c
    · have : (cx hi s o m p q g) 23 x2.toNatClampNeg = nI b := by
        rw [hx', nI_clamp (by omega)]
        exact e23
      rw [this]
      exact main
/-- one weight stands at a place -/
theorem f45f {f z : Nat} (hv : R_vil V hi) (hf : f < vP V) (hz : z < 31) (w' : ∀ (row : Nat → Int64) (o' : Nat → Int32), (o' 12 = nI (2 ^ f) ∧ o' 13 = sc z ∧ o' 14 = sc z ∧ ∀ j, j ≠ 12 → j ≠ 13 → j ≠ 14 → o' j = o j) → (∀ t y, t < 8 → y < 31 → row (t * 31 + y) = lN (if t = f ∧ y = z then 1 else 0)) → Q none (mkH (cx hi s o' m p q g) (uR hl 261 row) false kp)) : cS (d + 2) 45 [.ref 256, .int (nI f), .int (sc z)] (mkH (cx hi s o m p q g) hl false kp) Q := by
  have hb8 := hv.1
  refine e_45f (f286_261 (d := d) (fun row0 h0 => ?_))
  have ex : nI f * 31 + 15 + sc z = nI (f * 31 + z) := by
    rw [show nI f * 31 = nI (f * 31) from pk_mul f 31, sc_ix]
  have z1 : ¬ g_108 (u2 (u2 (u2 (cx hi s o m p q g) 256 12 0) 256 13 (sc z)) 256 14 (sc z)) (nI f) = 0 := by
    rw [cx_256, cx_256, cx_256, g108_in (hi := cx hi s _ m p q g) hv.2.1.2.1 hb8.2.1 hf]
    decide
  have z2 : ¬ g_158 (sc z) (-15 : Int32) (15 : Int32) = 0 := by
    unfold g_158
    have a1 : ¬ sc z < -15 := by
      rw [Int32.lt_iff_toInt_lt, sc_toInt (by omega)]
      show ¬ ((z : Int) - 15 < -15)
      omega
    have a2 : ¬ (15 : Int32) < sc z := by
      rw [Int32.lt_iff_toInt_lt, sc_toInt (by omega)]
      show ¬ (15 < (z : Int) - 15)
      omega
    rw [if_neg a1, if_neg a2]
    decide
  refine k_45f_8 (fun c => absurd c z1) (fun _ c => absurd c z2) (fun _ _ => by rw [ex]; exact vp_in_nI (by omega) (by decide)) (fun _ _ => ?_)
  rw [ex, nI_clamp (by omega), (sh8 f (by omega)).2, cx_256, cx_256, cx_256, cx_256]
  refine qhl u2_in (w' _ _ ⟨up1_s, ?_, ?_, fun j j1 j2 j3 => ?_⟩ (fun t y ht hy => ?_))
  · rw [up1_n (by decide), up1_n (by decide), up1_s]
  · rw [up1_n (by decide), up1_s]
  · rw [up1_n j1, up1_n j3, up1_n j2, up1_n j1]
  · by_cases c : t = f ∧ y = z
    · rw [if_pos c, c.1, c.2, up1_s]
      rfl
    · rw [if_neg c, up1_n (by omega)]
      exact h0 _ (by omega)
theorem f45zf {z : Nat} (hv : R_vil V hi) (hP : vP V = 0) (w' : ∀ (row : Nat → Int64) (o' : Nat → Int32), (o' 12 = nI 0 ∧ o' 13 = sc z ∧ o' 14 = sc z ∧ ∀ j, j ≠ 12 → j ≠ 13 → j ≠ 14 → o' j = o j) → (∀ t y, t < 8 → y < 31 → row (t * 31 + y) = lN 0) → Q none (mkH (cx hi s o' m p q g) (uR hl 261 row) false kp)) : cS (d + 2) 45 [.ref 256, .int (-1), .int (sc z)] (mkH (cx hi s o m p q g) hl false kp) Q := by
  refine e_45f (f286_261 (d := d) (fun row0 h0 => ?_))
  have z1 : g_108 (u2 (u2 (u2 (cx hi s o m p q g) 256 12 0) 256 13 (sc z)) 256 14 (sc z)) (-1) = 0 := by
    rw [cx_256, cx_256, cx_256]
    exact g108_out (hi := cx hi s _ m p q g) hv.2.1.2.1 (Or.inl (by decide))
  refine k_45f_8 (fun _ => ?_) (fun c => absurd z1 c) (fun c => absurd z1 c) (fun c => absurd z1 c)
  rw [cx_256, cx_256, cx_256]
  refine w' _ _ ⟨?_, ?_, ?_, fun j j1 j2 j3 => ?_⟩ (fun t y ht hy => h0 _ (by omega))
  · rw [up1_n (by decide), up1_n (by decide), up1_s]
    rfl
  · rw [up1_n (by decide), up1_s]
  · rw [up1_s]
  · rw [up1_n j3, up1_n j2, up1_n j1]
theorem f53t {f t D lo hh b a : Nat} {w v : Nat → Nat → Nat} (hf : f < 8) (ht : t < 8) (hlo : lo ≤ 31) (hhh : hh ≤ 30) (hb : b ≤ 16) (ha : a ≤ 6) (hD : D < 2 ^ 31) (e12 : hi 256 13 = sc lo) (e13 : hi 256 14 = sc hh) (hw : ∀ z, z < 31 → hl 262 (f * 31 + z) = lN (w f z) ∧ w f z < 2 ^ 63) (hv : ∀ t z, t < 8 → z < 31 → hl 261 (t * 31 + z) = lN (v t z))
    (w' : ∀ (c : Nat) (v' : Nat → Nat → Nat) (row : Nat → Int64), (∀ t z, t < 8 → z < 31 → row (t * 31 + z) = lN (v' t z)) → (∀ (r : Nat → Nat → Nat) (K : Nat), c * K + S2 31 (fun t z => v' t z * r t z) = S2 31 (fun t z => v t z * r t z) + Ts (fun z => wt lo (hh + 1) w f z * D * vv a b r K t z) 31) → (∀ t' z', v' t' z' ≠ 0 → v t' z' ≠ 0 ∨ (t' = t ∧ ∃ z, lo ≤ z ∧ z ≤ hh ∧ z' = z + a - 3 ∧ z + a < b + 18 ∧ 18 < z + a + b)) → Q (some (.long (lN c))) (mkH hi (uR hl 261 row) true kp)) : cS (d + 1) 53 [.ref 256, .int (nI f), .int (nI t), .int (nI D), .int (nI a - 3), .int (nI b)] (mkH hi hl true kp) Q := by
  have e31 : ∀ q : Nat, nI q * 31 = nI (q * 31) := fun q => pk_mul q 31
  refine e_53t ?_
  rw [e12, e31, e31]
  refine cW.hl (uR_id (i := 261)).symm ?_
  by_cases hemp : hh < lo
  · refine k_53t_30 (fun _ => w' 0 v (hl 261) hv (fun r K => ?_) (fun t' z' h => Or.inl h)) ?_ ?_ ?_ ?_ ?_ ?_
    · rw [Nat.zero_mul, Nat.zero_add, Ts_z 31 (fun z _ => by unfold wt; rw [if_neg (by omega), Nat.zero_mul, Nat.zero_mul]), Nat.add_zero]
    all_goals exact fun c => absurd (by rw [e13, sc_lt (by omega) (by omega)]; exact hemp) c
  · refine lpu (σ := Nat × (Nat → Nat → Nat) × (Nat → Int64)) (hh + 1) (fun z s => ∀ o11 : Option Value, cW cd_53 d Q 30 [some (.ref 256), some (.int (nI f)), some (.int (nI t)), some (.int (nI D)), some (.int (nI a - 3)), some (.int (nI b)), some (.int (nI (f * 31) + 15)), some (.int (nI (t * 31) + 15 + (nI a - 3))), some (.long (lN s.1)), none, some (.int (sc z)), o11, none] [] (mkH hi (uR hl 261 s.2.2) true kp))
      (fun z s => (∀ t z, t < 8 → z < 31 → s.2.2 (t * 31 + z) = lN (s.2.1 t z)) ∧ (∀ (r : Nat → Nat → Nat) (K : Nat), s.1 * K + S2 31 (fun t z => s.2.1 t z * r t z) = S2 31 (fun t z => v t z * r t z) + Ts (fun y => wt lo z w f y * D * vv a b r K t y) 31) ∧ (∀ t' z', s.2.1 t' z' ≠ 0 → v t' z' ≠ 0 ∨ (t' = t ∧ ∃ z, lo ≤ z ∧ z ≤ hh ∧ z' = z + a - 3 ∧ z + a < b + 18 ∧ 18 < z + a + b)) ∧ lo ≤ z) ?_ ?_ (hh + 1 - lo) lo (0, v, hl 261) (by omega) ⟨hv, fun r K => ?_, fun t' z' h => Or.inl h, Nat.le_refl _⟩ none
    · intro s ⟨h1, h2, h3, h4⟩ o11
      refine k_53t_30 (fun _ => w' s.1 s.2.1 s.2.2 h1 h2 h3) ?_ ?_ ?_ ?_ ?_ ?_
      all_goals exact fun c => absurd (by rw [e13, sc_lt (by omega) (by omega)]; omega) c
    · intro z s hz ⟨h1, h2, h3, h4⟩ ih o11
      have z31 : z < 31 := by omega
      have c0 : ¬ hi 256 14 < sc z := by rw [e13, sc_lt (by omega) (by omega)]; omega
      have i6 : nI (f * 31) + 15 + sc z = nI (f * 31 + z) := sc_ix _ _
      have ew : (uR hl 261 s.2.2) 262 (nI (f * 31) + 15 + sc z).toNatClampNeg = lN (w f z) := by
        rw [i6, nI_clamp (by omega)]
        exact (hw z z31).1
      have hwz := (hw z z31).2
      have eD : lN (w f z) * (nI D).toInt64 = lN (w f z * D) := by rw [nI_l hD, lN_mul]
      -- one more score in the sum
      have sm : ∀ (r : Nat → Nat → Nat) (K : Nat), Ts (fun y => wt lo (z + 1) w f y * D * vv a b r K t y) 31 = Ts (fun y => wt lo z w f y * D * vv a b r K t y) 31 + w f z * D * vv a b r K t z := by
        intro r K
        refine Ts_up 31 z31 (fun i hi' => ?_) ?_
        · have : wt lo (z + 1) w f i = wt lo z w f i := by
            unfold wt
            by_cases q : lo ≤ i ∧ i < z
            · rw [if_pos q, if_pos (by omega)]
            · rw [if_neg q, if_neg (by omega)]
          rw [this]
        · have q1 : wt lo (z + 1) w f z = w f z := if_pos (by omega)
          have q2 : wt lo z w f z = 0 := if_neg (by omega)
          rw [q1, q2, Nat.zero_mul, Nat.zero_mul, Nat.zero_add]
      -- nothing is added
      have same : w f z * D = 0 ∨ z + a + b ≤ 18 ∧ z + a < b + 18 → ∀ o : Option Value, cW cd_53 d Q 30 [some (.ref 256), some (.int (nI f)), some (.int (nI t)), some (.int (nI D)), some (.int (nI a - 3)), some (.int (nI b)), some (.int (nI (f * 31) + 15)), some (.int (nI (t * 31) + 15 + (nI a - 3))), some (.long (lN s.1)), none, some (.int (sc z + 1)), o, none] [] (mkH hi (uR hl 261 s.2.2) true kp) := by
        intro hq o
        rw [sc_1]
        refine ih s ⟨h1, fun r K => ?_, h3, by omega⟩ o
        rw [sm, h2 r K]
        rcases hq with hq | ⟨hq, hq2⟩
        · rw [hq, Nat.zero_mul, Nat.add_zero]
        · have : vv a b r K t z = 0 := by
            unfold vv
            rw [if_neg (by omega), if_pos hq]
          rw [this, Nat.mul_zero, Nat.add_zero]
      refine k_53t_30 (fun c => absurd c c0) (fun _ => by rw [i6]; exact vp_in_nI (by omega) (by decide)) ?_ ?_ ?_ ?_ ?_ <;> rw [ew] <;> rw [lz hwz]
      · intro _ c
        refine same (Or.inl ?_) _
        rw [c, Nat.zero_mul]
      · rw [gn_lt (by omega) ha hb, gn_le (by omega) ha hb]
        intro _ _ c1 c2
        exact same (Or.inr ⟨c2, c1⟩) _
      · rw [gn_lt (by omega) ha hb, gn_le (by omega) ha hb]
        intro _ _ c1 c2
        rw [gn_ix (by omega)]
        exact vp_in_nI (by omega) (by decide)
      · rw [gn_lt (by omega) ha hb, gn_le (by omega) ha hb]
        intro _ _ c1 c2
        have z2 : z + a - 3 < 31 := by omega
        rw [gn_ix (by omega), nI_clamp (by omega), uR_s, h1 t (z + a - 3) ht z2, eD, lN_add, sc_1]
        refine cW.hl u2_in (ih (s.1, (fun t' z' => if t' = t ∧ z' = z + a - 3 then s.2.1 t' z' + w f z * D else s.2.1 t' z'), up1 s.2.2 (t * 31 + (z + a - 3)) (lN (s.2.1 t (z + a - 3) + w f z * D))) ⟨fun t' z' ht' hz' => ?_, fun r K => ?_, fun t' z' hne => ?_, by omega⟩ _)
        · show up1 s.2.2 (t * 31 + (z + a - 3)) _ (t' * 31 + z') = lN (if t' = t ∧ z' = z + a - 3 then s.2.1 t' z' + w f z * D else s.2.1 t' z')
          by_cases q : t' = t ∧ z' = z + a - 3
          · rw [if_pos q, q.1, q.2, up1_s]
          · rw [if_neg q, up1_n (by omega)]
            exact h1 t' z' ht' hz'
        · show s.1 * K + S2 31 (fun t' z' => (if t' = t ∧ z' = z + a - 3 then s.2.1 t' z' + w f z * D else s.2.1 t' z') * r t' z') = _
          have e1 : S2 31 (fun t' z' => (if t' = t ∧ z' = z + a - 3 then s.2.1 t' z' + w f z * D else s.2.1 t' z') * r t' z') = S2 31 (fun t z => s.2.1 t z * r t z) + w f z * D * r t (z + a - 3) := by
            refine S2_up ht z2 (fun t' z' q => by rw [if_neg q]) ?_
            rw [if_pos ⟨rfl, rfl⟩, Nat.add_mul]
          have e2 : vv a b r K t z = r t (z + a - 3) := by
            unfold vv
            rw [if_neg (by omega), if_neg (by omega)]
          rw [e1, sm, e2, ← Nat.add_assoc, h2 r K, Nat.add_assoc]
        · have hne' : (if t' = t ∧ z' = z + a - 3 then s.2.1 t' z' + w f z * D else s.2.1 t' z') ≠ 0 := hne
          by_cases q : t' = t ∧ z' = z + a - 3
          · exact Or.inr ⟨q.1, z, h4, by omega, q.2, c1, by omega⟩
          · rw [if_neg q] at hne'
            exact h3 t' z' hne'
      · rw [gn_lt (by omega) ha hb]
        intro _ _ c1
        rw [eD, lN_add, sc_1]
        refine ih (s.1 + w f z * D, s.2.1, s.2.2) ⟨h1, fun r K => ?_, h3, by omega⟩ _
        show (s.1 + w f z * D) * K + S2 31 (fun t z => s.2.1 t z * r t z) = _
        have e2 : vv a b r K t z = K := by
          unfold vv
          rw [if_pos (by omega)]
        have := h2 r K
        rw [sm, e2, Nat.add_mul]
        omega
    · show 0 * K + S2 31 (fun t z => v t z * r t z) = _
      rw [Nat.zero_mul, Nat.zero_add, Ts_z 31 (fun z _ => by unfold wt; rw [if_neg (by omega), Nat.zero_mul, Nat.zero_mul]), Nat.add_zero]
theorem f52t {u lo hh b oc : Nat} {x2 : Int32} {w y : Nat → Nat → Nat} {a : Nat → Nat} (hv : R_vil V hi) (hu : u < 8) (hlo : lo ≤ 30) (hhh : hh ≤ 30) (hb : b ≤ 16) (ha : ∀ t, a t ≤ 6) (e11 : o 12 = nI oc) (hoc : oc < 256) (e12 : o 13 = sc lo) (e13 : o 14 = sc hh) (hx : (x2 = -1 ∧ b = 16 ∧ ∀ t, a t = 3) ∨ ∃ c, c < vC V ∧ x2 = nI c ∧ hi 23 c = nI b ∧ ∀ t, t < vP V → g t = nI (a t) - 3)
    (hw : ∀ t z, t < 8 → z < 31 → hl 262 (t * 31 + z) = lN (w t z) ∧ w t z < 2 ^ 63) (hws : ∀ t z, t < 8 → z < 31 → w t z ≠ 0 → oc / 2 ^ t % 2 = 1) (hy : ∀ f t, f < vP V → oc / 2 ^ f % 2 = 1 → t < vP V → q ((u * 8 + f) * 8 + t) = nI (y f t) ∧ y f t ≤ 60)
    (w' : ∀ (c oc' : Nat) (v : Nat → Nat → Nat) (row : Nat → Int64) (o' : Nat → Int32), (o' 12 = nI oc' ∧ oc' < 256 ∧ (∀ j, j ≠ 12 → j ≠ 13 → j ≠ 14 → o' j = o j) ∧ (x2 = -1 → o' 13 = o 13 ∧ o' 14 = o 14) ∧ (¬ x2 = -1 → o' 13 = (if o 13 + o 7 < 1 - nI b then 1 - nI b else o 13 + o 7) ∧ o' 14 = (if nI b - 1 < o 14 + o 8 then nI b - 1 else o 14 + o 8))) → (∀ t z, t < 8 → z < 31 → row (t * 31 + z) = lN (v t z)) →
      (∀ (r : Nat → Nat → Nat) (K : Nat), c * K + S2 31 (fun t z => v t z * r t z) = Ts (fun f => Ts (fun t => Ts (fun z => wt lo (hh + 1) w f z * y f t * vv (a t) b r K t z) 31) (vP V)) (vP V)) → (∀ t z, v t z ≠ 0 → t < vP V ∧ oc' / 2 ^ t % 2 = 1 ∧ ∃ z0, lo ≤ z0 ∧ z0 ≤ hh ∧ z = z0 + a t - 3 ∧ z0 + a t < b + 18 ∧ 18 < z0 + a t + b) → (∀ t, t < 8 → oc' / 2 ^ t % 2 = 1 → ∃ f, f < vP V ∧ oc / 2 ^ f % 2 = 1 ∧ y f t ≠ 0) → Q (some (.long (lN c))) (mkH (cx hi s o' m p q g) (uR hl 261 row) false kp)) : cS (d + 2) 52 [.ref 256, .int (nI u), .int x2] (mkH (cx hi s o m p q g) hl true kp) Q := by
  have hb8 := hv.1
  have e19 : (cx hi s o m p q g) 19 1 = nI (vP V) := hv.2.1.2.1
  have x11 : (cx hi s o m p q g) 256 12 = nI oc := e11
  have x12 : (cx hi s o m p q g) 256 13 = sc lo := e12
  have x13 : (cx hi s o m p q g) 256 14 = sc hh := e13
  refine e_52t (f286_261 (d := d) (fun row0 hrow0 => ?_))
  have main : cW cd_52 (d + 1) Q 43 [some (.ref 256), some (.int (nI u)), some (.int x2), some (.int (nI b)), some (.long 0), none, some (.int 0), some (.int 0), none, none] [] (mkH (cx hi s o m p q g) (uR hl 261 row0) true kp) := by
    refine lpu (σ := Nat × Nat × (Nat → Nat → Nat) × (Nat → Int64)) (vP V) (fun i z => ∀ o8 o9 : Option Value, cW cd_52 (d + 1) Q 43 [some (.ref 256), some (.int (nI u)), some (.int x2), some (.int (nI b)), some (.long (lN z.1)), none, some (.int (nI z.2.1)), some (.int (nI i)), o8, o9] [] (mkH (cx hi s o m p q g) (uR hl 261 z.2.2.2) true kp))
      (fun i z => (∀ t y, t < 8 → y < 31 → z.2.2.2 (t * 31 + y) = lN (z.2.2.1 t y)) ∧ (∀ (r : Nat → Nat → Nat) (K : Nat), z.1 * K + S2 31 (fun t y => z.2.2.1 t y * r t y) = Ts (fun f => Ts (fun t => Ts (fun z => wt lo (hh + 1) w f z * y f t * vv (a t) b r K t z) 31) (vP V)) i) ∧ (∀ t y, z.2.2.1 t y ≠ 0 → t < vP V ∧ z.2.1 / 2 ^ t % 2 = 1 ∧ ∃ z0, lo ≤ z0 ∧ z0 ≤ hh ∧ y = z0 + a t - 3 ∧ z0 + a t < b + 18 ∧ 18 < z0 + a t + b) ∧ z.2.1 < 256 ∧ (∀ t, t < 8 → z.2.1 / 2 ^ t % 2 = 1 → ∃ f, f < vP V ∧ oc / 2 ^ f % 2 = 1 ∧ y f t ≠ 0)) ?_ ?_ (vP V) 0 (0, 0, (fun _ _ => 0), row0) (Nat.zero_add _) ⟨fun t y ht hy' => hrow0 _ (by omega), fun r K => ?_, fun t y h => absurd rfl h, (show (0 : Nat) < 256 from by decide), fun t ht h => ?_⟩ none none
    · intro z ⟨h1, h2, h3, h4, h5⟩ o8 o9
      refine k_52t_43 (fun _ => ?_) (fun c => absurd (by rw [e19]; exact Int32.le_refl _) c)
      rw [HR_ws]
      refine k52_180 (fun c => ?_) (fun c => ?_)
      · refine qhi cx_256 (w' z.1 z.2.1 z.2.2.1 z.2.2.2 _ ⟨up1_s, h4, fun j j1 _ _ => up1_n j1, fun _ => ⟨up1_n (by decide), up1_n (by decide)⟩, fun q => absurd c q⟩ h1 h2 h3 h5)
      · refine qhi (by rw [cx_256, cx_256, cx_256]) (w' z.1 z.2.1 z.2.2.1 z.2.2.2 _ ⟨?_, h4, fun j j1 j2 j3 => ?_, fun q => absurd q c, fun _ => ⟨?_, ?_⟩⟩ h1 h2 h3 h5)
        · rw [up1_n (by decide), up1_n (by decide), up1_s]
        · rw [up1_n j3, up1_n j2, up1_n j1]
        · rw [up1_n (by decide), up1_s]
          rfl
        · rw [up1_s]
          rfl
    · intro i z hiP ⟨h1, h2, h3, h4, h5⟩ ih o8 o9
      refine k_52t_43 (fun c => absurd c (by rw [e19]; exact nI_ge hiP (by omega))) (fun _ => ?_)
      have hbit := bit8z (a := oc) (t := i) (by omega) (show i < 8 by omega)
      have hbit2 : oc / 2 ^ i % 2 < 2 := Nat.mod_lt _ (by decide)
      by_cases hoi : oc / 2 ^ i % 2 = 0
      · -- nothing is there
        have z0 : ((cx hi s o m p q g) 256 12 >>> (nI i &&& 31) &&& 1) = 0 := by rw [x11]; exact hbit.mpr hoi
        refine k_52t_58 (fun c => absurd c (by rw [e19]; exact nI_ge (a := 0) (by omega) (by omega))) (fun _ _ => ?_) (fun _ c => absurd z0 c) (fun _ c => absurd z0 c) (fun _ c => absurd z0 c) (fun _ c => absurd z0 c) (fun _ c => absurd z0 c)
        rw [nI_1]
        refine ih z ⟨h1, fun r K => ?_, h3, h4, h5⟩ _ _
        rw [h2 r K]
        show _ = Ts _ i + Ts (fun t => Ts (fun z => wt lo (hh + 1) w i z * y i t * vv (a t) b r K t z) 31) (vP V)
        have w0 : ∀ z, z < 31 → wt lo (hh + 1) w i z = 0 := by
          intro z hz
          unfold wt
          by_cases qq : lo ≤ z ∧ z < hh + 1
          · rw [if_pos qq]
            rcases Nat.eq_zero_or_pos (w i z) with k0 | k0
            · exact k0
            · have := hws i z (by omega) hz (by omega)
              omega
          · rw [if_neg qq]
        rw [Ts_z (f := fun t => Ts (fun z => wt lo (hh + 1) w i z * y i t * vv (a t) b r K t z) 31) (vP V) (fun t _ => Ts_z 31 (fun z hz => by rw [w0 z hz, Nat.zero_mul, Nat.zero_mul]))]
        rfl
      · have hoi1 : oc / 2 ^ i % 2 = 1 := by omega
        have z0 : ¬ ((cx hi s o m p q g) 256 12 >>> (nI i &&& 31) &&& 1) = 0 := by rw [x11]; exact fun c => hoi (hbit.mp c)
        refine lpu (σ := Nat × Nat × (Nat → Nat → Nat) × (Nat → Int64)) (vP V) (fun j z => ∀ o9 : Option Value, cW cd_52 (d + 1) Q 58 [some (.ref 256), some (.int (nI u)), some (.int x2), some (.int (nI b)), some (.long (lN z.1)), none, some (.int (nI z.2.1)), some (.int (nI i)), some (.int (nI j)), o9] [] (mkH (cx hi s o m p q g) (uR hl 261 z.2.2.2) true kp))
          (fun j z => (∀ t y, t < 8 → y < 31 → z.2.2.2 (t * 31 + y) = lN (z.2.2.1 t y)) ∧ (∀ (r : Nat → Nat → Nat) (K : Nat), z.1 * K + S2 31 (fun t y => z.2.2.1 t y * r t y) = Ts (fun f => Ts (fun t => Ts (fun z => wt lo (hh + 1) w f z * y f t * vv (a t) b r K t z) 31) (vP V)) i + Ts (fun t => Ts (fun z => wt lo (hh + 1) w i z * y i t * vv (a t) b r K t z) 31) j) ∧ (∀ t y, z.2.2.1 t y ≠ 0 → t < vP V ∧ z.2.1 / 2 ^ t % 2 = 1 ∧ ∃ z0, lo ≤ z0 ∧ z0 ≤ hh ∧ y = z0 + a t - 3 ∧ z0 + a t < b + 18 ∧ 18 < z0 + a t + b) ∧ z.2.1 < 256 ∧ (∀ t, t < 8 → z.2.1 / 2 ^ t % 2 = 1 → ∃ f, f < vP V ∧ oc / 2 ^ f % 2 = 1 ∧ y f t ≠ 0)) ?_ ?_ (vP V) 0 z (Nat.zero_add _) ⟨h1, h2, h3, h4, h5⟩ o9
        · intro z ⟨g1, g2, g3, g4, g5⟩ o9
          refine k_52t_58 (fun _ => ?_) (fun c => absurd (by rw [e19]; exact Int32.le_refl _) c) (fun c => absurd (by rw [e19]; exact Int32.le_refl _) c) (fun c => absurd (by rw [e19]; exact Int32.le_refl _) c) (fun c => absurd (by rw [e19]; exact Int32.le_refl _) c) (fun c => absurd (by rw [e19]; exact Int32.le_refl _) c) (fun c => absurd (by rw [e19]; exact Int32.le_refl _) c)
          rw [nI_1]
          exact ih z ⟨g1, g2, g3, g4, g5⟩ _ _
        · intro j z hjP ⟨g1, g2, g3, g4, g5⟩ ih2 o9
          obtain ⟨y1, y2⟩ := hy i j hiP hoi1 hjP
          have ex : (nI u * 8 + nI i) * 8 + nI j = nI ((u * 8 + i) * 8 + j) := by
            rw [show (8 : Int32) = nI 8 from rfl, pk_mul, nI_add, pk_mul, nI_add]
          have ey : (cx hi s o m p q g) 259 ((nI u * 8 + nI i) * 8 + nI j).toNatClampNeg = nI (y i j) := by
            rw [ex, nI_clamp (by omega)]
            exact y1
          have ej : (nI j).toNatClampNeg = j := nI_clamp (by omega)
          have c0 : ¬ (cx hi s o m p q g) 19 1 ≤ nI j := by rw [e19]; exact nI_ge hjP (by omega)
          have hpw := pw_bit j (by omega)
          -- the weights of i go to j
          have call : ¬ y i j = 0 → cS (d + 1) 53 [.ref 256, .int (nI i), .int (nI j), .int (nI (y i j)), .int (nI (a j) - 3), .int (nI b)] (mkH (cx hi s o m p q g) (uR hl 261 z.2.2.2) true kp) (am_ret (cW cd_52 (d + 1) Q) 136 [some (.ref 256), some (.int (nI u)), some (.int x2), some (.int (nI b)), some (.long (lN z.1)), none, some (.int (nI z.2.1)), some (.int (nI i)), some (.int (nI j)), some (.int (nI (y i j)))] [.long (lN z.1)]) := by
            intro hyne
            refine f53t (d := d) (hi := cx hi s o m p q g) (w := w) (v := z.2.2.1) (by omega) (by omega) (by omega) hhh hb (ha j) (by omega) x12 x13 (fun y hy' => hw i y (by omega) hy') (fun t y ht hy' => by rw [uR_s]; exact g1 t y ht hy') (fun c v' row k1 k2 k3 => ?_)
            refine cW.hl uR_uR (k_52t_136 ?_)
            rw [lN_add, (sh8 j (by omega)).2, fa_or, nI_1]
            have hor := or_lt8 g4 (hpw j (by omega)).2
            refine ih2 (z.1 + c, z.2.1 ||| 2 ^ j, v', row) ⟨k1, fun r K => ?_, fun t y hne => ?_, hor, fun t ht hbt => ?_⟩ _
            · show (z.1 + c) * K + S2 31 (fun t y => v' t y * r t y) = _ + (Ts (fun t => Ts (fun z => wt lo (hh + 1) w i z * y i t * vv (a t) b r K t z) 31) j + Ts (fun z => wt lo (hh + 1) w i z * y i j * vv (a j) b r K j z) 31)
              have q1 := k2 r K
              have q2 := g2 r K
              rw [Nat.add_mul]
              omega
            · show t < vP V ∧ (z.2.1 ||| 2 ^ j) / 2 ^ t % 2 = 1 ∧ _
              rcases k3 t y hne with k4 | ⟨rfl, z0, k4, k5, k6, k7, k8⟩
              · obtain ⟨m1, m2, m3⟩ := g3 t y k4
                exact ⟨m1, (or_bit _ _ _).mpr (Or.inl m2), m3⟩
              · exact ⟨hjP, (or_bit _ _ _).mpr (Or.inr ((hpw t (by omega)).1.mpr rfl)), z0, k4, k5, k6, k7, k8⟩
            · rcases (or_bit _ _ _).mp hbt with k4 | k4
              · exact g5 t ht k4
              · have : t = j := (hpw t ht).1.mp k4
                subst this
                exact ⟨i, hiP, hoi1, hyne⟩
          refine k_52t_58 (fun c => absurd c c0) (fun _ c => absurd c z0) (fun _ _ => by rw [ex]; exact vp_in_nI (by omega) (by decide)) ?_ ?_ (fun _ _ _ _ => vp_in_nI (by omega) (by decide)) ?_ <;> rw [ey]
          · intro _ _ c
            have y0 : y i j = 0 := (nI_eq (b := 0) (by omega) (by decide)).mp c
            rw [nI_1]
            refine ih2 z ⟨g1, fun r K => ?_, g3, g4, g5⟩ _
            rw [g2 r K]
            show _ = _ + (_ + Ts (fun z => wt lo (hh + 1) w i z * y i j * vv (a j) b r K j z) 31)
            rw [Ts_z (f := fun z => wt lo (hh + 1) w i z * y i j * vv (a j) b r K j z) 31 (fun z _ => by rw [y0, Nat.mul_zero, Nat.zero_mul])]
            rfl
          · intro _ _ c c2
            have y0 : ¬ y i j = 0 := fun k0 => c (by rw [k0]; rfl)
            rcases hx with ⟨-, -, ha3⟩ | ⟨c', hc', hx', -⟩
            · have := call y0
              rw [ha3 j] at this
              exact this
            · have : nI c' < 0 := by rw [← hx', c2]; decide
              exact absurd this (nI_pos (by omega))
          · intro _ _ c c2
            have y0 : ¬ y i j = 0 := fun k0 => c (by rw [k0]; rfl)
            rcases hx with ⟨hx', -⟩ | ⟨c', hc', hx', -, hg⟩
            · exact absurd hx' c2
            · have eg : (cx hi s o m p q g) 260 (nI j).toNatClampNeg = nI (a j) - 3 := by
                rw [ej]
                exact hg j hjP
              rw [eg]
              exact call y0
    · show 0 * K + S2 31 (fun t y => 0 * r t y) = Ts _ 0
      rw [Nat.zero_mul, S2_z (fun t z _ _ => Nat.zero_mul _)]
      rfl
    · have : (0 : Nat) / 2 ^ t % 2 = 1 := h
      rw [Nat.zero_div] at this
      exact absurd this (by decide)
  refine k_52t_8 (fun c => ?_) (fun c => ?_) (fun c => ?_)
  · rcases hx with ⟨-, hb16, -⟩ | ⟨c', hc', hx', -⟩
    · rw [hb16] at main
      exact main
    · rw [hx', g109_in (hi := cx hi s o m p q g) hv.2.1.2.2.2.1 hb8.2.2.2.1 hc'] at c
      exact absurd c (by decide)
  · rcases hx with ⟨hx', -⟩ | ⟨c', hc', hx', -⟩
    · exact absurd (by rw [hx']; exact g109_out (hi := cx hi s o m p q g) hv.2.1.2.2.2.1 (Or.inl (by decide))) c
    · rw [hx']
      exact vp_in_nI (by omega) (by decide)
  · rcases hx with ⟨hx', -⟩ | ⟨c', hc', hx', e23, -⟩
    · exact absurd (by rw [hx']; exact g109_out (hi := cx hi s o m p q g) hv.2.1.2.2.2.1 (Or.inl (by decide))) c
    · have : (cx hi s o m p q g) 23 x2.toNatClampNeg = nI b := by
        rw [hx', nI_clamp (by omega)]
        exact e23
      rw [this]
      exact main
/-- one weight stands at a place -/
theorem f45t {f z : Nat} (hv : R_vil V hi) (hf : f < vP V) (hz : z < 31) (w' : ∀ (row : Nat → Int64) (o' : Nat → Int32), (o' 12 = nI (2 ^ f) ∧ o' 13 = sc z ∧ o' 14 = sc z ∧ ∀ j, j ≠ 12 → j ≠ 13 → j ≠ 14 → o' j = o j) → (∀ t y, t < 8 → y < 31 → row (t * 31 + y) = lN (if t = f ∧ y = z then 1 else 0)) → Q none (mkH (cx hi s o' m p q g) (uR hl 262 row) true kp)) : cS (d + 2) 45 [.ref 256, .int (nI f), .int (sc z)] (mkH (cx hi s o m p q g) hl true kp) Q := by
  have hb8 := hv.1
  refine e_45t (f286_262 (d := d) (fun row0 h0 => ?_))
  have ex : nI f * 31 + 15 + sc z = nI (f * 31 + z) := by
    rw [show nI f * 31 = nI (f * 31) from pk_mul f 31, sc_ix]
  have z1 : ¬ g_108 (u2 (u2 (u2 (cx hi s o m p q g) 256 12 0) 256 13 (sc z)) 256 14 (sc z)) (nI f) = 0 := by
    rw [cx_256, cx_256, cx_256, g108_in (hi := cx hi s _ m p q g) hv.2.1.2.1 hb8.2.1 hf]
    decide
  have z2 : ¬ g_158 (sc z) (-15 : Int32) (15 : Int32) = 0 := by
    unfold g_158
    have a1 : ¬ sc z < -15 := by
      rw [Int32.lt_iff_toInt_lt, sc_toInt (by omega)]
      show ¬ ((z : Int) - 15 < -15)
      omega
    have a2 : ¬ (15 : Int32) < sc z := by
      rw [Int32.lt_iff_toInt_lt, sc_toInt (by omega)]
      show ¬ (15 < (z : Int) - 15)
      omega
    rw [if_neg a1, if_neg a2]
    decide
  refine k_45t_8 (fun c => absurd c z1) (fun _ c => absurd c z2) (fun _ _ => by rw [ex]; exact vp_in_nI (by omega) (by decide)) (fun _ _ => ?_)
  rw [ex, nI_clamp (by omega), (sh8 f (by omega)).2, cx_256, cx_256, cx_256, cx_256]
  refine qhl u2_in (w' _ _ ⟨up1_s, ?_, ?_, fun j j1 j2 j3 => ?_⟩ (fun t y ht hy => ?_))
  · rw [up1_n (by decide), up1_n (by decide), up1_s]
  · rw [up1_n (by decide), up1_s]
  · rw [up1_n j1, up1_n j3, up1_n j2, up1_n j1]
  · by_cases c : t = f ∧ y = z
    · rw [if_pos c, c.1, c.2, up1_s]
      rfl
    · rw [if_neg c, up1_n (by omega)]
      exact h0 _ (by omega)
theorem f45zt {z : Nat} (hv : R_vil V hi) (hP : vP V = 0) (w' : ∀ (row : Nat → Int64) (o' : Nat → Int32), (o' 12 = nI 0 ∧ o' 13 = sc z ∧ o' 14 = sc z ∧ ∀ j, j ≠ 12 → j ≠ 13 → j ≠ 14 → o' j = o j) → (∀ t y, t < 8 → y < 31 → row (t * 31 + y) = lN 0) → Q none (mkH (cx hi s o' m p q g) (uR hl 262 row) true kp)) : cS (d + 2) 45 [.ref 256, .int (-1), .int (sc z)] (mkH (cx hi s o m p q g) hl true kp) Q := by
  refine e_45t (f286_262 (d := d) (fun row0 h0 => ?_))
  have z1 : g_108 (u2 (u2 (u2 (cx hi s o m p q g) 256 12 0) 256 13 (sc z)) 256 14 (sc z)) (-1) = 0 := by
    rw [cx_256, cx_256, cx_256]
    exact g108_out (hi := cx hi s _ m p q g) hv.2.1.2.1 (Or.inl (by decide))
  refine k_45t_8 (fun _ => ?_) (fun c => absurd z1 c) (fun c => absurd z1 c) (fun c => absurd z1 c)
  rw [cx_256, cx_256, cx_256]
  refine w' _ _ ⟨?_, ?_, ?_, fun j j1 j2 j3 => ?_⟩ (fun t y ht hy => h0 _ (by omega))
  · rw [up1_n (by decide), up1_n (by decide), up1_s]
    rfl
  · rw [up1_n (by decide), up1_s]
  · rw [up1_s]
  · rw [up1_n j3, up1_n j2, up1_n j1]
end MOVE
