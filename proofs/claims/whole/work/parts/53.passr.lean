/-! ===== ways to pass: the reference ===== -/
abbrev lz2 (hl : Nat → Nat → Int64) (x y : Nat → Int64) : Nat → Nat → Int64 := uR (uR hl 306 x) 307 y
/-- where a score z goes with place q: as the reference has it -/
def thn (hd : Bool) (a b z : Nat) : Option Nat := if z = 31 then some 31 else bif hd then (if b + 18 ≤ z + a then some 31 else if z + a + b ≤ 18 then none else some (z + a - 3)) else some z
def rv (hd : Bool) (a b : Nat) (r : Nat → Nat → Nat) (q z : Nat) : Nat := match thn hd a b z with
  | some j => r q j
  | none => 0
theorem Ts_ap (f : Nat → Nat) (n : Nat) : ∀ m, Ts f (n + m) = Ts f n + Ts (fun i => f (n + i)) m
  | 0 => rfl
  | m + 1 => by
    show Ts f (n + m) + f (n + m) = Ts f n + (Ts (fun i => f (n + i)) m + f (n + m))
    rw [Ts_ap f n m]
    omega
theorem Ts_32 (f : Nat → Nat) : ∀ P, Ts f (32 * P) = Ts (fun p => Ts (fun z => f (32 * p + z)) 32) P
  | 0 => rfl
  | P + 1 => by
    rw [Nat.mul_succ, Ts_ap, Ts_32 f P]
    rfl
section PASSR
variable {d : Nat} {Q : am_Q} {hi : Nat → Nat → Int32} {hl : Nat → Nat → Int64} {sw : Bool} {kp : Nat → Nat} {V : vN} {c : Nat} {x y : Nat → Int64}
theorem lz_id : lz2 hl (hl 306) (hl 307) = hl := by
  show uR (uR hl 306 (hl 306)) 307 (hl 307) = hl
  rw [uR_id, uR_id]
theorem lz_a {k : Nat} {v : Int64} : u2 (lz2 hl x y) 306 k v = lz2 hl (up1 x k v) y := by
  show u2 (uR (uR hl 306 x) 307 y) 306 k v = _
  rw [u2_co (by decide), u2_in]
theorem lz_b {k : Nat} {v : Int64} : u2 (lz2 hl x y) 307 k v = lz2 hl x (up1 y k v) := u2_in
theorem g239 {h aa : Int32} {bn gg ff r2 ww : Nat → Int32} {z t bq : Nat} (hv : R_vil V hi) (ht : t < vP V) (hc : c < vC V) (hz : z < 31) (hbq : bq ≤ 15) (hbq1 : 1 ≤ bq) (e97 : hi 297 c = nI bq) : g_239 (rx hi h aa bn gg ff r2 ww) (nI c) (nI z) (nI t) = (match thn true (cnA hi c t) bq z with | some j => nI j | none => -1) ∧ (∃ e, e < 4 ∧ (rx hi h aa bn gg ff r2 ww) 295 t = nI e) ∧ ∀ j, thn true (cnA hi c t) bq z = some j → j < 32 := by
  have hb := hv.1
  obtain ⟨e, e1, e2, e3, e4, e5, e6⟩ := cnA_ok hv ht hc
  have et : (nI t).toNatClampNeg = t := nI_clamp (by omega)
  have ec : (nI c).toNatClampNeg = c := nI_clamp (by omega)
  have x295 : (rx hi h aa bn gg ff r2 ww) 295 t = nI e := e3
  have ix : (4 : Int32) * nI e + nI c = nI (4 * e + c) := by
    rw [show (4 : Int32) = nI 4 from rfl, pk_mul, nI_add]
  have x298 : (rx hi h aa bn gg ff r2 ww) 298 (4 * e + c) = nI (cnA hi c t) - 3 := e5
  have x297 : (rx hi h aa bn gg ff r2 ww) 297 c = nI bq := e97
  refine ⟨?_, ⟨e, by omega, x295⟩, fun j hj => ?_⟩
  · unfold g_239
    rw [et, ec, x295, ix, nI_clamp (by omega), x298, x297]
    have es : nI z - 15 + (nI (cnA hi c t) - 3) = sc z + (nI (cnA hi c t) - 3) := rfl
    rw [es]
    unfold thn
    rw [if_neg (show ¬ z = 31 by omega)]
    show _ = (match (if bq + 18 ≤ z + cnA hi c t then some 31 else if z + cnA hi c t + bq ≤ 18 then none else some (z + cnA hi c t - 3)) with | some j => nI j | none => -1)
    by_cases c1 : bq + 18 ≤ z + cnA hi c t
    · rw [if_neg (fun q => by have := (gn_lt (by omega) e6 (by omega)).mp q; omega), if_pos c1]
      rfl
    · rw [if_pos ((gn_lt (by omega) e6 (by omega)).mpr (by omega)), if_neg c1]
      by_cases c2 : z + cnA hi c t + bq ≤ 18
      · rw [if_neg (fun q => by have := (gn_le (by omega) e6 (by omega)).mpr c2; exact Int32.not_le.mpr q this), if_pos c2]
      · rw [if_pos (Int32.not_le.mp (fun q => c2 ((gn_le (by omega) e6 (by omega)).mp q))), if_neg c2]
        show sc z + (nI (cnA hi c t) - 3) + 15 = nI (z + cnA hi c t - 3)
        rw [gn_sum]
        refine Int32.toInt_inj.mp ?_
        have h1 : (nI (z + cnA hi c t) - 18).toInt = ((z + cnA hi c t : Nat) : Int) - 18 := pk_sub_toInt (b := 18) (by omega) (by decide)
        have h2 := Int32.toInt_add (nI (z + cnA hi c t) - 18) 15
        rw [h2, h1, nI_toInt (by omega)]
        show (((z + cnA hi c t : Nat) : Int) - 18 + 15).bmod (2 ^ 32) = _
        rw [Int.bmod_eq_of_le (by omega) (by omega)]
        omega
  · unfold thn at hj
    rw [if_neg (show ¬ z = 31 by omega)] at hj
    have hj' : (if bq + 18 ≤ z + cnA hi c t then some 31 else if z + cnA hi c t + bq ≤ 18 then none else some (z + cnA hi c t - 3)) = some j := hj
    by_cases c1 : bq + 18 ≤ z + cnA hi c t
    · rw [if_pos c1] at hj'
      have := Option.some.inj hj'
      omega
    · rw [if_neg c1] at hj'
      by_cases c2 : z + cnA hi c t + bq ≤ 18
      · rw [if_pos c2] at hj'
        exact absurd hj' (by simp)
      · rw [if_neg c2] at hj'
        have := Option.some.inj hj'
        omega
theorem f240 {h aa : Int32} {bn gg ff r2 ww : Nat → Int32} {u H bq : Nat} {bb : Nat → Nat} {X : Nat → Nat → Nat} (hv : R_vil V hi) (hpu : R_pul hi) (hc : c < vC V) (hbq1 : 1 ≤ bq) (hbq : bq ≤ 15) (e97 : hi 297 c = nI bq) (hHu : H + u ≤ 4000) (eh : h = nI (H + u)) (ea : aa = nI (min 99 (vAg V + (H + u) / vDy V))) (hbn : ∀ t, t < 8 → bn t = nI (bs V bb H u t)) (hX : ∀ t z, t < 8 → z < 32 → x (32 * t + z) = lN (X t z) ∧ X t z < 2 ^ 63)
    (w' : ∀ (bn' gg' ff' r2' ww' : Nat → Int32) (x' y' : Nat → Int64) (X' : Nat → Nat → Nat), (∀ t, t < 8 → bn' t = nI (bs V bb H (u + 1) t)) → (∀ t z, t < 8 → z < 32 → x' (32 * t + z) = lN (X' t z)) → (∀ t z, X' t z ≠ 0 → t < vP V) → (∀ r : Nat → Nat → Nat, S2 32 (fun t z => X' t z * r t z) = Ts (fun p => Ts (fun z => X p z * Ts (fun q => WY V hi bb H u p q * rv (hrd V H c u) (cnA hi c q) bq r q z) (vP V)) 32) (vP V)) → Q none (mkH (rx hi (nI (H + (u + 1))) (nI (min 99 (vAg V + (H + (u + 1)) / vDy V))) bn' gg' ff' r2' ww') (lz2 hl x' y') sw kp)) : cS (d + 7) 240 [.ref 279, .int (nI c)] (mkH (rx hi h aa bn gg ff r2 ww) (lz2 hl x y) sw kp) Q := by
  have hb8 := hv.1
  subst eh ea
  refine e_240 (f217 (d := d) (bn := bs V bb H u) hv hpu (by omega) (fun t ht => hbn t (by omega)) (fun gg' ff' r2' ww' hww => ?_))
  have e46 : (rx hi (nI (H + u)) (nI (min 99 (vAg V + (H + u) / vDy V))) bn gg' ff' r2' ww') 279 46 = nI (vP V) := hv.2.2.1.2.1
  have e61 : (rx hi (nI (H + u)) (nI (min 99 (vAg V + (H + u) / vDy V))) bn gg' ff' r2' ww') 279 61 = nI (H + u) := rfl
  have e48 : ¬ (rx hi (nI (H + u)) (nI (min 99 (vAg V + (H + u) / vDy V))) bn gg' ff' r2' ww') 279 48 = 0 := by
    show ¬ hi 279 48 = 0
    rw [hv.2.2.1.2.2.2.1]
    exact nI_ne0 (by omega) (by omega)
  have e51 : ¬ (rx hi (nI (H + u)) (nI (min 99 (vAg V + (H + u) / vDy V))) bn gg' ff' r2' ww') 279 51 = 0 := by
    show ¬ hi 279 51 = 0
    rw [hv.2.2.1.2.2.2.2.2.1]
    exact nI_ne0 (by omega) (by omega)
  have eW : ∀ p q, p < vP V → q < vP V → (rx hi (nI (H + u)) (nI (min 99 (vAg V + (H + u) / vDy V))) bn gg' ff' r2' ww') 302 (8 * p + q) = nI (WY V hi bb H u p q) := by
    intro p q hp hq
    show uR _ 302 ww' 302 _ = _
    rw [uR_s, hww p q hp (by omega), if_pos hq]
    rfl
  -- from the clearing on, heard or not
  have main : ∀ fl : Nat, (fl = bif hrd V H c u then 1 else 0) → cW cd_240 (d + 6) Q 24 [some (.ref 279), some (.int (nI c)), some (.int (nI fl)), some (.int 0), none, none, none, none, none] [] (mkH (rx hi (nI (H + u)) (nI (min 99 (vAg V + (H + u) / vDy V))) bn gg' ff' r2' ww') (lz2 hl x y) sw kp) := by
    intro fl hfl
    have hfl0 : nI fl = 0 ↔ hrd V H c u = false := by
      cases hh : hrd V H c u with
      | false =>
        rw [hh] at hfl
        rw [hfl]
        exact ⟨fun _ => rfl, fun _ => rfl⟩
      | true =>
        rw [hh] at hfl
        rw [hfl]
        exact ⟨fun h => absurd h (by decide), fun h => absurd h (by decide)⟩
    refine lpu (σ := Nat → Int64) 256 (fun i y => cW cd_240 (d + 6) Q 24 [some (.ref 279), some (.int (nI c)), some (.int (nI fl)), some (.int (nI i)), none, none, none, none, none] [] (mkH (rx hi (nI (H + u)) (nI (min 99 (vAg V + (H + u) / vDy V))) bn gg' ff' r2' ww') (lz2 hl x y) sw kp)) (fun i y => ∀ j, j < i → y j = lN 0) ?_ ?_ 256 0 y rfl (fun j hj => absurd hj (Nat.not_lt_zero j))
    · intro y0 hy0
      refine k_240_24 (fun _ => ?_) (fun c => absurd (by decide) c) (fun c => absurd (by decide) c)
      refine lpu (σ := (Nat → Int64) × (Nat → Nat → Nat)) (32 * vP V) (fun k z => ∀ o4 o5 o6 o7 o8 : Option Value, cW cd_240 (d + 6) Q 46 [some (.ref 279), some (.int (nI c)), some (.int (nI fl)), some (.int (nI k)), o4, o5, o6, o7, o8] [] (mkH (rx hi (nI (H + u)) (nI (min 99 (vAg V + (H + u) / vDy V))) bn gg' ff' r2' ww') (lz2 hl x z.1) sw kp)) (fun k z => (∀ t j, t < 8 → j < 32 → z.1 (32 * t + j) = lN (z.2 t j)) ∧ (∀ t j, z.2 t j ≠ 0 → t < vP V) ∧ ∀ r : Nat → Nat → Nat, S2 32 (fun t j => z.2 t j * r t j) = Ts (fun i => X (i / 32) (i % 32) * Ts (fun q => WY V hi bb H u (i / 32) q * rv (hrd V H c u) (cnA hi c q) bq r q (i % 32)) (vP V)) k) ?_ ?_ (32 * vP V) 0 (y0, fun _ _ => 0) (Nat.zero_add _) ⟨fun t j ht hj => hy0 _ (by omega), fun t j h => absurd rfl h, fun r => S2_z (fun t j _ _ => Nat.zero_mul _)⟩ none none none none none
      · intro z ⟨h1, h2, h3⟩ o4 o5 o6 o7 o8
        have ek : (32 : Int32) * (rx hi (nI (H + u)) (nI (min 99 (vAg V + (H + u) / vDy V))) bn gg' ff' r2' ww') 279 46 = nI (32 * vP V) := by
          rw [e46]
          exact pk_mul 32 _
        refine k_240_46 (fun _ => ?_) (fun c => absurd (by rw [ek]; exact Int32.le_refl _) c) (fun c => absurd (by rw [ek]; exact Int32.le_refl _) c) (fun c => absurd (by rw [ek]; exact Int32.le_refl _) c)
        refine lpu (σ := Nat → Int64) 256 (fun i x => cW cd_240 (d + 6) Q 187 [some (.ref 279), some (.int (nI c)), some (.int (nI fl)), some (.int (nI i)), o4, o5, o6, o7, o8] [] (mkH (rx hi (nI (H + u)) (nI (min 99 (vAg V + (H + u) / vDy V))) bn gg' ff' r2' ww') (lz2 hl x z.1) sw kp)) (fun i x => ∀ j, j < i → x j = z.1 j) ?_ ?_ 256 0 x rfl (fun j hj => absurd hj (Nat.not_lt_zero j))
        · intro x1 hx1
          refine k_240_187 (fun _ => ?_) (fun c => absurd (by decide) c) (fun c => absurd (by decide) c)
          refine f212 (d := d + 5) (V := V) (n := H + u) (A := vAg V) (bn := bs V bb H u) (by omega) (by omega) (by omega) hv.2.2.1.2.2.2.2.1 rfl rfl hbn (fun b' hb' => k_240_216 ?_)
          refine w' b' gg' ff' r2' ww' x1 z.1 z.2 (fun t ht => by rw [hb' t ht, bs_s (by omega)]) (fun t j ht hj => by rw [hx1 _ (by omega)]; exact h1 t j ht hj) h2 (fun r => ?_)
          rw [h3 r, Ts_32]
          refine Ts_eq _ (fun p _ => Ts_eq _ (fun j hj => ?_))
          rw [show (32 * p + j) / 32 = p by omega, show (32 * p + j) % 32 = j by omega]
        · intro i x1 hi256 hx1 ih
          refine k_240_187 (fun c => absurd c (nI_ge (a := i) (b := 256) hi256 (by decide))) (fun _ => vp_in_nI hi256 (by decide)) (fun _ => ?_)
          rw [nI_clamp (by omega), nI_1]
          refine cW.hl lz_a (ih _ (fun j hj => ?_))
          by_cases cj : j = i
          · subst cj
            rw [up1_s]
            show uR _ 307 z.1 307 _ = _
            rw [uR_s]
          · rw [up1_n cj]
            exact hx1 j (by omega)
      · intro k z hk ⟨h1, h2, h3⟩ ih o4 o5 o6 o7 o8
        have ek : (32 : Int32) * (rx hi (nI (H + u)) (nI (min 99 (vAg V + (H + u) / vDy V))) bn gg' ff' r2' ww') 279 46 = nI (32 * vP V) := by
          rw [e46]
          exact pk_mul 32 _
        have hp : k / 32 < vP V := by omega
        have hj : k % 32 < 32 := Nat.mod_lt _ (by decide)
        obtain ⟨hXk, hXs⟩ := hX (k / 32) (k % 32) (by omega) hj
        rw [show 32 * (k / 32) + k % 32 = k by omega] at hXk
        have exk : ∀ y1 : Nat → Int64, (lz2 hl x y1) 306 (nI k).toNatClampNeg = lN (X (k / 32) (k % 32)) := by
          intro y1
          rw [nI_clamp (by omega)]
          exact hXk
        have e32d : nI k / 32 = nI (k / 32) := pk_div (d := 32) (by omega) (by decide) (by decide)
        have e32r : nI k - nI k / 32 * 32 = nI (k % 32) := pk_rem (d := 32) (by omega) (by decide) (by decide)
        refine k_240_46 (fun c => absurd c (by rw [ek]; exact nI_ge hk (by omega))) (fun _ => vp_in_nI (by omega) (by decide)) ?_ ?_ <;> rw [exk, lz hXs]
        · intro _ c0
          rw [nI_1]
          refine ih z ⟨h1, h2, fun r => ?_⟩ _ _ _ _ _
          rw [h3 r]
          show _ = _ + X (k / 32) (k % 32) * _
          rw [c0, Nat.zero_mul]
          rfl
        · intro _ c0
          rw [e32r, e32d]
          refine lpu (σ := (Nat → Int64) × (Nat → Nat → Nat)) (vP V) (fun q z => ∀ o7 o8 : Option Value, cW cd_240 (d + 6) Q 86 [some (.ref 279), some (.int (nI c)), some (.int (nI fl)), some (.int (nI k)), some (.int (nI (k / 32))), some (.int (nI (k % 32))), some (.int (nI q)), o7, o8] [] (mkH (rx hi (nI (H + u)) (nI (min 99 (vAg V + (H + u) / vDy V))) bn gg' ff' r2' ww') (lz2 hl x z.1) sw kp)) (fun q' z => (∀ t j, t < 8 → j < 32 → z.1 (32 * t + j) = lN (z.2 t j)) ∧ (∀ t j, z.2 t j ≠ 0 → t < vP V) ∧ ∀ r : Nat → Nat → Nat, S2 32 (fun t j => z.2 t j * r t j) = Ts (fun i => X (i / 32) (i % 32) * Ts (fun q => WY V hi bb H u (i / 32) q * rv (hrd V H c u) (cnA hi c q) bq r q (i % 32)) (vP V)) k + X (k / 32) (k % 32) * Ts (fun q => WY V hi bb H u (k / 32) q * rv (hrd V H c u) (cnA hi c q) bq r q (k % 32)) q') ?_ ?_ (vP V) 0 z (Nat.zero_add _) ⟨h1, h2, fun r => by rw [h3 r]; rfl⟩ o7 o8
          · intro z ⟨g1, g2, g3⟩ o7 o8
            have cP : (rx hi (nI (H + u)) (nI (min 99 (vAg V + (H + u) / vDy V))) bn gg' ff' r2' ww') 279 46 ≤ nI (vP V) := by rw [e46]; exact Int32.le_refl _
            refine k_240_86 (fun _ => ?_) ?_ ?_ ?_ ?_ ?_ ?_ ?_ ?_ ?_ ?_ ?_ ?_ ?_ ?_ ?_ ?_ ?_ ?_ ?_
            · rw [nI_1]
              exact ih z ⟨g1, g2, g3⟩ _ _ _ _ _
            all_goals exact fun c => absurd cP c
          · intro q z hq ⟨g1, g2, g3⟩ ih2 o7 o8
            have cP : ¬ (rx hi (nI (H + u)) (nI (min 99 (vAg V + (H + u) / vDy V))) bn gg' ff' r2' ww') 279 46 ≤ nI q := by rw [e46]; exact nI_ge hq (by omega)
            have hW : WY V hi bb H u (k / 32) q ≤ 60 := wy_le hq
            have e8 : (8 : Int32) * nI (k / 32) + nI q = nI (8 * (k / 32) + q) := by
              rw [show (8 : Int32) = nI 8 from rfl, pk_mul, nI_add]
            have ew : (rx hi (nI (H + u)) (nI (min 99 (vAg V + (H + u) / vDy V))) bn gg' ff' r2' ww') 302 ((8 : Int32) * nI (k / 32) + nI q).toNatClampNeg = nI (WY V hi bb H u (k / 32) q) := by
              rw [e8, nI_clamp (by omega)]
              exact eW _ _ hp hq
            have ew0 : nI (WY V hi bb H u (k / 32) q) ≤ 0 ↔ WY V hi bb H u (k / 32) q = 0 := by
              constructor
              · intro h
                rcases Nat.eq_zero_or_pos (WY V hi bb H u (k / 32) q) with h0 | h0
                · exact h0
                · exact absurd h (nI_nle h0 (by omega))
              · intro h; rw [h]; decide
            have ev8 : vp_in ((8 : Int32) * nI (k / 32) + nI q) 64 := by rw [e8]; exact vp_in_nI (by omega) (by decide)
            have evk : vp_in (nI k) 256 := vp_in_nI (by omega) (by decide)
            -- nothing is added
            have skip : (∀ r : Nat → Nat → Nat, WY V hi bb H u (k / 32) q * rv (hrd V H c u) (cnA hi c q) bq r q (k % 32) = 0) → ∀ o7 o8 : Option Value, cW cd_240 (d + 6) Q 86 [some (.ref 279), some (.int (nI c)), some (.int (nI fl)), some (.int (nI k)), some (.int (nI (k / 32))), some (.int (nI (k % 32))), some (.int (nI q + 1)), o7, o8] [] (mkH (rx hi (nI (H + u)) (nI (min 99 (vAg V + (H + u) / vDy V))) bn gg' ff' r2' ww') (lz2 hl x z.1) sw kp) := by
              intro h0 o7 o8
              rw [nI_1]
              refine ih2 z ⟨g1, g2, fun r => ?_⟩ o7 o8
              rw [g3 r]
              show _ = _ + X (k / 32) (k % 32) * (_ + WY V hi bb H u (k / 32) q * rv (hrd V H c u) (cnA hi c q) bq r q (k % 32))
              rw [h0 r]
              rfl
            -- one entry more
            have add : ∀ j, thn (hrd V H c u) (cnA hi c q) bq (k % 32) = some j → j < 32 → ∀ o7 o8 : Option Value, cW cd_240 (d + 6) Q 86 [some (.ref 279), some (.int (nI c)), some (.int (nI fl)), some (.int (nI k)), some (.int (nI (k / 32))), some (.int (nI (k % 32))), some (.int (nI q + 1)), o7, o8] [] (mkH (rx hi (nI (H + u)) (nI (min 99 (vAg V + (H + u) / vDy V))) bn gg' ff' r2' ww') (u2 (lz2 hl x z.1) 307 ((32 : Int32) * nI q + nI j).toNatClampNeg ((lz2 hl x z.1) 307 ((32 : Int32) * nI q + nI j).toNatClampNeg + lN (X (k / 32) (k % 32)) * (nI (WY V hi bb H u (k / 32) q)).toInt64)) sw kp) := by
              intro j hj1 hj2 o7 o8
              have e5 : (32 : Int32) * nI q + nI j = nI (32 * q + j) := by
                rw [show (32 : Int32) = nI 32 from rfl, pk_mul, nI_add]
              have e6 : (lz2 hl x z.1) 307 (32 * q + j) = lN (z.2 q j) := by
                show uR _ 307 z.1 307 _ = _
                rw [uR_s]
                exact g1 q j (by omega) hj2
              rw [e5, nI_clamp (by omega), e6, nI_l (by omega), lN_mul, lN_add, nI_1]
              refine cW.hl lz_b (ih2 (up1 z.1 (32 * q + j) (lN (z.2 q j + X (k / 32) (k % 32) * WY V hi bb H u (k / 32) q)), fun t i => if t = q ∧ i = j then z.2 t i + X (k / 32) (k % 32) * WY V hi bb H u (k / 32) q else z.2 t i) ⟨fun t i ht hi' => ?_, fun t i hne => ?_, fun r => ?_⟩ o7 o8)
              · show up1 z.1 (32 * q + j) _ (32 * t + i) = lN (if t = q ∧ i = j then z.2 t i + X (k / 32) (k % 32) * WY V hi bb H u (k / 32) q else z.2 t i)
                by_cases cc : t = q ∧ i = j
                · rw [if_pos cc, cc.1, cc.2, up1_s]
                · rw [if_neg cc, up1_n (by omega)]
                  exact g1 t i ht hi'
              · have hne' : (if t = q ∧ i = j then z.2 t i + X (k / 32) (k % 32) * WY V hi bb H u (k / 32) q else z.2 t i) ≠ 0 := hne
                by_cases cc : t = q ∧ i = j
                · omega
                · rw [if_neg cc] at hne'
                  exact g2 t i hne'
              · show S2 32 (fun t i => (if t = q ∧ i = j then z.2 t i + X (k / 32) (k % 32) * WY V hi bb H u (k / 32) q else z.2 t i) * r t i) = _ + X (k / 32) (k % 32) * (Ts _ q + WY V hi bb H u (k / 32) q * rv (hrd V H c u) (cnA hi c q) bq r q (k % 32))
                have e7 : rv (hrd V H c u) (cnA hi c q) bq r q (k % 32) = r q j := by
                  unfold rv
                  rw [hj1]
                have e9 : S2 32 (fun t i => (if t = q ∧ i = j then z.2 t i + X (k / 32) (k % 32) * WY V hi bb H u (k / 32) q else z.2 t i) * r t i) = S2 32 (fun t i => z.2 t i * r t i) + X (k / 32) (k % 32) * WY V hi bb H u (k / 32) q * r q j := by
                  refine S2_up (t0 := q) (z0 := j) (by omega) hj2 (fun t i cc => by rw [if_neg cc]) ?_
                  rw [if_pos ⟨rfl, rfl⟩, Nat.add_mul]
                rw [e9, g3 r, e7, Nat.mul_add, Nat.mul_assoc]
                omega
            have hc4 : vp_in (nI c) 4 := vp_in_nI (by omega) (by decide)
            have nz0 : ¬ nI (k % 32) < 0 := nI_pos (by omega)
            by_cases c31 : k % 32 = 31
            · -- passed already
              have x31 : nI (k % 32) = 31 := by rw [c31]; rfl
              have ht31 : thn (hrd V H c u) (cnA hi c q) bq (k % 32) = some (k % 32) := by unfold thn; rw [if_pos c31, c31]
              have vq : vp_in ((32 : Int32) * nI q + nI (k % 32)) 256 := by
                rw [show (32 : Int32) * nI q + nI (k % 32) = nI (32 * q + k % 32) by rw [show (32 : Int32) = nI 32 from rfl, pk_mul, nI_add]]
                exact vp_in_nI (by omega) (by decide)
              refine k_240_86 (fun c => absurd c cP) (fun _ => ev8) ?_ ?_ (fun _ _ _ _ => vq) (fun _ _ _ _ => evk) ?_ (fun _ c => absurd x31 c) (fun _ c => absurd x31 c) (fun _ c => absurd x31 c) (fun _ c => absurd x31 c) (fun _ c => absurd x31 c) (fun _ c => absurd x31 c) (fun _ c => absurd x31 c) (fun _ c => absurd x31 c) (fun _ c => absurd x31 c) (fun _ c => absurd x31 c) (fun _ c => absurd x31 c) (fun _ c => absurd x31 c) (fun _ c => absurd x31 c) <;> rw [ew]
              · rw [ew0]
                intro _ _ c1
                exact skip (fun r => by rw [c1, Nat.zero_mul]) _ _
              · intro _ _ _ c1
                exact absurd c1 nz0
              · intro _ _ _ _
                rw [exk]
                exact add (k % 32) ht31 (by omega) _ _
            · have x31 : ¬ nI (k % 32) = 31 := fun h => c31 ((nI_eq (b := 31) (by omega) (by decide)).mp h)
              have hz31 : k % 32 < 31 := by omega
              by_cases hh : hrd V H c u = false
              · -- not heard
                have f0 : nI fl = 0 := hfl0.mpr hh
                have ht0 : thn (hrd V H c u) (cnA hi c q) bq (k % 32) = some (k % 32) := by unfold thn; rw [if_neg c31, hh]; rfl
                have vq : vp_in ((32 : Int32) * nI q + nI (k % 32)) 256 := by
                  rw [show (32 : Int32) * nI q + nI (k % 32) = nI (32 * q + k % 32) by rw [show (32 : Int32) = nI 32 from rfl, pk_mul, nI_add]]
                  exact vp_in_nI (by omega) (by decide)
                refine k_240_86 (fun c => absurd c cP) (fun _ => ev8) (fun _ c => absurd c x31) (fun _ c => absurd c x31) (fun _ c => absurd c x31) (fun _ c => absurd c x31) (fun _ c => absurd c x31) ?_ (fun _ _ _ _ c => absurd c nz0) (fun _ _ _ _ _ => vq) (fun _ _ _ _ _ => evk) ?_ (fun _ _ c => absurd f0 c) (fun _ _ c => absurd f0 c) (fun _ _ c => absurd f0 c) (fun _ _ c => absurd f0 c) (fun _ _ c => absurd f0 c) (fun _ _ c => absurd f0 c) (fun _ _ c => absurd f0 c) (fun _ _ c => absurd f0 c) <;> rw [ew]
                · rw [ew0]
                  intro _ _ _ c1
                  exact skip (fun r => by rw [c1, Nat.zero_mul]) _ _
                · intro _ _ _ _ _
                  rw [exk]
                  exact add (k % 32) ht0 (by omega) _ _
              · have hh1 : hrd V H c u = true := by
                  cases h : hrd V H c u with
                  | true => rfl
                  | false => exact absurd h hh
                have f0 : ¬ nI fl = 0 := fun h => hh (hfl0.mp h)
                obtain ⟨k1, ⟨e, k2, k3⟩, k4⟩ := g239 (h := nI (H + u)) (aa := nI (min 99 (vAg V + (H + u) / vDy V))) (bn := bn) (gg := gg') (ff := ff') (r2 := r2') (ww := ww') hv hq hc hz31 hbq hbq1 e97
                have v16 : vp_in ((4 : Int32) * (rx hi (nI (H + u)) (nI (min 99 (vAg V + (H + u) / vDy V))) bn gg' ff' r2' ww') 295 (nI q).toNatClampNeg + nI c) 16 := by
                  rw [nI_clamp (by omega), k3, show (4 : Int32) * nI e + nI c = nI (4 * e + c) by rw [show (4 : Int32) = nI 4 from rfl, pk_mul, nI_add]]
                  exact vp_in_nI (by omega) (by decide)
                rw [← hh1] at k1 k4
                refine k_240_86 (fun c => absurd c cP) (fun _ => ev8) (fun _ c => absurd c x31) (fun _ c => absurd c x31) (fun _ c => absurd c x31) (fun _ c => absurd c x31) (fun _ c => absurd c x31) (fun _ _ c => absurd c f0) (fun _ _ c => absurd c f0) (fun _ _ c => absurd c f0) (fun _ _ c => absurd c f0) (fun _ _ c => absurd c f0) (fun _ _ _ => vp_in_nI (by omega) (by decide)) (fun _ _ _ => v16) (fun _ _ _ => hc4) ?_ ?_ ?_ (fun _ _ _ _ _ => evk) ?_ <;> rw [ew] <;> rw [k1]
                · rw [ew0]
                  intro _ _ _ c1
                  exact skip (fun r => by rw [c1, Nat.zero_mul]) _ _
                · intro _ _ _ _ c1
                  cases ht : thn (hrd V H c u) (cnA hi c q) bq (k % 32) with
                  | none => exact skip (fun r => by unfold rv; rw [ht]; rfl) _ _
                  | some j =>
                    rw [ht] at c1
                    exact absurd c1 (nI_pos (by have := k4 j ht; omega))
                · intro _ _ _ _ c1
                  cases ht : thn (hrd V H c u) (cnA hi c q) bq (k % 32) with
                  | none =>
                    rw [ht] at c1
                    exact absurd (by decide) c1
                  | some j =>
                    have := k4 j ht
                    show vp_in ((32 : Int32) * nI q + nI j) 256
                    rw [show (32 : Int32) * nI q + nI j = nI (32 * q + j) by rw [show (32 : Int32) = nI 32 from rfl, pk_mul, nI_add]]
                    exact vp_in_nI (by omega) (by decide)
                · intro _ _ _ _ c1
                  cases ht : thn (hrd V H c u) (cnA hi c q) bq (k % 32) with
                  | none =>
                    rw [ht] at c1
                    exact absurd (by decide) c1
                  | some j =>
                    rw [exk]
                    exact add j ht (k4 j ht) _ _
    · intro i y0 hi256 hy0 ih
      refine k_240_24 (fun c => absurd c (nI_ge (a := i) (b := 256) hi256 (by decide))) (fun _ => vp_in_nI hi256 (by decide)) (fun _ => ?_)
      rw [nI_clamp (by omega), nI_1]
      refine cW.hl lz_b (ih _ (fun j hj => ?_))
      by_cases cj : j = i
      · subst cj
        rw [up1_s]
        rfl
      · rw [up1_n cj]
        exact hy0 j (by omega)
  have e218 : g_218 (rx hi (nI (H + u)) (nI (min 99 (vAg V + (H + u) / vDy V))) bn gg' ff' r2' ww') (nI (H + u)) = nI c ↔ hrd V H c u = true := by
    rw [heard_eq (hi := rx hi (nI (H + u)) (nI (min 99 (vAg V + (H + u) / vDy V))) bn gg' ff' r2' ww') hv]
    exact g120 (hi := rx hi (nI (H + u)) (nI (min 99 (vAg V + (H + u) / vDy V))) bn gg' ff' r2' ww') hv hc (by omega)
  refine k_240_4 (fun _ => e51) (fun _ => e48) ?_ ?_ <;> rw [e61, e218] <;> intro hh
  · exact main 1 (by rw [hh]; rfl)
  · have hh2 : hrd V H c u = false := by
      cases h : hrd V H c u with
      | false => rfl
      | true => exact absurd h hh
    exact main 0 (by rw [hh2]; rfl)
end PASSR
