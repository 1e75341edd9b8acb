/-! ===== operations: pass, soon, council ===== -/
def RR (V : vN) (hi : Nat → Nat → Int32) (bb : Nat → Nat) (H c b n k q z : Nat) : Nat := if z = 31 then 60 ^ k else rr V hi bb H c b n k q z
section OPSF
variable {d : Nat} {Q : am_Q} {hi : Nat → Nat → Int32} {hl : Nat → Nat → Int64} {sw : Bool} {kp : Nat → Nat} {V : vN} {c : Nat} {x y : Nat → Int64}
theorem rv_31 {hd : Bool} {a b : Nat} {r : Nat → Nat → Nat} {q : Nat} : rv hd a b r q 31 = r q 31 := rfl
theorem rv_vv {hd : Bool} {a b H n k q z : Nat} {bb : Nat → Nat} (hz : z < 31) (ha : a ≤ 6) (hb : b ≤ 15) : rv hd a b (RR V hi bb H c b n k) q z = bif hd then vv a b (rr V hi bb H c b n k) (60 ^ k) q z else rr V hi bb H c b n k q z := by
  unfold rv thn
  rw [if_neg (show ¬ z = 31 by omega)]
  cases hd with
  | false =>
    show RR V hi bb H c b n k q z = rr V hi bb H c b n k q z
    unfold RR
    rw [if_neg (by omega)]
  | true =>
    show (match (if b + 18 ≤ z + a then some 31 else if z + a + b ≤ 18 then none else some (z + a - 3)) with | some j => RR V hi bb H c b n k q j | none => 0) = vv a b (rr V hi bb H c b n k) (60 ^ k) q z
    unfold vv
    by_cases c1 : b + 18 ≤ z + a
    · rw [if_pos c1, if_pos c1]
      show RR V hi bb H c b n k q 31 = _
      unfold RR
      rw [if_pos rfl]
    · rw [if_neg c1, if_neg c1]
      by_cases c2 : z + a + b ≤ 18
      · rw [if_pos c2, if_pos c2]
      · rw [if_neg c2, if_neg c2]
        show RR V hi bb H c b n k q (z + a - 3) = _
        unfold RR
        rw [if_neg (by omega)]
theorem RR_s {b H n k p z : Nat} {bb : Nat → Nat} (hp : p < vP V) (hz : z < 32) (hb : b ≤ 15) : Ts (fun q => WY V hi bb H (n - (k + 1)) p q * rv (hrd V H c (n - (k + 1))) (cnA hi c q) b (RR V hi bb H c b n k) q z) (vP V) = RR V hi bb H c b n (k + 1) p z := by
  by_cases c1 : z = 31
  · subst c1
    unfold RR
    rw [if_pos rfl]
    have e : Ts (fun q => WY V hi bb H (n - (k + 1)) p q * rv (hrd V H c (n - (k + 1))) (cnA hi c q) b (RR V hi bb H c b n k) q 31) (vP V) = Ts (fun q => WY V hi bb H (n - (k + 1)) p q * 60 ^ k) (vP V) := Ts_eq _ (fun q _ => by
      rw [rv_31]
      unfold RR
      rw [if_pos rfl])
    have e2 : Ts (WY V hi bb H (n - (k + 1)) p) (vP V) = 60 := wy_all hp
    unfold RR at e
    rw [e, Ts_mulr, e2, Nat.pow_succ, Nat.mul_comm]
  · have e : Ts (fun q => WY V hi bb H (n - (k + 1)) p q * rv (hrd V H c (n - (k + 1))) (cnA hi c q) b (RR V hi bb H c b n k) q z) (vP V) = rr V hi bb H c b n (k + 1) p z := Ts_eq _ (fun q _ => by rw [rv_vv (a := cnA hi c q) (by omega) (show cnA hi c q ≤ 6 from Nat.min_le_left _ _) hb])
    rw [e]
    unfold RR
    rw [if_neg c1]
theorem f241 {h aa : Int32} {bn gg ff r2 ww : Nat → Int32} {D0 z0 : Nat} {x3 : Int32} (hc : c < 4) (hP8 : vP V ≤ 8) (hx : (D0 < vP V ∧ x3 = nI D0) ∨ (vP V = 0 ∧ x3 = -1 ∧ D0 = 8)) (e12 : hi 299 (12 + c) = hi 31 c) (e8 : hi 299 (8 + c) = hi 30 c) (hst : hi 31 c = 0 ∨ hi 31 c = 2) (hz : z0 < 31) (ez : hi 31 c = 0 → hi 30 c = sc z0) (w' : ∀ (x' : Nat → Int64), (∀ t z, t < 8 → z < 32 → x' (32 * t + z) = lN (if hi 31 c = 0 ∧ t = D0 ∧ z = z0 then 1 else 0)) → Q none (mkH (rx hi (hi 299 17) (hi 299 18) bn gg ff r2 ww) (lz2 hl x' y) sw kp)) : cS (d + 1) 241 [.ref 279, .int (nI c), .int x3] (mkH (rx hi h aa bn gg ff r2 ww) (lz2 hl x y) sw kp) Q := by
  refine e_241 (cW.hi (hi := rx hi (hi 299 17) (hi 299 18) bn gg ff r2 ww) (by rw [rx_61, rx_62]; rfl) ?_)
  have i12 : (12 : Int32) + nI c = nI (12 + c) := nI_add 12 c
  have i8 : (8 : Int32) + nI c = nI (8 + c) := nI_add 8 c
  have x12 : (rx hi (hi 299 17) (hi 299 18) bn gg ff r2 ww) 299 ((12 : Int32) + nI c).toNatClampNeg = hi 31 c := by
    rw [i12, nI_clamp (by omega)]
    exact e12
  have x8 : (rx hi (hi 299 17) (hi 299 18) bn gg ff r2 ww) 299 ((8 : Int32) + nI c).toNatClampNeg = hi 30 c := by
    rw [i8, nI_clamp (by omega)]
    exact e8
  refine lpu (σ := Nat → Int64) 256 (fun i x => cW cd_241 d Q 24 [some (.ref 279), some (.int (nI c)), some (.int x3), some (.int (nI i))] [] (mkH (rx hi (hi 299 17) (hi 299 18) bn gg ff r2 ww) (lz2 hl x y) sw kp)) (fun i x => ∀ j, j < i → x j = lN 0) ?_ ?_ 256 0 x rfl (fun j hj => absurd hj (Nat.not_lt_zero j))
  · intro x0 hx0
    have zero : (¬ hi 31 c = 0 ∨ D0 = 8) → Q none (mkH (rx hi (hi 299 17) (hi 299 18) bn gg ff r2 ww) (lz2 hl x0 y) sw kp) := fun h0 => w' x0 (fun t z ht hz' => by rw [hx0 _ (by omega), if_neg (fun q => by
      rcases h0 with h0 | h0
      · exact h0 q.1
      · omega)])
    refine k_241_24 (fun _ => by rw [i12]; exact vp_in_nI (by omega) (by decide)) ?_ ?_ ?_ ?_ (fun _ _ _ _ => by rw [i8]; exact vp_in_nI (by omega) (by decide)) ?_ ?_ (fun c => absurd (by decide) c) (fun c => absurd (by decide) c)
    · intro _ c1
      rcases hx with ⟨h1, rfl⟩ | ⟨-, -, h3⟩
      · exact absurd c1 (nI_pos (by omega))
      · exact zero (Or.inr h3)
    · rw [x12]
      intro _ _ c2
      refine zero (Or.inl (fun h0 => ?_))
      rw [h0] at c2
      exact absurd c2 (by decide)
    · rw [x12]
      intro _ _ _ c3
      rcases hst with h | h <;> rw [h] at c3 <;> exact absurd c3 (by decide)
    · rw [x12]
      intro _ _ _ c3
      rcases hst with h | h <;> rw [h] at c3 <;> exact absurd c3 (by decide)
    · rw [x12, x8]
      intro _ c1 c2 _
      rcases hx with ⟨h1, rfl⟩ | ⟨-, rfl, -⟩
      · rcases hst with h | h
        · have e5 : (32 : Int32) * nI D0 + (hi 30 c + 15) = nI (32 * D0 + z0) := by
            rw [ez h]
            unfold sc
            rw [Int32.sub_add_cancel, show (32 : Int32) = nI 32 from rfl, pk_mul, nI_add]
          rw [e5]
          exact vp_in_nI (by omega) (by decide)
        · rw [h] at c2
          exact absurd (by decide) c2
      · exact absurd (by decide) c1
    · rw [x12, x8]
      intro _ c1 c2 _
      rcases hx with ⟨h1, rfl⟩ | ⟨-, rfl, -⟩
      · rcases hst with h | h
        · have e5 : (32 : Int32) * nI D0 + (hi 30 c + 15) = nI (32 * D0 + z0) := by
            rw [ez h]
            unfold sc
            rw [Int32.sub_add_cancel, show (32 : Int32) = nI 32 from rfl, pk_mul, nI_add]
          rw [e5, nI_clamp (by omega)]
          refine qhl lz_a (w' _ (fun t z ht hz' => ?_))
          by_cases cc : t = D0 ∧ z = z0
          · rw [if_pos ⟨h, cc⟩, cc.1, cc.2, up1_s]
            rfl
          · rw [if_neg (fun q => cc q.2), up1_n (by omega)]
            exact hx0 _ (by omega)
        · rw [h] at c2
          exact absurd (by decide) c2
      · exact absurd (by decide) c1
  · intro i x0 hi256 hx0 ih
    refine k_241_24 (fun c => absurd c (nI_ge (a := i) (b := 256) hi256 (by decide))) (fun c => absurd c (nI_ge (a := i) (b := 256) hi256 (by decide))) (fun c => absurd c (nI_ge (a := i) (b := 256) hi256 (by decide))) (fun c => absurd c (nI_ge (a := i) (b := 256) hi256 (by decide))) (fun c => absurd c (nI_ge (a := i) (b := 256) hi256 (by decide))) (fun c => absurd c (nI_ge (a := i) (b := 256) hi256 (by decide))) (fun c => absurd c (nI_ge (a := i) (b := 256) hi256 (by decide))) (fun c => absurd c (nI_ge (a := i) (b := 256) hi256 (by decide))) (fun _ => vp_in_nI hi256 (by decide)) (fun _ => ?_)
    rw [nI_clamp (by omega), nI_1]
    refine cW.hl lz_a (ih _ (fun j hj => ?_))
    by_cases cj : j = i
    · subst cj
      rw [up1_s]
      rfl
    · rw [up1_n cj]
      exact hx0 j (by omega)
/-- what is known of a case -/
def CSE (V : vN) (hi : Nat → Nat → Int32) (c : Nat) : Prop := hi 299 (8 + c) = hi 30 c ∧ hi 299 (12 + c) = hi 31 c ∧ (hi 31 c = 0 ∨ hi 31 c = 1 ∨ hi 31 c = 2) ∧ (hi 31 c = 0 → -(hi 23 c).toInt < (hi 30 c).toInt ∧ (hi 30 c).toInt < (hi 23 c).toInt)
theorem CSE.of (hv : R_vil V hi) (hs : SRc V hi 28 (hi 299)) (hc : c < vC V) : CSE V hi c := by
  obtain ⟨H, s1, s2, s3, s4, s5, s6, s7, s8, s9, s10, s11, s12⟩ := hs
  have hb := hv.1
  obtain ⟨r1, r2, r3, -, -, r6⟩ := s10 c (by omega)
  exact ⟨r1, r2, r3, r6 hc⟩
theorem f243 {h aa : Int32} {bn gg ff r2 ww : Nat → Int32} {n H D0 : Nat} {bb bo : Nat → Nat} {x3 : Int32} (hv : R_vil V hi) (hpu : R_pul hi) (hsn : SN V hi H bo) (hc : c < vC V) (hcs : CSE V hi c) (hst1 : ¬ hi 31 c = 1) (hn : n ≤ 8) (hbn : ∀ t, t < 8 → bn t = nI (bb t)) (hx : (D0 < vP V ∧ x3 = nI D0) ∨ (vP V = 0 ∧ x3 = -1 ∧ D0 = 8))
    (w' : ∀ (h' aa' : Int32) (bn' gg' ff' r2' ww' : Nat → Int32) (x' y' : Nat → Int64), Q (some (.long (lN (wp V hi bb H c n D0)))) (mkH (rx hi h' aa' bn' gg' ff' r2' ww') (lz2 hl x' y') sw kp)) : cS (d + 8) 243 [.ref 279, .int (nI c), .int (nI n), .int x3] (mkH (rx hi h aa bn gg ff r2 ww) (lz2 hl x y) sw kp) Q := by
  have hb8 := hv.1
  obtain ⟨n1, n2, n3, n4, -, -, -⟩ := id hsn
  obtain ⟨e8, e12, hst, hsc⟩ := hcs
  obtain ⟨bq, bq1, bq2, bq3, bq4⟩ := hv.2.2.2.2.1 c hc
  have ebq : (hi 23 c).toNatClampNeg = bq := by rw [bq3, nI_clamp (by omega)]
  have hst2 : hi 31 c = 0 ∨ hi 31 c = 2 := by
    rcases hst with h | h | h
    · exact Or.inl h
    · exact absurd h hst1
    · exact Or.inr h
  -- the score
  obtain ⟨z0, hz0, ez0, ez1⟩ : ∃ z0, z0 < 31 ∧ (hi 31 c = 0 → hi 30 c = sc z0) ∧ (hi 31 c = 0 → (hi 30 c + 15).toNatClampNeg = z0) := by
    by_cases h0 : hi 31 c = 0
    · obtain ⟨sc1, sc2⟩ := hsc h0
      rw [bq3, nI_toInt (by omega)] at sc1 sc2
      obtain ⟨v, hv'⟩ : ∃ v, v = hi 30 c := ⟨_, rfl⟩
      rw [← hv'] at sc1 sc2 ⊢
      have h3 : (v + 15).toInt = v.toInt + 15 := by
        have := Int32.toInt_add v 15
        rw [this]
        show (v.toInt + 15).bmod (2 ^ 32) = v.toInt + 15
        rw [Int.bmod_eq_of_le (by omega) (by omega)]
      have h0' : ¬ v + 15 < 0 := by
        rw [Int32.lt_iff_toInt_lt, h3]
        show ¬ (v.toInt + 15 < 0)
        omega
      obtain ⟨m', hm', em'⟩ := nI_of h0'
      rw [em', nI_toInt hm'] at h3
      refine ⟨m', by omega, fun _ => ?_, fun _ => by rw [em', nI_clamp hm']⟩
      unfold sc
      rw [← em', Int32.add_sub_cancel]
    · exact ⟨0, by decide, fun h => absurd h h0, fun h => absurd h h0⟩
  have eR : wp V hi bb H c n D0 = S2 32 (fun t z => (if hi 31 c = 0 ∧ t = D0 ∧ z = z0 then 1 else 0) * RR V hi bb H c bq n n t z) := by
    unfold wp
    rw [if_neg hst1, ebq]
    rcases hst2 with h | h
    · rw [if_neg (by rw [h]; decide), ez1 h]
      rcases hx with ⟨h1, -⟩ | ⟨h1, -, h2⟩
      · rw [S2_one (t0 := D0) (z0 := z0) (by omega) (by omega) (fun t z _ _ hne => by rw [if_neg (fun q => hne q.2), Nat.zero_mul]), if_pos ⟨h, rfl, rfl⟩, Nat.one_mul]
        unfold RR
        rw [if_neg (by omega)]
      · rw [S2_z (fun t z ht _ => by rw [if_neg (by omega), Nat.zero_mul])]
        cases n with
        | zero => rfl
        | succ n =>
          show Ts _ (vP V) = 0
          rw [h1]
          rfl
    · rw [if_pos h, S2_z (fun t z _ _ => by rw [if_neg (fun q => by rw [h] at q; exact absurd q.1 (by decide)), Nat.zero_mul])]
  refine e_243 (f241 (d := d + 6) (V := V) (D0 := D0) (z0 := z0) (by omega) hb8.2.1 hx e12 e8 hst2 hz0 ez0 (fun x0 hx0 => k_243_6 ?_))
  rw [n3, n4]
  refine lpu (σ := (Nat → Int32) × (Nat → Int32) × (Nat → Int32) × (Nat → Int32) × (Nat → Int32) × (Nat → Int64) × (Nat → Int64) × (Nat → Nat → Nat)) n (fun u z => cW cd_243 (d + 7) Q 9 [some (.ref 279), some (.int (nI c)), some (.int (nI n)), some (.int x3), some (.int (nI u))] [] (mkH (rx hi (nI (H + u)) (nI (min 99 (vAg V + (H + u) / vDy V))) z.1 z.2.1 z.2.2.1 z.2.2.2.1 z.2.2.2.2.1) (lz2 hl z.2.2.2.2.2.1 z.2.2.2.2.2.2.1) sw kp))
    (fun u z => (∀ t, t < 8 → z.1 t = nI (bs V bb H u t)) ∧ (∀ t j, t < 8 → j < 32 → z.2.2.2.2.2.1 (32 * t + j) = lN (z.2.2.2.2.2.2.2 t j)) ∧ (∀ t j, t < 8 → j < 32 → z.2.2.2.2.2.2.2 t j ≠ 0 → t < vP V) ∧ S2 32 (fun t j => z.2.2.2.2.2.2.2 t j * RR V hi bb H c bq n (n - u) t j) = wp V hi bb H c n D0 ∧ S2 32 z.2.2.2.2.2.2.2 ≤ 60 ^ u) ?_ ?_ n 0 (bn, gg, ff, r2, ww, x0, y, fun t z => if hi 31 c = 0 ∧ t = D0 ∧ z = z0 then 1 else 0) (Nat.zero_add n) ⟨fun t ht => by rw [bs_0]; exact hbn t ht, hx0, fun t j ht hj hne => ?_, ?_, ?_⟩
  · intro z ⟨h1, h2, h3, h4, h5⟩
    refine k_243_9 (fun _ => ?_) (fun c => absurd (Int32.le_refl _) c)
    have e46 : (rx hi (nI (H + n)) (nI (min 99 (vAg V + (H + n) / vDy V))) z.1 z.2.1 z.2.2.1 z.2.2.2.1 z.2.2.2.2.1) 279 46 = nI (vP V) := hv.2.2.1.2.1
    refine e_242 (lpu (σ := Unit) (vP V) (fun p _ => cW cd_242 (d + 6) _ 4 [some (.ref 279), some (.long (lN (Ts (fun p => z.2.2.2.2.2.2.2 p 31) p))), none, some (.int (nI p))] [] (mkH (rx hi (nI (H + n)) (nI (min 99 (vAg V + (H + n) / vDy V))) z.1 z.2.1 z.2.2.1 z.2.2.2.1 z.2.2.2.2.1) (lz2 hl z.2.2.2.2.2.1 z.2.2.2.2.2.2.1) sw kp)) (fun _ _ => True) ?_ ?_ (vP V) 0 () (Nat.zero_add _) trivial)
    · intro _ _
      refine k_242_4 (fun _ => k_243_30 ?_) (fun c => absurd (by rw [e46]; exact Int32.le_refl _) c) (fun c => absurd (by rw [e46]; exact Int32.le_refl _) c)
      have eS : Ts (fun p => z.2.2.2.2.2.2.2 p 31) (vP V) = wp V hi bb H c n D0 := by
        rw [← h4, Nat.sub_self]
        unfold S2
        have e5 : ∀ t, t < 8 → Ts (fun j => z.2.2.2.2.2.2.2 t j * RR V hi bb H c bq n 0 t j) 32 = z.2.2.2.2.2.2.2 t 31 := by
          intro t ht
          rw [Ts_one (k := 31) (by decide) (fun j _ hne => by
            have : RR V hi bb H c bq n 0 t j = 0 := by
              unfold RR
              rw [if_neg hne]
              rfl
            rw [this, Nat.mul_zero])]
          have : RR V hi bb H c bq n 0 t 31 = 1 := by
            unfold RR
            rw [if_pos rfl]
          rw [this, Nat.mul_one]
        rw [Ts_eq (q := fun t => Ts (fun j => z.2.2.2.2.2.2.2 t j * RR V hi bb H c bq n 0 t j) 32) (q' := fun t => z.2.2.2.2.2.2.2 t 31) 8 e5]
        exact (Ts_ext hb8.2.1 (fun t t1 t2 => by
          rcases Nat.eq_zero_or_pos (z.2.2.2.2.2.2.2 t 31) with h0 | h0
          · exact h0
          · have := h3 t 31 t2 (by decide) (by omega)
            omega)).symm
      rw [eS]
      exact w' _ _ _ _ _ _ _ _ _
    · intro p _ hp _ ih
      have e5 : (32 : Int32) * nI p + 31 = nI (32 * p + 31) := by
        rw [show (32 : Int32) = nI 32 from rfl, pk_mul]
        exact nI_add _ 31
      refine k_242_4 (fun c => absurd c (by rw [e46]; exact nI_ge hp (by omega))) (fun _ => by rw [e5]; exact vp_in_nI (by omega) (by decide)) (fun _ => ?_)
      have e6 : (lz2 hl z.2.2.2.2.2.1 z.2.2.2.2.2.2.1) 306 (32 * p + 31) = lN (z.2.2.2.2.2.2.2 p 31) := h2 p 31 (by omega) (by decide)
      rw [e5, nI_clamp (by omega), e6, lN_add, nI_1]
      exact ih () trivial
  · intro u z hu ⟨h1, h2, h3, h4, h5⟩ ih
    obtain ⟨k, hk⟩ : ∃ k, n - u = k + 1 := ⟨n - u - 1, by omega⟩
    have hku : n - (k + 1) = u := by omega
    have hk2 : n - (u + 1) = k := by omega
    have hp60 := p60 (n := u) (by omega)
    refine k_243_9 (fun c => absurd c (nI_ge hu (by omega))) (fun _ => f240 (d := d) (u := u) (bb := bb) (X := z.2.2.2.2.2.2.2) hv hpu hc bq1 bq2 bq4 (by omega) rfl rfl h1 (fun t j ht hj => ⟨h2 t j ht hj, by have := S2_mem (F := z.2.2.2.2.2.2.2) ht hj; omega⟩) (fun bn' gg' ff' r2' ww' x' y' X' k1 k2 k3 k4 => k_243_20 ?_))
    rw [nI_1]
    refine ih (bn', gg', ff', r2', ww', x', y', X') ⟨k1, k2, fun t j _ _ hne => k3 t j hne, ?_, ?_⟩
    · show S2 32 (fun t j => X' t j * RR V hi bb H c bq n (n - (u + 1)) t j) = _
      rw [hk2, k4, ← h4, hk]
      unfold S2
      rw [Ts_ext (f := fun t => Ts (fun j => z.2.2.2.2.2.2.2 t j * RR V hi bb H c bq n (k + 1) t j) 32) hb8.2.1 (fun t t1 t2 => Ts_z 32 (fun j hj => by
        rcases Nat.eq_zero_or_pos (z.2.2.2.2.2.2.2 t j) with h0 | h0
        · rw [h0, Nat.zero_mul]
        · have := h3 t j t2 hj (by omega)
          omega))]
      refine Ts_eq _ (fun p hp => Ts_eq _ (fun j hj => ?_))
      have := RR_s (V := V) (hi := hi) (c := c) (b := bq) (H := H) (n := n) (k := k) (bb := bb) hp hj bq2
      rw [hku] at this
      rw [this]
    · show S2 32 X' ≤ 60 ^ (u + 1)
      have e1 := k4 (fun _ _ => 1)
      have e3 : S2 32 (fun t j => X' t j * (fun _ _ => 1) t j) = S2 32 X' := S2_eq (fun t z _ _ => Nat.mul_one _)
      rw [e3] at e1
      rw [e1]
      have e4 : Ts (fun p => Ts (fun j => z.2.2.2.2.2.2.2 p j * Ts (fun q => WY V hi bb H u p q * rv (hrd V H c u) (cnA hi c q) bq (fun _ _ => 1) q j) (vP V)) 32) (vP V) ≤ Ts (fun p => Ts (fun j => z.2.2.2.2.2.2.2 p j * 60) 32) (vP V) := by
        refine Ts_mono _ (fun p hp => Ts_mono _ (fun j _ => Nat.mul_le_mul_left _ ?_))
        have e5 : Ts (WY V hi bb H u p) (vP V) = 60 := wy_all hp
        rw [← e5]
        refine Ts_mono _ (fun q _ => ?_)
        have e6 : rv (hrd V H c u) (cnA hi c q) bq (fun _ _ => 1) q j ≤ 1 := by
          unfold rv
          cases thn (hrd V H c u) (cnA hi c q) bq j
          · exact Nat.zero_le _
          · exact Nat.le_refl _
        have e7 := Nat.mul_le_mul_left (WY V hi bb H u p q) e6
        rw [Nat.mul_one] at e7
        exact e7
      have e8' : Ts (fun p => Ts (fun j => z.2.2.2.2.2.2.2 p j * 60) 32) (vP V) = Ts (fun p => Ts (fun j => z.2.2.2.2.2.2.2 p j) 32) (vP V) * 60 := by
        rw [← Ts_mulr]
        exact Ts_eq _ (fun p _ => Ts_mulr 32)
      have e9 : Ts (fun p => Ts (fun j => z.2.2.2.2.2.2.2 p j) 32) (vP V) ≤ S2 32 z.2.2.2.2.2.2.2 := Ts_le hb8.2.1
      have e10 := Nat.mul_le_mul_right 60 (Nat.le_trans e9 h5)
      rw [Nat.pow_succ]
      omega
  · have hne' : (if hi 31 c = 0 ∧ t = D0 ∧ j = z0 then 1 else 0) ≠ 0 := hne
    by_cases cc : hi 31 c = 0 ∧ t = D0 ∧ j = z0
    · rcases hx with ⟨h1, -⟩ | ⟨-, -, h2⟩ <;> omega
    · rw [if_neg cc] at hne'
      exact absurd rfl hne'
  · show S2 32 (fun t j => (if hi 31 c = 0 ∧ t = D0 ∧ j = z0 then 1 else 0) * RR V hi bb H c bq n (n - 0) t j) = _
    rw [Nat.sub_zero]
    exact eR.symm
  · show S2 32 (fun t z => if hi 31 c = 0 ∧ t = D0 ∧ z = z0 then 1 else 0) ≤ 60 ^ 0
    by_cases cc : hi 31 c = 0 ∧ D0 < 8
    · rw [S2_one (t0 := D0) (z0 := z0) cc.2 (by omega) (fun t z _ _ hne => if_neg (fun q => hne q.2)), if_pos ⟨cc.1, rfl, rfl⟩]
      exact Nat.le_refl 1
    · rw [S2_z (fun t z ht _ => if_neg (fun q => cc ⟨q.1, by omega⟩))]
      exact Nat.zero_le _
/-- the reference's pass from what is now -/
theorem f245 {n H D0 : Nat} {bo : Nat → Nat} {x3 : Int32} (hv : R_vil V hi) (hpu : R_pul hi) (hsn : SN V hi H bo) (hc : c < vC V) (hcs : CSE V hi c) (hn : n ≤ 8) (hx : (D0 < vP V ∧ x3 = nI D0) ∨ (vP V = 0 ∧ x3 = -1 ∧ D0 = 8))
    (w' : ∀ (h' aa' : Int32) (bn' gg' ff' r2' ww' : Nat → Int32) (x' y' : Nat → Int64), Q (some (.long (lN (wp V hi bo H c n D0)))) (mkH (rx hi h' aa' bn' gg' ff' r2' ww') (lz2 hl x' y') sw kp)) (h aa : Int32) (bn gg ff r2 ww : Nat → Int32) : cS (d + 9) 245 [.ref 279, .int (nI c), .int (nI n), .int x3] (mkH (rx hi h aa bn gg ff r2 ww) (lz2 hl x y) sw kp) Q := by
  have hb8 := hv.1
  obtain ⟨n1, n2, n3, n4, n5, n6, n7⟩ := id hsn
  have i12 : (12 : Int32) + nI c = nI (12 + c) := nI_add 12 c
  refine e_245 (f211 (d := d + 7) (fun b' hb' => k_245_4 (by rw [i12]; exact vp_in_nI (by omega) (by decide)) ?_ ?_))
  all_goals
    have eg : g_244 (rx hi (hi 299 17) (hi 299 18) b' gg ff r2 ww) (nI c) = if hi 31 c = 1 then 1 else 0 := by
      unfold g_244
      have : (rx hi (hi 299 17) (hi 299 18) b' gg ff r2 ww) 299 ((12 : Int32) + nI c).toNatClampNeg = hi 31 c := by
        rw [i12, nI_clamp (by omega)]
        exact hcs.2.1
      rw [this]
    rw [eg]
    intro cq
  · have h1 : ¬ hi 31 c = 1 := fun h => by
      rw [if_pos h] at cq
      exact absurd cq (by decide)
    exact f243 (d := d) (bb := bo) (D0 := D0) hv hpu hsn hc hcs h1 hn (fun t ht => by rw [hb' t ht]; exact (n5 t ht).2.2) hx (fun h' aa' bn' gg' ff' r2' ww' x' y' => k_245_26 (w' _ _ _ _ _ _ _ _ _))
  · have h1 : hi 31 c = 1 := by
      by_cases h : hi 31 c = 1
      · exact h
      · rw [if_neg h] at cq
        exact absurd rfl cq
    have e1 : wp V hi bo H c n D0 = 60 ^ n := by
      unfold wp
      rw [if_neg (by rw [h1]; decide), if_pos h1]
    refine f234 (d := d + 7) hn (k_245_16 (k_245_26 ?_))
    have := w' (hi 299 17) (hi 299 18) b' gg ff r2 ww x y
    rw [e1] at this
    exact this
theorem rr_cg {X : Nat → Nat → Int32} {bb : Nat → Nat} {H b n : Nat} (h : ∀ u f t, WY V X bb H u f t = WY V hi bb H u f t) (h2 : ∀ t, cnA X c t = cnA hi c t) : ∀ k f z, rr V X bb H c b n k f z = rr V hi bb H c b n k f z
  | 0, _, _ => rfl
  | k + 1, f, z => by
    refine Ts_eq _ (fun t _ => ?_)
    rw [h, h2, rr_cg h h2 k t z]
    have : rr V X bb H c b n k = rr V hi bb H c b n k := by
      funext f z
      exact rr_cg h h2 k f z
    rw [this]
theorem wp_cx {s o m p w g : Nat → Int32} {bb : Nat → Nat} {H n D0 : Nat} : wp V (cx hi s o m p w g) bb H c n D0 = wp V hi bb H c n D0 := by
  show (if hi 31 c = 2 then 0 else if hi 31 c = 1 then 60 ^ n else rr V (cx hi s o m p w g) bb H c (hi 23 c).toNatClampNeg n n D0 (hi 30 c + 15).toNatClampNeg) = _
  rw [rr_cg (hi := hi) WY_cx (fun _ => rfl)]
  rfl
theorem op_pass (a1 a2 a3 : Int32) : OpJ Rel (d + 12) 137 246 [.int a1, .int a2, .int a3] := by
  intro hi hl sw kp Q hR k
  obtain ⟨V, st, hk, hs, ha, hx⟩ := hR.sp
  have hv := st.2.2.2.2.2.1
  have hpu := st.2.2.2.2.2.2
  have hb8 := hv.1
  have bad : (g_109 hi a1 = 0 ∧ g_209 hi a1 = 0) ∨ (¬ g_109 hi a1 = 0 ∧ ¬ g_209 hi a1 = 0 ∧ (g_158 a2 (0 : Int32) (8 : Int32) = 0 ∨ (¬ g_158 a2 (0 : Int32) (8 : Int32) = 0 ∧ g_158 a3 (0 : Int32) (1 : Int32) = 0))) → cS (d + 12) 137 [.ref 0, .int a1, .int a2, .int a3] (mkH hi hl sw kp) Q := by
    intro h
    have fin : Q (some (.long (-1))) (mkH hi hl sw kp) := by
      refine k (-1) hi hl sw kp (fun Q2 k2 => ?_)
      have k3 := k2 hi hl sw kp hR
      rcases h with ⟨-, h2⟩ | ⟨-, h2, h3 | ⟨h3, h4⟩⟩
      · exact e_246 (fun _ => k3) (fun c => absurd h2 c) (fun c => absurd h2 c) (fun c => absurd h2 c)
      · exact e_246 (fun _ => k3) (fun _ _ => k3) (fun _ c => absurd h3 c) (fun _ c => absurd h3 c)
      · exact e_246 (fun _ => k3) (fun _ _ => k3) (fun _ _ _ => k3) (fun _ _ c => absurd h4 c)
    rcases h with ⟨h1, -⟩ | ⟨h1, -, h3 | ⟨h3, h4⟩⟩
    · exact e_137 (fun _ => fin) (fun c => absurd h1 c) (fun c => absurd h1 c) (fun c => absurd h1 c)
    · exact e_137 (fun _ => fin) (fun _ _ => fin) (fun _ c => absurd h3 c) (fun _ c => absurd h3 c)
    · exact e_137 (fun _ => fin) (fun _ _ => fin) (fun _ _ _ => fin) (fun _ _ c => absurd h4 c)
  rcases cas hv a1 with ⟨c, hc, rfl, q1, q2⟩ | ⟨-, q1, q2⟩
  · have z1 : ¬ g_109 hi (nI c) = 0 := by rw [q1]; decide
    have z2 : ¬ g_209 hi (nI c) = 0 := by rw [q2]; decide
    rcases rg8 a2 with ⟨n, hn, rfl, c8⟩ | c8
    · by_cases c1 : g_158 a3 (0 : Int32) (1 : Int32) = 0
      · exact bad (Or.inr ⟨z1, z2, Or.inr ⟨c8, c1⟩⟩)
      · obtain ⟨H, bo, hsn⟩ := SN.of hs
        obtain ⟨n1, n2, n3, n4, n5, n6, n7⟩ := id hsn
        obtain ⟨D0, B, hdg, d1, d2⟩ := DG.of hv hsn
        have hcs := CSE.of hv hs hc
        have h60 := p60 hn
        have hpos : 0 < 60 ^ n := Nat.pow_pos (by decide)
        have hwl : wp V hi bo H c n D0 ≤ 60 ^ n := wp_le (by rcases hdg with ⟨h, -⟩ | ⟨h, -⟩; exact Or.inl h; exact Or.inr h)
        have hx3 : (D0 < vP V ∧ hi 28 0 = nI D0) ∨ (vP V = 0 ∧ hi 28 0 = -1 ∧ D0 = 8) := by
          rcases hdg with ⟨h1, h2, -⟩ | ⟨h1, h2, h3, -⟩
          · exact Or.inl ⟨h1, h2⟩
          · exact Or.inr ⟨h1, h2, h3⟩
        refine e_137 (fun c => absurd c z1) (fun _ c => absurd c c8) (fun _ _ c => absurd c c1) (fun _ _ _ => ?_)
        rw [d1]
        refine cS.hi cx_id.symm (cS.hl lx_id.symm (f37 (d := d + 5) (N := n) hv hpu hsn d2 hn (fun s' m' p' v hm' hcw => k_137_49 (f50 (d := d + 8) hv hc (fun g1 o1 hA1 => k_137_57 ?_)))))
        refine f49 (d := d + 6) (D0 := D0) (B := B) (oc := B) (bb := bo) (H := H) (N := n) hv hc hn (Nat.le_refl n) n1 n2 hcs.2.2.1 hcs.2.2.2 hdg (fun h => by
          rcases hdg with ⟨h1, h2, rfl⟩ | ⟨h1, -⟩
          · exact dogN (by omega)
          · omega) hcw hA1 (fun sw' o' g' a' b' _ => k_137_72 (vp_in_nI (by omega) (by decide)) ?_)
        rw [nI_clamp (by omega), pw60 hn]
        refine f160 (d := d + 9) (by omega) hpos (by omega) (k_137_81 ?_)
        refine k _ _ _ sw' kp (fun Q2 k2 => e_246 (fun c => absurd c z2) (fun _ c => absurd c c8) (fun _ _ c => absurd c c1) (fun _ _ _ => ?_))
        have e16 : (cx hi s' o' m' p' v g') 299 16 = hi 28 0 := n6
        rw [e16]
        refine cS.hi rx_id.symm (cS.hl lz_id.symm (f245 (d := d + 2) (V := V) (hi := cx hi s' o' m' p' v g') (D0 := D0) (bo := bo) (H := H) (n := n) hv hpu hsn hc hcs hn hx3 (fun h' aa' bn' gg' ff' r2' ww' x' y' => k_246_40 ?_) _ _ _ _ _ _ _))
        rw [wp_cx]
        refine f234 (d := d + 10) hn (k_246_44 (f236 (d := d + 9) (by omega) hpos (by omega) (k_246_48 ?_)))
        exact k2 _ _ sw' kp (hR.fr (fr_tr (rx_fr (hi := cx hi s' o' m' p' v g')) cx_fr) rfl)
    · exact bad (Or.inr ⟨z1, z2, Or.inl c8⟩)
  · exact bad (Or.inl ⟨q1, q2⟩)
theorem pw_n {n : Nat} (hn : n ≤ 8) : ¬ g_158 (nI n) (0 : Int32) (8 : Int32) = 0 := by
  unfold g_158
  rw [if_neg (nI_pos (by omega)), if_neg (show ¬ (8 : Int32) < nI n from nI_nlt (a := 8) (by omega) (by decide))]
  decide
theorem g159 {w n : Nat} (hn : n ≤ 8) (hw : w ≤ 60 ^ n) : g_159 (lN w) (nI n) = if 2 * w ≤ 60 ^ n then 0 else 1 := by
  have h60 := p60 hn
  unfold g_159
  rw [if_neg (pw_n hn), nI_clamp (by omega), pw60 hn, show (2 : Int64) = lN 2 from rfl, lN_mul]
  by_cases cc : 2 * w ≤ 60 ^ n
  · rw [if_pos ((lgc (by omega) (by omega)).mpr cc), if_pos cc]
  · rw [if_neg (fun q => cc ((lgc (by omega) (by omega)).mp q)), if_neg cc]
theorem f247 {w n : Nat} (hn : n ≤ 8) (hw : w ≤ 60 ^ n) (w' : Q (some (.int (if 2 * w ≤ 60 ^ n then 0 else 1))) (mkH hi hl sw kp)) : cS (d + 2) 247 [.long (lN w), .int (nI n)] (mkH hi hl sw kp) Q := by
  have h60 := p60 hn
  refine e_247 (f234 (d := d) hn ?_)
  rw [show (2 : Int64) = lN 2 from rfl, lN_mul]
  refine k_247_9 (fun c => ?_) (fun c => ?_)
  · rw [if_pos ((lgc (by omega) (by omega)).mp c)] at w'
    exact w'
  · rw [if_neg (fun q => c ((lgc (by omega) (by omega)).mpr q))] at w'
    exact w'
/-- the first of so many that is -/
def gsn (P : Nat → Nat) : Nat → Nat → Int32
  | 0, _ => -1
  | m + 1, i => if 2 * P i ≤ 60 ^ i then gsn P m (i + 1) else nI i
theorem op_soon (a1 : Int32) : OpI Rel (d + 12) 139 248 [.int a1] := by
  intro hi hl sw kp Q hR k
  obtain ⟨V, st, hk, hs, ha, hx⟩ := hR.sp
  have hv := st.2.2.2.2.2.1
  have hpu := st.2.2.2.2.2.2
  have hb8 := hv.1
  rcases cas hv a1 with ⟨c, hc, rfl, q1, q2⟩ | ⟨-, q1, q2⟩
  · have z1 : ¬ g_109 hi (nI c) = 0 := by rw [q1]; decide
    have z2 : ¬ g_209 hi (nI c) = 0 := by rw [q2]; decide
    obtain ⟨H, bo, hsn⟩ := SN.of hs
    obtain ⟨n1, n2, n3, n4, n5, n6, n7⟩ := id hsn
    obtain ⟨D0, B, hdg, d1, d2⟩ := DG.of hv hsn
    have hcs := CSE.of hv hs hc
    have hDP : D0 < vP V ∨ vP V = 0 := by
      rcases hdg with ⟨h, -⟩ | ⟨h, -⟩
      · exact Or.inl h
      · exact Or.inr h
    have hwl : ∀ n, wp V hi bo H c n D0 ≤ 60 ^ n := fun n => wp_le hDP
    have hx3 : (D0 < vP V ∧ hi 28 0 = nI D0) ∨ (vP V = 0 ∧ hi 28 0 = -1 ∧ D0 = 8) := by
      rcases hdg with ⟨h1, h2, -⟩ | ⟨h1, h2, h3, -⟩
      · exact Or.inl ⟨h1, h2⟩
      · exact Or.inr ⟨h1, h2, h3⟩
    have hB0 : D0 < vP V → NR V hi B 0 D0 := fun h => by
      rcases hdg with ⟨h1, h2, rfl⟩ | ⟨h1, -⟩
      · exact dogN (by omega)
      · omega
    refine e_139 (fun c => absurd c z1) (fun _ => ?_)
    rw [d1]
    refine cS.hi cx_id.symm (cS.hl lx_id.symm (f37 (d := d + 5) (N := 8) hv hpu hsn d2 (by decide) (fun s' m' p' v hm' hcw => k_139_29 ?_)))
    -- the reference
    have mid : ∀ (sw' : Bool) (o' g' : Nat → Int32) (a' b' : Nat → Int64), Q (some (.int (gsn (fun n => wp V hi bo H c n D0) 9 0))) (mkH (cx hi s' o' m' p' v g') (lx hl a' b') sw' kp) := by
      intro sw' o' g' a' b'
      refine k _ _ _ sw' kp (fun Q2 k2 => e_248 (fun c => absurd c z2) (fun _ => ?_))
      have lp : ∀ m i, i + m = 9 → ∀ (h aa : Int32) (bn gg ff r2 ww : Nat → Int32) (x y : Nat → Int64), (∀ (h aa : Int32) (bn gg ff r2 ww : Nat → Int32) (x y : Nat → Int64), Q2 (some (.int (gsn (fun n => wp V hi bo H c n D0) m i))) (mkH (rx (cx hi s' o' m' p' v g') h aa bn gg ff r2 ww) (lz2 (lx hl a' b') x y) sw' kp)) → cW cd_248 (d + 11) Q2 12 [some (.ref 279), some (.int (nI c)), some (.int (nI i))] [] (mkH (rx (cx hi s' o' m' p' v g') h aa bn gg ff r2 ww) (lz2 (lx hl a' b') x y) sw' kp) := by
        intro m
        induction m with
        | zero =>
          intro i hi9 h aa bn gg ff r2 ww x y w
          have : i = 9 := by omega
          subst this
          exact k_248_12 (fun _ => w _ _ _ _ _ _ _ _ _) (fun c => absurd (by decide) c)
        | succ m ih =>
          intro i hi9 h aa bn gg ff r2 ww x y w
          refine k_248_12 (fun c => absurd c (nI_nlt (a := 8) (by omega) (by decide))) (fun _ => ?_)
          have e16 : (rx (cx hi s' o' m' p' v g') h aa bn gg ff r2 ww) 299 16 = hi 28 0 := n6
          rw [e16]
          refine f245 (d := d + 2) (V := V) (hi := cx hi s' o' m' p' v g') (D0 := D0) (bo := bo) (H := H) (n := i) hv hpu hsn hc hcs (by omega) hx3 (fun h' aa' bn' gg' ff' r2' ww' x' y' => k_248_31 ?_) _ _ _ _ _ _ _
          rw [wp_cx]
          refine f247 (d := d + 9) (by omega) (hwl i) (k_248_35 (fun cq => ?_) (fun cq => ?_))
          · rw [nI_1]
            refine ih (i + 1) (by omega) _ _ _ _ _ _ _ _ _ (fun h aa bn gg ff r2 ww x y => ?_)
            have w2 : Q2 (some (.int (if 2 * wp V hi bo H c i D0 ≤ 60 ^ i then gsn (fun n => wp V hi bo H c n D0) m (i + 1) else nI i))) (mkH (rx (cx hi s' o' m' p' v g') h aa bn gg ff r2 ww) (lz2 (lx hl a' b') x y) sw' kp) := w _ _ _ _ _ _ _ _ _
            by_cases cc : 2 * wp V hi bo H c i D0 ≤ 60 ^ i
            · rw [if_pos cc] at w2
              exact w2
            · rw [if_neg cc] at cq
              exact absurd cq (by decide)
          · have w2 : Q2 (some (.int (if 2 * wp V hi bo H c i D0 ≤ 60 ^ i then gsn (fun n => wp V hi bo H c n D0) m (i + 1) else nI i))) (mkH (rx (cx hi s' o' m' p' v g') h' aa' bn' gg' ff' r2' ww') (lz2 (lx hl a' b') x' y') sw' kp) := w _ _ _ _ _ _ _ _ _
            by_cases cc : 2 * wp V hi bo H c i D0 ≤ 60 ^ i
            · rw [if_pos cc] at cq
              exact absurd rfl cq
            · rw [if_neg cc] at w2
              exact w2
      refine cW.hi rx_id.symm (cW.hl lz_id.symm (lp 9 0 rfl _ _ _ _ _ _ _ _ _ (fun h aa bn gg ff r2 ww x y => ?_)))
      exact k2 _ _ sw' kp (hR.fr (fr_tr (rx_fr (hi := cx hi s' o' m' p' v g')) cx_fr) rfl)
    -- the class
    have lp : ∀ m i, i + m = 9 → ∀ (sw' : Bool) (o' g' : Nat → Int32) (a' b' : Nat → Int64), AIM V hi c o' g' → (∀ (sw' : Bool) (o' g' : Nat → Int32) (a' b' : Nat → Int64), Q (some (.int (gsn (fun n => wp V hi bo H c n D0) m i))) (mkH (cx hi s' o' m' p' v g') (lx hl a' b') sw' kp)) → cW cd_139 (d + 11) Q 39 [some (.ref 0), some (.int (nI c)), some (.int (nI i))] [] (mkH (cx hi s' o' m' p' v g') (lx hl a' b') sw' kp) := by
      intro m
      induction m with
      | zero =>
        intro i hi9 sw' o' g' a' b' hA w
        have : i = 9 := by omega
        subst this
        exact k_139_39 (fun _ => w _ _ _ _ _) (fun c => absurd (by decide) c)
      | succ m ih =>
        intro i hi9 sw' o' g' a' b' hA w
        refine k_139_39 (fun c => absurd c (nI_nlt (a := 8) (by omega) (by decide))) (fun _ => ?_)
        refine f49 (d := d + 6) (D0 := D0) (B := B) (oc := B) (bb := bo) (H := H) (N := 8) (n := i) hv hc (by omega) (by omega) n1 n2 hcs.2.2.1 hcs.2.2.2 hdg hB0 hcw hA (fun sw2 o2 g2 a2 b2 hA2 => ?_)
        have hg := g159 (w := wp V hi bo H c i D0) (show i ≤ 8 by omega) (hwl i)
        refine k_139_60 (fun _ => vp_in_nI (by omega) (by decide)) (fun cq => ?_) (fun cq => ?_)
        · rw [nI_1]
          refine ih (i + 1) (by omega) _ _ _ _ _ hA2 (fun sw' o' g' a' b' => ?_)
          have w2 : Q (some (.int (if 2 * wp V hi bo H c i D0 ≤ 60 ^ i then gsn (fun n => wp V hi bo H c n D0) m (i + 1) else nI i))) (mkH (cx hi s' o' m' p' v g') (lx hl a' b') sw' kp) := w _ _ _ _ _
          rw [hg] at cq
          by_cases cc : 2 * wp V hi bo H c i D0 ≤ 60 ^ i
          · rw [if_pos cc] at w2
            exact w2
          · rw [if_neg cc] at cq
            exact absurd cq (by decide)
        · have w2 : Q (some (.int (if 2 * wp V hi bo H c i D0 ≤ 60 ^ i then gsn (fun n => wp V hi bo H c n D0) m (i + 1) else nI i))) (mkH (cx hi s' o2 m' p' v g2) (lx hl a2 b2) sw2 kp) := w _ _ _ _ _
          rw [hg] at cq
          by_cases cc : 2 * wp V hi bo H c i D0 ≤ 60 ^ i
          · rw [if_pos cc] at cq
            exact absurd rfl cq
          · rw [if_neg cc] at w2
            exact w2
    exact f50 (d := d + 8) hv hc (fun g1 o1 hA1 => k_139_37 (lp 9 0 rfl sw o1 g1 _ _ hA1 mid))
  · exact e_139 (fun _ => k (-1) hi hl sw kp (fun Q2 k2 => e_248 (fun _ => k2 hi hl sw kp hR) (fun c => absurd q2 c))) (fun c => absurd q1 c)
/-- places as bits -/
def cbt (P : Nat → Nat) (n : Nat) : Nat → Nat
  | 0 => 0
  | i + 1 => if 2 * P i ≤ 60 ^ n then cbt P n i else cbt P n i ||| 2 ^ i
theorem cbt_lt {P : Nat → Nat} {n : Nat} : ∀ i, i ≤ 8 → cbt P n i < 256
  | 0, _ => (show (0 : Nat) < 256 from by decide)
  | i + 1, h => by
    have := cbt_lt (P := P) (n := n) i (by omega)
    show (if 2 * P i ≤ 60 ^ n then cbt P n i else cbt P n i ||| 2 ^ i) < 256
    by_cases cc : 2 * P i ≤ 60 ^ n
    · rw [if_pos cc]; exact this
    · rw [if_neg cc]; exact or_lt8 this (pw_bit i (by omega) i (by omega)).2
theorem b255 : ∀ p, p < 8 → 255 / 2 ^ p % 2 = 1 := by decide
theorem op_council (a1 a2 : Int32) : OpI Rel (d + 12) 143 258 [.int a1, .int a2] := by
  intro hi hl sw kp Q hR k
  obtain ⟨V, st, hk, hs, ha, hx⟩ := hR.sp
  have hv := st.2.2.2.2.2.1
  have hpu := st.2.2.2.2.2.2
  have hb8 := hv.1
  rcases cas hv a1 with ⟨c, hc, rfl, q1, q2⟩ | ⟨-, q1, q2⟩
  · have z1 : ¬ g_109 hi (nI c) = 0 := by rw [q1]; decide
    have z2 : ¬ g_209 hi (nI c) = 0 := by rw [q2]; decide
    rcases rg8 a2 with ⟨n, hn, rfl, c8⟩ | c8
    · obtain ⟨H, bo, hsn⟩ := SN.of hs
      obtain ⟨n1, n2, n3, n4, n5, n6, n7⟩ := id hsn
      have hcs := CSE.of hv hs hc
      have hwl : ∀ t, t < vP V → wp V hi bo H c n t ≤ 60 ^ n := fun t ht => wp_le (Or.inl ht)
      refine e_143 (fun c => absurd c z1) (fun _ c => absurd c c8) (fun _ _ => ?_)
      refine cS.hi cx_id.symm (cS.hl lx_id.symm (f37 (d := d + 5) (B := 255) (N := n) hv hpu hsn (by decide) hn (fun s' m' p' v hm' hcw => k_143_34 (f50 (d := d + 8) hv hc (fun g1 o1 hA1 => k_143_42 ?_)))))
      have e19 : ∀ o' g', (cx hi s' o' m' p' v g') 19 1 = nI (vP V) := fun o' g' => hv.2.1.2.1
      refine lpu (σ := Bool × (Nat → Int32) × (Nat → Int32) × (Nat → Int64) × (Nat → Int64)) (vP V) (fun i z => cW cd_143 (d + 11) Q 47 [some (.ref 0), some (.int (nI c)), some (.int (nI n)), some (.int (nI (cbt (fun t => wp V hi bo H c n t) n i))), some (.int (nI i))] [] (mkH (cx hi s' z.2.1 m' p' v z.2.2.1) (lx hl z.2.2.2.1 z.2.2.2.2) z.1 kp)) (fun _ z => AIM V hi c z.2.1 z.2.2.1) ?_ ?_ (vP V) 0 (sw, o1, g1, hl 261, hl 262) (Nat.zero_add _) hA1
      · intro z _
        refine k_143_47 (fun _ => ?_) (fun c => absurd (by rw [e19]; exact Int32.le_refl _) c)
        refine k _ _ _ z.1 kp (fun Q2 k2 => e_258 (fun c => absurd c z2) (fun _ c => absurd c c8) (fun _ _ => ?_))
        refine cW.hi rx_id.symm (cW.hl lz_id.symm (lpu (σ := Int32 × Int32 × (Nat → Int32) × (Nat → Int32) × (Nat → Int32) × (Nat → Int32) × (Nat → Int32) × (Nat → Int64) × (Nat → Int64)) (vP V) (fun i y => cW cd_258 (d + 11) Q2 25 [some (.ref 279), some (.int (nI c)), some (.int (nI n)), some (.int (nI (cbt (fun t => wp V hi bo H c n t) n i))), some (.int (nI i))] [] (mkH (rx (cx hi s' z.2.1 m' p' v z.2.2.1) y.1 y.2.1 y.2.2.1 y.2.2.2.1 y.2.2.2.2.1 y.2.2.2.2.2.1 y.2.2.2.2.2.2.1) (lz2 (lx hl z.2.2.2.1 z.2.2.2.2) y.2.2.2.2.2.2.2.1 y.2.2.2.2.2.2.2.2) z.1 kp)) (fun _ _ => True) ?_ ?_ (vP V) 0 (_, _, _, _, _, _, _, _, _) (Nat.zero_add _) trivial))
        · intro y _
          have e46 : (rx (cx hi s' z.2.1 m' p' v z.2.2.1) y.1 y.2.1 y.2.2.1 y.2.2.2.1 y.2.2.2.2.1 y.2.2.2.2.2.1 y.2.2.2.2.2.2.1) 279 46 = nI (vP V) := hv.2.2.1.2.1
          exact k_258_25 (fun _ => k2 _ _ z.1 kp (hR.fr (fr_tr (rx_fr (hi := cx hi s' z.2.1 m' p' v z.2.2.1)) cx_fr) rfl)) (fun c => absurd (by rw [e46]; exact Int32.le_refl _) c)
        · intro i y hiP _ ih
          have e46 : (rx (cx hi s' z.2.1 m' p' v z.2.2.1) y.1 y.2.1 y.2.2.1 y.2.2.2.1 y.2.2.2.2.1 y.2.2.2.2.2.1 y.2.2.2.2.2.2.1) 279 46 = nI (vP V) := hv.2.2.1.2.1
          refine k_258_25 (fun c => absurd c (by rw [e46]; exact nI_ge hiP (by omega))) (fun _ => ?_)
          refine f245 (d := d + 2) (V := V) (hi := cx hi s' z.2.1 m' p' v z.2.2.1) (D0 := i) (bo := bo) (H := H) (n := n) hv hpu hsn hc hcs hn (Or.inl ⟨hiP, rfl⟩) (fun h' aa' bn' gg' ff' r2' ww' x' y' => k_258_43 ?_) _ _ _ _ _ _ _
          rw [wp_cx]
          refine f247 (d := d + 9) hn (hwl i hiP) (k_258_47 ?_)
          have ih' := ih (h', aa', bn', gg', ff', r2', ww', x', y') trivial
          have eb : nI (cbt (fun t => wp V hi bo H c n t) n i) ||| (g_194 (if 2 * wp V hi bo H c n i ≤ 60 ^ n then 0 else 1) <<< (nI i &&& 31)) = nI (cbt (fun t => wp V hi bo H c n t) n (i + 1)) := by
            show _ = nI (if 2 * wp V hi bo H c n i ≤ 60 ^ n then cbt (fun t => wp V hi bo H c n t) n i else cbt (fun t => wp V hi bo H c n t) n i ||| 2 ^ i)
            by_cases cc : 2 * wp V hi bo H c n i ≤ 60 ^ n
            · rw [if_pos cc, if_pos cc]
              have e0 : ∀ j, j < 8 → (g_194 (0 : Int32) <<< (nI j &&& 31)) = nI 0 := by decide +kernel
              rw [e0 i (by omega), fa_or, Nat.or_zero]
            · rw [if_neg cc, if_neg cc]
              have e0 : g_194 (1 : Int32) = 1 := rfl
              rw [e0, (sh8 i (by omega)).2, fa_or]
          rw [eb, nI_1]
          exact ih'
      · intro i z hiP hAz ih
        refine k_143_47 (fun c => absurd c (by rw [e19]; exact nI_ge hiP (by omega))) (fun _ => ?_)
        refine f49 (d := d + 6) (D0 := i) (B := 255) (oc := 2 ^ i) (bb := bo) (H := H) (N := n) (n := n) hv hc hn (Nat.le_refl n) n1 n2 hcs.2.2.1 hcs.2.2.2 (Or.inl ⟨hiP, rfl, rfl⟩) (fun _ => b255 i (by omega)) hcw hAz (fun sw2 o2 g2 a2 b2 hA2 => ?_)
        have hg := g159 (w := wp V hi bo H c n i) hn (hwl i hiP)
        have ih' := ih (sw2, o2, g2, a2, b2) hA2
        have ec : cbt (fun t => wp V hi bo H c n t) n (i + 1) = if 2 * wp V hi bo H c n i ≤ 60 ^ n then cbt (fun t => wp V hi bo H c n t) n i else cbt (fun t => wp V hi bo H c n t) n i ||| 2 ^ i := rfl
        rw [ec] at ih'
        refine k_143_69 (fun _ => vp_in_nI (by omega) (by decide)) (fun cq => ?_) (fun cq => ?_)
        · rw [hg] at cq
          by_cases cc : 2 * wp V hi bo H c n i ≤ 60 ^ n
          · rw [if_pos cc] at ih'
            rw [nI_1]
            exact ih'
          · rw [if_neg cc] at cq
            exact absurd cq (by decide)
        · rw [hg] at cq
          by_cases cc : 2 * wp V hi bo H c n i ≤ 60 ^ n
          · rw [if_pos cc] at cq
            exact absurd rfl cq
          · rw [if_neg cc] at ih'
            rw [(sh8 i (by omega)).2, fa_or, nI_1]
            exact ih'
    · exact e_143 (fun c => absurd c z1) (fun _ _ => k (-1) hi hl sw kp (fun Q2 k2 => e_258 (fun c => absurd c z2) (fun _ _ => k2 hi hl sw kp hR) (fun _ c => absurd c8 c))) (fun _ c => absurd c8 c)
  · exact e_143 (fun _ => k (-1) hi hl sw kp (fun Q2 k2 => e_258 (fun _ => k2 hi hl sw kp hR) (fun c => absurd q2 c) (fun c => absurd q2 c))) (fun c => absurd q1 c) (fun c => absurd q1 c)
end OPSF
