/-! ===== operations: place, draws ===== -/
section OPSD
variable {d : Nat} {Q : am_Q} {hi : Nat → Nat → Int32} {hl : Nat → Nat → Int64} {sw : Bool} {kp : Nat → Nat} {V : vN}
theorem rx_fr {h a : Int32} {b g f r w : Nat → Int32} : ∀ c j, NS c j ∨ ND c j → rx hi h a b g f r w c j = hi c j := by
  intro c j q
  have n : c ≠ 302 ∧ c ≠ 301 ∧ c ≠ 287 ∧ c ≠ 288 ∧ c ≠ 300 ∧ ¬ (c = 279 ∧ j = 62) ∧ ¬ (c = 279 ∧ j = 61) := by
    unfold NS ND at q
    omega
  show uR (uR (uR (uR (uR (u2 (u2 hi 279 61 h) 279 62 a) 300 b) 288 g) 287 f) 301 r) 302 w c j = _
  rw [uR_ne n.1, uR_ne n.2.1, uR_ne n.2.2.1, uR_ne n.2.2.2.1, uR_ne n.2.2.2.2.1, u2_nn n.2.2.2.2.2.1, u2_nn n.2.2.2.2.2.2]
theorem cx_fr {s o m p w g : Nat → Int32} : ∀ c j, NS c j ∨ ND c j → cx hi s o m p w g c j = hi c j := by
  intro c j q
  have n : c ≠ 260 ∧ c ≠ 259 ∧ c ≠ 258 ∧ c ≠ 257 ∧ c ≠ 256 ∧ c ≠ 27 := by
    unfold NS ND at q
    omega
  show uR (uR (uR (uR (uR (uR hi 27 s) 256 o) 257 m) 258 p) 259 w) 260 g c j = _
  rw [uR_ne n.1, uR_ne n.2.1, uR_ne n.2.2.1, uR_ne n.2.2.2.1, uR_ne n.2.2.2.2.1, uR_ne n.2.2.2.2.2]
theorem s27_fr {s : Nat → Int32} : ∀ c j, NS c j ∨ ND c j → uR hi 27 s c j = hi c j := by
  intro c j q
  have n : c ≠ 27 := by
    unfold NS ND at q
    omega
  rw [uR_ne n]
theorem fr_tr {h1 h2 h3 : Nat → Nat → Int32} (a : ∀ c j, NS c j ∨ ND c j → h3 c j = h2 c j) (b : ∀ c j, NS c j ∨ ND c j → h2 c j = h1 c j) : ∀ c j, NS c j ∨ ND c j → h3 c j = h1 c j := fun c j q => (a c j q).trans (b c j q)
theorem f211' (w' : ∀ b' : Nat → Int32, (∀ p, p < 8 → b' p = hi 299 p) → Q none (mkH (rx hi (hi 299 17) (hi 299 18) b' (hi 288) (hi 287) (hi 301) (hi 302)) hl sw kp)) : cS (d + 1) 211 [.ref 279] (mkH hi hl sw kp) Q := cS.hi rx_id.symm (f211 w')
theorem op_place (a1 a2 : Int32) : OpI Rel (d + 6) 127 219 [.int a1, .int a2] := by
  intro hi hl sw kp Q hR k
  obtain ⟨V, st, hk, hs, ha, hx⟩ := hR.sp
  have hv := st.2.2.2.2.2.1
  have hpu := st.2.2.2.2.2.2
  have hb8 := hv.1
  rcases plc hv a1 with ⟨p, hp, rfl, q1, q2⟩ | ⟨-, q1, q2⟩
  · obtain ⟨H, s1, s2, s3, s4, s5, s6, s7, s8, s9, s10, s11, s12⟩ := id hs
    obtain ⟨b, b1, b2, b3⟩ := s9 p (by omega)
    have ep : (nI p).toNatClampNeg = p := nI_clamp (by omega)
    have z1 : ¬ g_108 hi (nI p) = 0 := by rw [q1]; decide
    have z2 : ¬ g_208 hi (nI p) = 0 := by rw [q2]; decide
    have vp : vp_in (nI p) 8 := vp_in_nI (by omega) (by decide)
    have e28 : hi 28 1 = nI H := s2
    have e29 : hi 29 p = nI b := b2
    -- the reference where what is no 4
    have ref : ∀ (v : Int32), ¬ a2 = 4 → (a2 = 0 → v = hi 294 p) → (a2 = 1 → v = nI b) → (a2 = 2 → v = hi 295 p) → (a2 = 3 → v = hi 296 p) → (¬ a2 = 0 → ¬ a2 = 1 → ¬ a2 = 2 → ¬ a2 = 3 → v = -1) → Q (some (.int v)) (mkH hi hl sw kp) := by
      intro v n4 v0 v1 v2 v3 v5
      refine k v hi hl sw kp (fun Q2 k2 => e_219 (fun c => absurd c z2) (fun _ => f211' (d := d + 4) (fun b' hb' => ?_)))
      have fin := k2 _ hl sw kp (hR.fr (rx_fr (hi := hi) (h := hi 299 17) (a := hi 299 18) (b := b') (g := hi 288) (f := hi 287) (r := hi 301) (w := hi 302)) rfl)
      refine k_219_14 (fun _ => vp) (fun c => ?_) (fun _ _ => vp) (fun _ c => ?_) (fun _ _ _ => vp) (fun _ _ c => ?_) (fun _ _ _ _ => vp) (fun _ _ _ c => ?_) (fun _ _ _ _ c => absurd c n4) (fun _ _ _ _ c => absurd c n4) (fun c0 c1 c2 c3 _ => ?_)
      · rw [ep]
        rw [v0 c] at fin
        exact fin
      · rw [ep]
        have : (rx hi (hi 299 17) (hi 299 18) b' (hi 288) (hi 287) (hi 301) (hi 302)) 300 p = nI b := (hb' p (by omega)).trans b3
        rw [this]
        rw [v1 c] at fin
        exact fin
      · rw [ep]
        rw [v2 c] at fin
        exact fin
      · rw [ep]
        rw [v3 c] at fin
        exact fin
      · rw [v5 c0 c1 c2 c3] at fin
        exact fin
    have e20 := (hv.2.2.2.1 p hp).1
    have e21 : hi 21 p = hi 295 p := by
      obtain ⟨e, -, x1, x2⟩ := (hv.2.2.2.1 p hp).2.1
      rw [x1, x2]
    have e22 : hi 22 p = hi 296 p := by
      obtain ⟨e, -, x1, x2⟩ := (hv.2.2.2.1 p hp).2.2
      rw [x1, x2]
    by_cases h4 : a2 = 4
    · subst h4
      -- both pulls
      have call : ∀ e : Nat, e = 0 ∨ e = 1 → (e = 1 ↔ hi 28 0 = nI p) → cS (d + 5) 121 [.ref 19, .int (nI p), .int (nI b), .int (nI H), .int (nI e)] (mkH hi hl sw kp) (am_ret (cW cd_127 (d + 5) Q) 128 [some (.ref 0), some (.int (nI p)), some (.int 4)] []) := by
        intro e he hed
        refine f121 (d := d + 1) hv hpu hp (by omega) (fun f1 => k_127_128 ?_)
        refine k _ _ hl sw kp (fun Q2 k2 => e_219 (fun c => absurd c z2) (fun _ => f211' (d := d + 4) (fun b' hb' => ?_)))
        have call2 : cS (d + 5) 213 [.ref 279, .int (nI p), .int (nI e)] (mkH (rx (uR hi 27 f1) (hi 299 17) (hi 299 18) b' (hi 288) (hi 287) (hi 301) (hi 302)) hl sw kp) (am_ret (cW cd_219 (d + 5) Q2) 97 [some (.ref 279), some (.int (nI p)), some (.int 4)] []) := by
          refine f213 (d := d + 1) (V := V) (h := H) (b := b) (hi := rx (uR hi 27 f1) (hi 299 17) (hi 299 18) b' (hi 288) (hi 287) (hi 301) (hi 302)) hv hpu hp (by omega) s3 s8 ((hb' p (by omega)).trans b3) he (fun f2 g2 => k_219_97 ?_)
          refine qhi rx_gf ?_
          exact k2 _ hl sw kp (hR.fr (fr_tr (rx_fr (hi := uR hi 27 f1)) s27_fr) rfl)
        refine k_219_14 (fun c => absurd c (by decide)) (fun c => absurd c (by decide)) (fun _ c => absurd c (by decide)) (fun _ c => absurd c (by decide)) (fun _ _ c => absurd c (by decide)) (fun _ _ c => absurd c (by decide)) (fun _ _ _ c => absurd c (by decide)) (fun _ _ _ c => absurd c (by decide)) (fun _ _ _ _ _ c => ?_) (fun _ _ _ _ _ c => ?_) (fun _ _ _ _ c => absurd rfl c)
        · have c' : hi 28 0 = nI p := s4.symm.trans c
          have : e = 1 := hed.mpr c'
          subst this
          exact call2
        · have : e = 0 := by
            rcases he with z | z
            · exact z
            · exact absurd (s4.trans (hed.mp z)) c
          subst this
          exact call2
      refine e_127 (fun c => absurd c z1) (fun _ c => absurd c (by decide)) (fun _ c => absurd c (by decide)) (fun _ _ c => absurd c (by decide)) (fun _ _ c => absurd c (by decide)) (fun _ _ _ c => absurd c (by decide)) (fun _ _ _ c => absurd c (by decide)) (fun _ _ _ _ c => absurd c (by decide)) (fun _ _ _ _ c => absurd c (by decide)) (fun _ _ _ _ _ _ => vp) (fun _ _ _ _ _ _ c => ?_) (fun _ _ _ _ _ _ c => ?_) (fun _ _ _ _ _ c => absurd rfl c)
      · rw [ep, e29, e28]
        exact call 1 (Or.inr rfl) ⟨fun _ => c, fun _ => rfl⟩
      · rw [ep, e29, e28]
        exact call 0 (Or.inl rfl) ⟨fun z => absurd z (by decide), fun z => absurd z c⟩
    · refine e_127 (fun c => absurd c z1) (fun _ _ => vp) (fun _ c => ?_) (fun _ _ _ => vp) (fun _ c0 c => ?_) (fun _ _ _ _ => vp) (fun _ c0 c1 c => ?_) (fun _ _ _ _ _ => vp) (fun _ c0 c1 c2 c => ?_) (fun _ _ _ _ _ c => absurd c h4) (fun _ _ _ _ _ c => absurd c h4) (fun _ _ _ _ _ c => absurd c h4) (fun _ c0 c1 c2 c3 _ => ?_)
      · rw [ep]
        subst c
        exact ref _ h4 (fun _ => e20) (fun z => absurd z (by decide)) (fun z => absurd z (by decide)) (fun z => absurd z (by decide)) (fun z => absurd rfl z)
      · rw [ep, e29]
        subst c
        exact ref _ h4 (fun z => absurd z c0) (fun _ => rfl) (fun z => absurd z (by decide)) (fun z => absurd z (by decide)) (fun _ z => absurd rfl z)
      · rw [ep]
        subst c
        exact ref _ h4 (fun z => absurd z c0) (fun z => absurd z c1) (fun _ => e21) (fun z => absurd z (by decide)) (fun _ _ z => absurd rfl z)
      · rw [ep]
        subst c
        exact ref _ h4 (fun z => absurd z c0) (fun z => absurd z c1) (fun z => absurd z c2) (fun _ => e22) (fun _ _ _ z => absurd rfl z)
      · exact ref _ h4 (fun z => absurd z c0) (fun z => absurd z c1) (fun z => absurd z c2) (fun z => absurd z c3) (fun _ _ _ _ => rfl)
  · exact e_127 (fun _ => k (-1) hi hl sw kp (fun Q2 k2 => e_219 (fun _ => k2 hi hl sw kp hR) (fun c => absurd q2 c))) (fun c => absurd q1 c) (fun c => absurd q1 c) (fun c => absurd q1 c) (fun c => absurd q1 c) (fun c => absurd q1 c) (fun c => absurd q1 c) (fun c => absurd q1 c) (fun c => absurd q1 c) (fun c => absurd q1 c) (fun c => absurd q1 c) (fun c => absurd q1 c) (fun c => absurd q1 c)
/-- the class's rows of draws are right, N hours ahead, bones bb -/
def CW (V : vN) (hi : Nat → Nat → Int32) (B : Nat) (bb : Nat → Nat) (H N : Nat) (v : Nat → Int32) : Prop := ∀ u f t, u < N → f < vP V → NR V hi B u f → t < vP V → v ((u * 8 + f) * 8 + t) = nI (WY V hi bb H u f t)
/-- the state's numbers -/
def SN (V : vN) (hi : Nat → Nat → Int32) (H : Nat) (bo : Nat → Nat) : Prop := H ≤ 2000 ∧ hi 28 1 = nI H ∧ hi 299 17 = nI H ∧ hi 299 18 = nI (min 99 (vAg V + H / vDy V)) ∧ (∀ t, t < 8 → bo t ≤ 9 ∧ hi 29 t = nI (bo t) ∧ hi 299 t = nI (bo t)) ∧ hi 299 16 = hi 28 0 ∧ ((vP V = 0 ∧ hi 28 0 = -1) ∨ ∃ q : Nat, q < vP V ∧ hi 28 0 = nI q)
theorem SN.of (h : SRc V hi 28 (hi 299)) : ∃ H bo, SN V hi H bo := by
  obtain ⟨H, s1, s2, s3, s4, s5, s6, s7, s8, s9, s10, s11, s12⟩ := h
  refine ⟨H, fun t => (hi 29 t).toNatClampNeg, s1, s2, s3, s8, fun t ht => ?_, s4, s5⟩
  obtain ⟨b, b1, b2, b3⟩ := s9 t ht
  have e : (hi 29 t).toNatClampNeg = b := by rw [show hi 29 t = nI b from b2, nI_clamp (by omega)]
  show (hi 29 t).toNatClampNeg ≤ 9 ∧ hi 29 t = nI ((hi 29 t).toNatClampNeg) ∧ hi 299 t = nI ((hi 29 t).toNatClampNeg)
  rw [e]
  exact ⟨b1, b2, b3⟩
theorem f37 {B N H : Nat} {bo : Nat → Nat} {s o m p w g : Nat → Int32} (hv : R_vil V hi) (hpu : R_pul hi) (hsn : SN V hi H bo) (hB : B < 256) (hN : N ≤ 8) (w' : ∀ s' m' p' v : Nat → Int32, (∀ j, j < 8 → m' j = nI 0) → CW V hi B bo H N v → Q none (mkH (cx hi s' o m' p' v g) hl sw kp)) : cS (d + 6) 37 [.ref 256, .int (nI B), .int (nI N)] (mkH (cx hi s o m p w g) hl sw kp) Q := by
  have hb8 := hv.1
  refine e_37 (f38 (d := d + 3) (fun m' hm' => k_37_4 (f39 (d := d) (M := 0) hv hpu hN (by decide) hsn.1 hsn.2.1 (fun t ht => (hsn.2.2.2.2.1 t (by omega)).2.1) (fun s' p' hp' => k_37_10 (f40 (d := d + 2) (fi := 0) (mr := fun _ => 0) (pl := fun u t e => PU V hi t (if H / vDy V < (H + u) / vDy V then 0 else bo t) (H + u) e) hv hB (by decide) hN (fun t ht => ⟨hm' t (by omega), by decide⟩) (fun u t e _ hu ht he => hp' u t 0 e hu ht (Nat.le_refl 0) he) (fun u t e => PU_le) (fun v hv1 hv2 => k_37_17 (w' s' m' p' v hm' (fun u f t hu hf hn ht => hv1 u f t (Nat.zero_le u) hu hf hn ht))))))))
theorem dogB {q : Nat} (hq : q < 8) (e : hi 28 0 = nI q) : g_84 hi = nI (2 ^ q) ∧ 2 ^ q < 256 := by
  refine ⟨?_, (pw_bit q hq q hq).2⟩
  unfold g_84 g_158
  rw [e, if_neg (nI_pos (by omega)), if_neg (show ¬ (7 : Int32) < nI q from nI_nlt (a := 7) (by omega) (by decide)), if_neg (by decide)]
  exact (sh8 q hq).2
theorem dogN {q : Nat} (hq : q < 8) : NR V hi (2 ^ q) 0 q := ((pw_bit q hq q hq).1).mpr rfl
theorem g43 {u f t : Nat} {s o m p w g : Nat → Int32} (hv : R_vil V hi) (hu : u < 8) (hf : f < vP V) (ht : t < vP V) : g_43 (cx hi s o m p w g) (nI u) (nI f) (nI t) = w ((u * 8 + f) * 8 + t) ∧ (nI u * 8 + nI f) * 8 + nI t = nI ((u * 8 + f) * 8 + t) := by
  have hb := hv.1
  have e3 : (nI u * 8 + nI f) * 8 + nI t = nI ((u * 8 + f) * 8 + t) := by
    rw [show (8 : Int32) = nI 8 from rfl, pk_mul, nI_add, pk_mul, nI_add]
  refine ⟨?_, e3⟩
  have g1 : ∀ z, z < vP V → ¬ g_108 (cx hi s o m p w g) (nI z) = 0 := fun z hz => by
    rw [g108_in (hi := cx hi s o m p w g) hv.2.1.2.1 hb.2.1 hz]
    decide
  unfold g_43
  rw [if_neg (nI_pos (by omega)), if_neg (show ¬ (8 : Int32) ≤ nI u from nI_ge (b := 8) hu (by decide)), if_neg (g1 f hf), if_neg (g1 t ht), e3, nI_clamp (by omega)]
  rfl
theorem op_draws (a1 : Int32) : OpI Rel (d + 7) 130 222 [.int a1] := by
  intro hi hl sw kp Q hR k
  obtain ⟨V, st, hk, hs, ha, hx⟩ := hR.sp
  have hv := st.2.2.2.2.2.1
  have hpu := st.2.2.2.2.2.2
  have hb8 := hv.1
  rcases plc hv a1 with ⟨p, hp, rfl, q1, q2⟩ | ⟨-, q1, q2⟩
  · obtain ⟨H, bo, hsn⟩ := SN.of hs
    obtain ⟨n1, n2, n3, n4, n5, n6, n7⟩ := id hsn
    rcases n7 with ⟨z, -⟩ | ⟨q, hq, eq⟩
    · omega
    · have z1 : ¬ g_108 hi (nI p) = 0 := by rw [q1]; decide
      have z2 : ¬ g_208 hi (nI p) = 0 := by rw [q2]; decide
      have z3 : ¬ g_108 hi (hi 28 0) = 0 := by rw [eq, g108_in hv.2.1.2.1 hb8.2.1 hq]; decide
      obtain ⟨d1, d2⟩ := dogB (hi := hi) (show q < 8 by omega) eq
      refine e_130 (fun c => absurd c z1) (fun _ c => absurd c z3) (fun _ _ => ?_)
      rw [d1]
      refine cS.hi cx_id.symm (f37 (d := d) (N := 1) hv hpu hsn d2 (by decide) (fun s' m' p' v hm' hcw => ?_))
      obtain ⟨g1, g2⟩ := g43 (hi := hi) (u := 0) (s := s') (o := hi 256) (m := m') (p := p') (w := v) (g := hi 260) hv (by decide) hq hp
      have e28 : (cx hi s' (hi 256) m' p' v (hi 260)) 28 0 = nI q := eq
      refine k_130_45 (fun _ _ _ _ => ?_) ?_
      · rw [e28]
        have : ((0 : Int32) * 8 + nI q) * 8 + nI p = nI ((0 * 8 + q) * 8 + p) := g2
        rw [this]
        exact vp_in_nI (by omega) (by decide)
      · rw [e28]
        have : g_43 (cx hi s' (hi 256) m' p' v (hi 260)) (0 : Int32) (nI q) (nI p) = nI (WY V hi bo H 0 q p) := g1.trans (hcw 0 q p (by decide) hq (dogN (by omega)) hp)
        rw [this]
        refine k _ _ hl sw kp (fun Q2 k2 => e_222 (fun c => absurd c z2) (fun _ => f211' (d := d + 5) (fun b' hb' => k_222_14 ?_)))
        have c17 : (cx hi s' (hi 256) m' p' v (hi 260)) 299 17 = nI H := n3
        have c18 : (cx hi s' (hi 256) m' p' v (hi 260)) 299 18 = nI (min 99 (vAg V + H / vDy V)) := n4
        rw [c17, c18]
        refine f217 (d := d) (V := V) (hi := cx hi s' (hi 256) m' p' v (hi 260)) (bn := bs V bo H 0) hv hpu (by omega) (fun t ht => ?_) (fun g' f' r' v' hv' => ?_)
        · rw [hb' t (by omega), bs_0]
          exact (n5 t (by omega)).2.2
        · have e16 : (rx (cx hi s' (hi 256) m' p' v (hi 260)) (nI H) (nI (min 99 (vAg V + H / vDy V))) b' g' f' r' v') 299 16 = nI q := n6.trans eq
          have e8 : (8 : Int32) * nI q + nI p = nI (8 * q + p) := by
            rw [show (8 : Int32) = nI 8 from rfl, pk_mul, nI_add]
          refine k_222_18 (by rw [e16, e8]; exact vp_in_nI (by omega) (by decide)) ?_
          rw [e16, e8, nI_clamp (by omega)]
          have ev : (rx (cx hi s' (hi 256) m' p' v (hi 260)) (nI H) (nI (min 99 (vAg V + H / vDy V))) b' g' f' r' v') 302 (8 * q + p) = nI (WY V hi bo H 0 q p) := by
            show uR _ 302 v' 302 _ = _
            rw [uR_s, hv' q p hq (by omega), if_pos hp]
            rfl
          rw [ev]
          exact k2 _ hl sw kp (hR.fr (fr_tr (rx_fr (hi := cx hi s' (hi 256) m' p' v (hi 260))) cx_fr) rfl)
  · exact e_130 (fun _ => k (-1) hi hl sw kp (fun Q2 k2 => e_222 (fun _ => k2 hi hl sw kp hR) (fun c => absurd q2 c))) (fun c => absurd q1 c) (fun c => absurd q1 c)
end OPSD
