/-! ===== ways to pass: the class ===== -/
section PASSC
variable {d : Nat} {Q : am_Q} {hi : Nat → Nat → Int32} {hl : Nat → Nat → Int64} {sw : Bool} {kp : Nat → Nat} {V : vN} {s o m p q g : Nat → Int32} {a b : Nat → Int64} {c : Nat}
theorem gnT {x : Nat} (h : x ≤ 1000) : (nI x - 3).toInt = (x : Int) - 3 := pk_sub_toInt (b := 3) (by omega) (by decide)
theorem gnl {x y : Nat} (hx : x ≤ 1000) (hy : y ≤ 1000) : nI x - 3 < nI y - 3 ↔ x < y := by
  rw [Int32.lt_iff_toInt_lt, gnT hx, gnT hy]
  omega
theorem gnm {x y : Nat} (hx : x ≤ 1000) (hy : y ≤ 1000) : nI x < nI y - 3 ↔ x + 3 < y := by
  rw [Int32.lt_iff_toInt_lt, nI_toInt (by omega), gnT hy]
  omega
theorem g116 {t : Nat} (hv : R_vil V hi) (ht : t < vP V) (hc : c < vC V) : g_116 (cx hi s o m p q g) (nI t) (nI c) = nI (cnA hi c t) - 3 ∧ (∃ e, e < 4 ∧ hi 21 t = nI e) := by
  have hb := hv.1
  obtain ⟨e, e1, e2, -, e4, -, -⟩ := cnA_ok hv ht hc
  refine ⟨?_, e, by omega, e2⟩
  have et : (nI t).toNatClampNeg = t := nI_clamp (by omega)
  have e21 : (cx hi s o m p q g) 21 t = nI e := e2
  have ix : nI e * 4 + nI c = nI (4 * e + c) := by
    rw [show (4 : Int32) = nI 4 from rfl, pk_mul, nI_add, Nat.mul_comm]
  unfold g_116
  rw [g108_in (hi := cx hi s o m p q g) hv.2.1.2.1 hb.2.1 ht, if_neg (by decide), g109_in (hi := cx hi s o m p q g) hv.2.1.2.2.2.1 hb.2.2.2.1 hc, if_neg (by decide), et, e21, g110_in (hi := cx hi s o m p q g) hv.2.1.1 hb.1 e1, if_neg (by decide), ix, nI_clamp (by omega)]
  exact e4
/-- the case that is aimed at, and what its deeds count -/
def AIM (V : vN) (hi : Nat → Nat → Int32) (c : Nat) (o g : Nat → Int32) : Prop := o 6 = nI c ∧ ∃ lg mg : Nat, (∀ t, t < vP V → g t = nI (cnA hi c t) - 3) ∧ o 7 = nI lg - 3 ∧ o 8 = nI mg ∧ lg ≤ 3 ∧ mg ≤ 3 ∧ ∀ t, t < vP V → lg ≤ cnA hi c t ∧ cnA hi c t ≤ mg + 3
theorem f50 (hv : R_vil V hi) (hc : c < vC V) (w' : ∀ (g' o' : Nat → Int32), AIM V hi c o' g' → Q none (mkH (cx hi s o' m p q g') (hl) sw kp)) : cS (d + 3) 50 [.ref 256, .int (nI c)] (mkH (cx hi s o m p q g) hl sw kp) Q := by
  have hb := hv.1
  refine e_50 (cW.hi (hi := cx hi s (up1 (up1 (up1 o 6 (nI c)) 7 0) 8 0) m p q g) (by rw [cx_256, cx_256, cx_256]) ?_)
  refine lpu (σ := (Nat → Int32) × (Nat → Int32) × Nat × Nat) (vP V) (fun i z => cW cd_50 (d + 2) Q 17 [some (.ref 256), some (.int (nI c)), some (.int (nI i))] [] (mkH (cx hi s z.2.1 m p q z.1) hl sw kp)) (fun i z => z.2.1 6 = nI c ∧ (∀ t, t < i → z.1 t = nI (cnA hi c t) - 3) ∧ z.2.1 7 = nI z.2.2.1 - 3 ∧ z.2.1 8 = nI z.2.2.2 ∧ z.2.2.1 ≤ 3 ∧ z.2.2.2 ≤ 3 ∧ ∀ t, t < i → z.2.2.1 ≤ cnA hi c t ∧ cnA hi c t ≤ z.2.2.2 + 3) ?_ ?_ (vP V) 0 (g, up1 (up1 (up1 o 6 (nI c)) 7 0) 8 0, 3, 0) (Nat.zero_add _) ⟨?_, fun t ht => absurd ht (Nat.not_lt_zero t), ?_, ?_, Nat.le_refl 3, Nat.zero_le 3, fun t ht => absurd ht (Nat.not_lt_zero t)⟩
  · intro z ⟨h0, h1, h2, h3, h4, h5, h6⟩
    have c0 : (cx hi s z.2.1 m p q z.1) 19 1 ≤ nI (vP V) := by
      show hi 19 1 ≤ _
      rw [hv.2.1.2.1]
      exact Int32.le_refl _
    exact k_50_17 (fun _ => w' z.1 z.2.1 ⟨h0, z.2.2.1, z.2.2.2, h1, h2, h3, h4, h5, h6⟩) (fun c => absurd c0 c) (fun c => absurd c0 c) (fun c => absurd c0 c) (fun c => absurd c0 c)
  · intro i z hiP ⟨h0, h1, h2, h3, h4, h5, h6⟩ ih
    have c0 : ¬ (cx hi s z.2.1 m p q z.1) 19 1 ≤ nI i := by
      show ¬ hi 19 1 ≤ _
      rw [hv.2.1.2.1]
      exact nI_ge hiP (by omega)
    obtain ⟨q1, e, q2, q3⟩ := g116 (s := s) (o := z.2.1) (m := m) (p := p) (q := q) (g := z.1) hv hiP hc
    have ei : (nI i).toNatClampNeg = i := nI_clamp (by omega)
    have hA : cnA hi c i ≤ 6 := Nat.min_le_left _ _
    have e21 : (cx hi s z.2.1 m p q z.1) 21 (nI i).toNatClampNeg = nI e := by rw [ei]; exact q3
    have ix : nI e * 4 + nI c = nI (4 * e + c) := by
      rw [show (4 : Int32) = nI 4 from rfl, pk_mul, nI_add, Nat.mul_comm]
    refine k_50_17 (fun c => absurd c c0) (fun _ _ _ => vp_in_nI (by omega) (by decide)) (fun _ _ _ _ => by rw [e21, ix]; exact vp_in_nI (by omega) (by decide)) (fun _ => vp_in_nI (by omega) (by decide)) (fun _ => ?_)
    rw [q1, ei, u2_s]
    have x6 : (cx hi s z.2.1 m p q z.1) 256 7 = nI z.2.2.1 - 3 := h2
    have x7 : (cx hi s z.2.1 m p q z.1) 256 8 = nI z.2.2.2 := h3
    rw [x6, x7, nI_1]
    -- new least and most
    obtain ⟨lg, hlg, elg⟩ : ∃ lg, lg = (if cnA hi c i < z.2.2.1 then cnA hi c i else z.2.2.1) ∧ (if nI (cnA hi c i) - 3 < nI z.2.2.1 - 3 then nI (cnA hi c i) - 3 else nI z.2.2.1 - 3) = nI lg - 3 := by
      refine ⟨_, rfl, ?_⟩
      by_cases cc : cnA hi c i < z.2.2.1
      · rw [if_pos ((gnl (by omega) (by omega)).mpr cc), if_pos cc]
      · rw [if_neg (fun h => cc ((gnl (by omega) (by omega)).mp h)), if_neg cc]
    obtain ⟨mg, hmg, emg⟩ : ∃ mg, mg = (if z.2.2.2 + 3 < cnA hi c i then cnA hi c i - 3 else z.2.2.2) ∧ (if nI z.2.2.2 < nI (cnA hi c i) - 3 then nI (cnA hi c i) - 3 else nI z.2.2.2) = nI mg := by
      refine ⟨_, rfl, ?_⟩
      by_cases cc : z.2.2.2 + 3 < cnA hi c i
      · rw [if_pos ((gnm (by omega) (by omega)).mpr cc), if_pos cc]
        exact pk_sub (b := 3) (by omega)
      · rw [if_neg (fun h => cc ((gnm (by omega) (by omega)).mp h)), if_neg cc]
    rw [elg, emg]
    refine cW.hi (hi := cx hi s (up1 (up1 z.2.1 7 (nI lg - 3)) 8 (nI mg)) m p q (up1 z.1 i (nI (cnA hi c i) - 3))) (by rw [cx_260, cx_256, cx_256]) (ih (up1 z.1 i (nI (cnA hi c i) - 3), up1 (up1 z.2.1 7 (nI lg - 3)) 8 (nI mg), lg, mg) ⟨?_, fun t ht => ?_, ?_, (show up1 (up1 z.2.1 7 (nI lg - 3)) 8 (nI mg) 8 = nI mg from up1_s), ?_, ?_, fun t ht => ?_⟩)
    · show up1 (up1 z.2.1 7 (nI lg - 3)) 8 (nI mg) 6 = nI c
      rw [up1_n (by decide), up1_n (by decide)]
      exact h0
    · show up1 z.1 i (nI (cnA hi c i) - 3) t = _
      by_cases ct : t = i
      · subst ct
        rw [up1_s]
      · rw [up1_n ct]
        exact h1 t (by omega)
    · show up1 (up1 z.2.1 7 (nI lg - 3)) 8 (nI mg) 7 = nI lg - 3
      rw [up1_n (by decide), up1_s]
    · show lg ≤ 3
      rw [hlg]
      by_cases cc : cnA hi c i < z.2.2.1
      · rw [if_pos cc]; omega
      · rw [if_neg cc]; exact h4
    · show mg ≤ 3
      rw [hmg]
      by_cases cc : z.2.2.2 + 3 < cnA hi c i
      · rw [if_pos cc]; omega
      · rw [if_neg cc]; exact h5
    · show lg ≤ cnA hi c t ∧ cnA hi c t ≤ mg + 3
      have l1 : lg ≤ cnA hi c i ∧ lg ≤ z.2.2.1 := by
        rw [hlg]
        by_cases cc : cnA hi c i < z.2.2.1
        · rw [if_pos cc]; omega
        · rw [if_neg cc]; omega
      have m1 : cnA hi c i ≤ mg + 3 ∧ z.2.2.2 ≤ mg := by
        rw [hmg]
        by_cases cc : z.2.2.2 + 3 < cnA hi c i
        · rw [if_pos cc]; omega
        · rw [if_neg cc]; omega
      by_cases ct : t = i
      · subst ct
        exact ⟨l1.1, m1.1⟩
      · have := h6 t (by omega)
        omega
  · show up1 (up1 (up1 o 6 (nI c)) 7 0) 8 0 6 = nI c
    rw [up1_n (by decide), up1_n (by decide), up1_s]
  · show up1 (up1 (up1 o 6 (nI c)) 7 0) 8 0 7 = nI 3 - 3
    rw [up1_n (by decide), up1_s]
    rfl
  · show up1 (up1 (up1 o 6 (nI c)) 7 0) 8 0 8 = nI 0
    rw [up1_s]
    rfl
theorem f51 {n H : Nat} (hv : R_vil V hi) (hc : c < vC V) (hn : n ≤ 8) (hH : H ≤ 2000) (eH : hi 28 1 = nI H) (hoc : o 6 = nI c) (w' : Q (some (.int (nI (LF V H c n 0)))) (mkH (cx hi s o m p q g) hl sw kp)) : cS (d + 2) 51 [.ref 256, .int (nI n)] (mkH (cx hi s o m p q g) hl sw kp) Q := by
  refine e_51 (lpu (σ := Unit) n (fun u _ => cW cd_51 (d + 1) Q 4 [some (.ref 256), some (.int (nI n)), some (.int (nI (Ts (hb1 V H c) u))), some (.int (nI u))] [] (mkH (cx hi s o m p q g) hl sw kp)) (fun _ _ => True) ?_ ?_ n 0 () (Nat.zero_add n) trivial)
  · intro _ _
    refine k_51_4 (fun _ => ?_) (fun c => absurd (Int32.le_refl _) c) (fun c => absurd (Int32.le_refl _) c)
    have : Ts (hb1 V H c) n = LF V H c n 0 := Ts_eq n (fun t _ => by rw [Nat.zero_add])
    rw [this]
    exact w'
  · intro u _ hu _ ih
    have e28 : (cx hi s o m p q g) 28 1 + nI u = nI (H + u) := by
      show hi 28 1 + nI u = _
      rw [eH, nI_add]
    have hg := g120 (hi := cx hi s o m p q g) (V := V) (H := H) (u := u) hv hc (by omega)
    have e6 : (cx hi s o m p q g) 256 6 = nI c := hoc
    have ih' : cW cd_51 (d + 1) Q 4 [some (.ref 256), some (.int (nI n)), some (.int (nI (Ts (hb1 V H c) u + hb1 V H c u))), some (.int (nI (u + 1)))] [] (mkH (cx hi s o m p q g) hl sw kp) := ih () trivial
    refine k_51_4 (fun c => absurd c (nI_ge hu (by omega))) ?_ ?_ <;> rw [e28, e6, hg, nI_1] <;> intro _ h
    · have : hb1 V H c u = 1 := by unfold hb1; rw [h]; rfl
      rw [this] at ih'
      rw [nI_1]
      exact ih'
    · have h2 : hrd V H c u = false := by
        cases hh : hrd V H c u with
        | false => rfl
        | true => exact absurd hh h
      have : hb1 V H c u = 0 := by unfold hb1; rw [h2]; rfl
      rw [this] at ih'
      rw [show nI (Ts (hb1 V H c) u) + 0 = nI (Ts (hb1 V H c) u) from Int32.add_zero _]
      exact ih'
/-- the sum of an hour's ways, by scores -/
theorem rr_sum {H n k b lo e : Nat} {bb : Nat → Nat} {w : Nat → Nat → Nat} (hk : k + 1 ≤ n) (hh : hrd V H c (n - (k + 1)) = true) : Ts (fun f => Ts (fun t => Ts (fun z => wt lo e w f z * WY V hi bb H (n - (k + 1)) f t * vv (cnA hi c t) b (rr V hi bb H c b n k) (60 ^ k) t z) 31) (vP V)) (vP V) = Ts (fun f => Ts (fun z => wt lo e w f z * rr V hi bb H c b n (k + 1) f z) 31) (vP V) := by
  refine Ts_eq _ (fun f _ => ?_)
  rw [Ts_sw 31 (vP V)]
  refine Ts_eq _ (fun z _ => ?_)
  have : rr V hi bb H c b n (k + 1) f z = Ts (fun t => WY V hi bb H (n - (k + 1)) f t * vv (cnA hi c t) b (rr V hi bb H c b n k) (60 ^ k) t z) (vP V) := by
    show Ts (fun t => WY V hi bb H (n - (k + 1)) f t * (bif hrd V H c (n - (k + 1)) then vv (cnA hi c t) b (rr V hi bb H c b n k) (60 ^ k) t z else rr V hi bb H c b n k t z)) (vP V) = _
    rw [hh]
    rfl
  rw [this, ← Ts_mul]
  exact Ts_eq _ (fun t _ => Nat.mul_assoc _ _ _)
theorem rr_sumn {H n k b lo e : Nat} {bb : Nat → Nat} {w : Nat → Nat → Nat} (hk : k + 1 ≤ n) (hh : hrd V H c (n - (k + 1)) = false) : Ts (fun f => Ts (fun t => Ts (fun z => wt lo e w f z * WY V hi bb H (n - (k + 1)) f t * vv 3 16 (rr V hi bb H c b n k) (60 ^ k) t z) 31) (vP V)) (vP V) = Ts (fun f => Ts (fun z => wt lo e w f z * rr V hi bb H c b n (k + 1) f z) 31) (vP V) := by
  refine Ts_eq _ (fun f _ => ?_)
  rw [Ts_sw 31 (vP V)]
  refine Ts_eq _ (fun z hz => ?_)
  have : rr V hi bb H c b n (k + 1) f z = Ts (fun t => WY V hi bb H (n - (k + 1)) f t * rr V hi bb H c b n k t z) (vP V) := by
    show Ts (fun t => WY V hi bb H (n - (k + 1)) f t * (bif hrd V H c (n - (k + 1)) then vv (cnA hi c t) b (rr V hi bb H c b n k) (60 ^ k) t z else rr V hi bb H c b n k t z)) (vP V) = _
    rw [hh]
    rfl
  rw [this, ← Ts_mul]
  exact Ts_eq _ (fun t _ => by rw [vv3 hz, Nat.mul_assoc])
theorem mass_s {lo e bq : Nat} {w y : Nat → Nat → Nat} {gn : Nat → Nat} {M : Nat} (hy : ∀ f, f < vP V → Ts (y f) (vP V) = 60) (hP : vP V ≤ 8) (hM : S2 31 w ≤ M) : Ts (fun f => Ts (fun t => Ts (fun z => wt lo e w f z * y f t * vv (gn t) bq (fun _ _ => 1) 1 t z) 31) (vP V)) (vP V) ≤ M * 60 := by
  have h1 : Ts (fun f => Ts (fun t => Ts (fun z => wt lo e w f z * y f t * vv (gn t) bq (fun _ _ => 1) 1 t z) 31) (vP V)) (vP V) ≤ Ts (fun f => Ts (fun z => w f z) 31 * 60) (vP V) := by
    refine Ts_mono _ (fun f hf => ?_)
    rw [← hy f hf, Ts_sw 31 (vP V), ← Ts_mulr]
    refine Ts_mono _ (fun z _ => ?_)
    rw [← Ts_mul]
    refine Ts_mono _ (fun t _ => ?_)
    have a1 : vv (gn t) bq (fun _ _ => 1) 1 t z ≤ 1 := vv_le (Nat.le_refl 1) (fun _ => Nat.le_refl 1)
    have a2 : wt lo e w f z ≤ w f z := by
      unfold wt
      by_cases cc : lo ≤ z ∧ z < e
      · rw [if_pos cc]; exact Nat.le_refl _
      · rw [if_neg cc]; exact Nat.zero_le _
    have a3 := Nat.mul_le_mul (Nat.mul_le_mul_right (y f t) a2) a1
    rw [Nat.mul_one] at a3
    exact a3
  rw [Ts_mulr] at h1
  have h2 : Ts (fun f => Ts (fun z => w f z) 31) (vP V) ≤ S2 31 w := Ts_le hP
  have h3 := Nat.mul_le_mul_right 60 (Nat.le_trans h2 hM)
  omega
/-- ways to pass -/
theorem f49 {n N H D0 B oc : Nat} {bb : Nat → Nat} {x1 : Int32} (hv : R_vil V hi) (hc : c < vC V) (hn : n ≤ 8) (hnN : n ≤ N) (hH : H ≤ 2000) (eH : hi 28 1 = nI H) (hst : hi 31 c = 0 ∨ hi 31 c = 1 ∨ hi 31 c = 2) (hsc : hi 31 c = 0 → -(hi 23 c).toInt < (hi 30 c).toInt ∧ (hi 30 c).toInt < (hi 23 c).toInt) (hx : (D0 < vP V ∧ x1 = nI D0 ∧ oc = 2 ^ D0) ∨ (vP V = 0 ∧ x1 = -1 ∧ D0 = 8 ∧ oc = 0)) (hB0 : D0 < vP V → NR V hi B 0 D0) (hN : CW V hi B bb H N q) (hA : AIM V hi c o g)
    (w' : ∀ (sw' : Bool) (o' g' : Nat → Int32) (a' b' : Nat → Int64), AIM V hi c o' g' → Q (some (.long (lN (wp V hi bb H c n D0)))) (mkH (cx hi s o' m p q g') (lx hl a' b') sw' kp)) : cS (d + 5) 49 [.ref 256, .int x1, .int (nI n)] (mkH (cx hi s o m p q g) (lx hl a b) sw kp) Q := by
  have hb8 := hv.1
  have ec : (nI c).toNatClampNeg = c := nI_clamp (by omega)
  obtain ⟨hA6, lg, mg, hg1, ho6, ho7, hlg, hmg, hgn⟩ := id hA
  have e6 : (cx hi s o m p q g) 256 6 = nI c := hA6
  have z1 : ¬ g_109 (cx hi s o m p q g) (nI c) = 0 := by
    rw [g109_in (hi := cx hi s o m p q g) hv.2.1.2.2.2.1 hb8.2.2.2.1 hc]
    decide
  have z2 : ¬ g_158 (nI n) (0 : Int32) (8 : Int32) = 0 := by
    unfold g_158
    rw [if_neg (nI_pos (by omega)), if_neg (show ¬ (8 : Int32) < nI n from nI_nlt (a := 8) (by omega) (by decide))]
    decide
  have e31 : (cx hi s o m p q g) 31 (nI c).toNatClampNeg = hi 31 c := by
    rw [ec]
    rfl
  obtain ⟨bq, bq1, bq2, bq3, -⟩ := hv.2.2.2.2.1 c hc
  have ebq : (hi 23 c).toNatClampNeg = bq := by rw [bq3, nI_clamp (by omega)]
  refine e_49 ?_ ?_ ?_ ?_ ?_ ?_ ?_ <;> rw [e6]
  · exact fun c => absurd c z1
  · exact fun _ c => absurd c z2
  · exact fun _ _ => vp_in_nI (by omega) (by decide)
  · intro _ _ c2
    rw [e31] at c2
    have := w' sw o g a b hA
    unfold wp at this
    rw [if_pos c2] at this
    exact this
  · exact fun _ _ _ _ => vp_in_nI (by omega) (by decide)
  · intro _ _ c2 c1
    rw [e31] at c2 c1
    have := w' sw o g a b hA
    unfold wp at this
    rw [if_neg c2, if_pos c1] at this
    rw [nI_clamp (by omega), pw60 hn]
    exact this
  · intro _ _ c2 c1
    rw [e31] at c2 c1
    have c0 : hi 31 c = 0 := by
      rcases hst with h | h | h
      · exact h
      · exact absurd h c1
      · exact absurd h c2
    obtain ⟨sc1, sc2⟩ := hsc c0
    -- the score
    obtain ⟨z0, hz0, ez0⟩ : ∃ z0, (z0 ≤ 29 ∧ 16 ≤ z0 + bq ∧ z0 < bq + 15) ∧ hi 30 c = sc z0 ∧ (hi 30 c + 15).toNatClampNeg = z0 := by
      rw [bq3, nI_toInt (by omega)] at sc1 sc2
      obtain ⟨x, hx'⟩ : ∃ x, x = hi 30 c := ⟨_, rfl⟩
      rw [← hx'] at sc1 sc2 ⊢
      have h3 : (x + 15).toInt = x.toInt + 15 := by
        have := Int32.toInt_add x 15
        rw [this]
        show (x.toInt + 15).bmod (2 ^ 32) = x.toInt + 15
        rw [Int.bmod_eq_of_le (by omega) (by omega)]
      have h0 : ¬ x + 15 < 0 := by
        rw [Int32.lt_iff_toInt_lt, h3]
        show ¬ (x.toInt + 15 < 0)
        omega
      obtain ⟨m', hm', em'⟩ := nI_of h0
      rw [em', nI_toInt hm'] at h3
      refine ⟨m', by omega, ?_, by rw [em', nI_clamp hm']⟩
      unfold sc
      rw [← em', Int32.add_sub_cancel]
    have wR : ∀ (sw' : Bool) (o' g' : Nat → Int32) (a' b' : Nat → Int64), AIM V hi c o' g' → Q (some (.long (lN (rr V hi bb H c bq n n D0 z0)))) (mkH (cx hi s o' m p q g') (lx hl a' b') sw' kp) := by
      intro sw' o' g' a' b' hA'
      have := w' sw' o' g' a' b' hA'
      unfold wp at this
      rw [if_neg c2, if_neg c1, ebq, ez0.2] at this
      exact this
    have e30 : (cx hi s o m p q g) 30 (nI c).toNatClampNeg = sc z0 := by rw [ec]; exact ez0.1
    rw [e30]
    refine f45 (d := d + 2) (z := z0) (D0 := D0) (oc := oc) hv (by omega) hx (fun a0 b0 o2 ho2 hr0 => k_49_81 ?_)
    have p5 : o2 6 = nI c := (ho2.2.2.2 6 (by decide) (by decide) (by decide)).trans hA6
    refine f51 (d := d + 2) (n := n) (H := H) hv hc hn hH eH p5 (k_49_86 ?_)
    have aim : ∀ o' : Nat → Int32, o' 6 = nI c → o' 7 = nI lg - 3 → o' 8 = nI mg → AIM V hi c o' g := fun o' y1 y2 y3 => ⟨y1, lg, mg, hg1, y2, y3, hlg, hmg, hgn⟩
    have hgn2 : ∀ t, t < vP V → cnA hi c t ≤ mg + 3 := fun t ht => (hgn t ht).2
    have p6 : o2 7 = nI lg - 3 := (ho2.2.2.2 7 (by decide) (by decide) (by decide)).trans ho6
    have p7 : o2 8 = nI mg := (ho2.2.2.2 8 (by decide) (by decide) (by decide)).trans ho7
    have hocl : oc < 256 := by
      rcases hx with ⟨h, -, rfl⟩ | ⟨-, -, -, rfl⟩
      · exact (pw_bit D0 (by omega) D0 (by omega)).2
      · decide
    have hocb : ∀ t, t < 8 → (oc / 2 ^ t % 2 = 1 ↔ t = D0) := by
      intro t ht
      rcases hx with ⟨h, -, rfl⟩ | ⟨-, -, rfl, rfl⟩
      · exact (pw_bit D0 (by omega) t ht).1
      · rw [Nat.zero_div]
        constructor
        · intro h; exact absurd h (by decide)
        · intro h; omega
    -- the hours
    refine lpu (σ := Bool × Nat × Nat × Nat × Nat × (Nat → Nat → Nat) × (Nat → Int32) × (Nat → Int64) × (Nat → Int64)) n (fun u y => ∀ o8 : Option Value, cW cd_49 (d + 4) Q 93 [some (.ref 256), some (.int x1), some (.int (nI n)), some (.int (nI (LF V H c n u))), some (.long (lN y.2.1)), none, some (.int (nI u)), o8] [] (mkH (cx hi s y.2.2.2.2.2.2.1 m p q g) (lx hl y.2.2.2.2.2.2.2.1 y.2.2.2.2.2.2.2.2) y.1 kp))
      (fun u y => (y.2.2.2.2.2.2.1 12 = nI y.2.2.2.2.1 ∧ y.2.2.2.2.1 < 256 ∧ y.2.2.2.2.2.2.1 13 = sc y.2.2.1 ∧ y.2.2.2.2.2.2.1 14 = sc y.2.2.2.1 ∧ y.2.2.1 ≤ 30 ∧ y.2.2.2.1 ≤ 30 ∧ y.2.2.2.2.2.2.1 7 = nI lg - 3 ∧ y.2.2.2.2.2.2.1 8 = nI mg ∧ y.2.2.2.2.2.2.1 6 = nI c) ∧
        (∀ t z, t < 8 → z < 31 → lrow y.1 y.2.2.2.2.2.2.2.1 y.2.2.2.2.2.2.2.2 (t * 31 + z) = lN (y.2.2.2.2.2.1 t z)) ∧
        (∀ t z, t < 8 → z < 31 → y.2.2.2.2.2.1 t z ≠ 0 → t < vP V ∧ y.2.2.2.2.1 / 2 ^ t % 2 = 1 ∧ y.2.2.1 ≤ z ∧ z ≤ y.2.2.2.1) ∧
        (∀ t, t < vP V → y.2.2.2.2.1 / 2 ^ t % 2 = 1 → NR V hi B u t) ∧
        y.2.1 * 60 ^ (n - u) + S2 31 (fun t z => y.2.2.2.2.2.1 t z * rr V hi bb H c bq n (n - u) t z) = rr V hi bb H c bq n n D0 z0 ∧
        S2 31 y.2.2.2.2.2.1 ≤ 60 ^ u) ?_ ?_ n 0 (sw, 0, z0, z0, oc, (fun t z => if t = D0 ∧ z = z0 then 1 else 0), o2, a0, b0) (Nat.zero_add n) ⟨⟨ho2.1, hocl, ho2.2.1, ho2.2.2.1, by show z0 ≤ 30; omega, by show z0 ≤ 30; omega, p6, p7, p5⟩, hr0, ?_, ?_, ?_, ?_⟩ none
    · intro y ⟨h1, h2, h3, h4, h5, h6⟩ o8
      refine k_49_93 (fun _ => ?_) (fun c => absurd (Int32.le_refl _) c) (fun c => absurd (Int32.le_refl _) c) (fun c => absurd (Int32.le_refl _) c) (fun c => absurd (Int32.le_refl _) c) (fun c => absurd (Int32.le_refl _) c)
      have e0 : y.2.1 = rr V hi bb H c bq n n D0 z0 := by
        rw [← h5, Nat.sub_self]
        show y.2.1 = y.2.1 * 1 + S2 31 (fun t z => y.2.2.2.2.2.1 t z * 0)
        rw [S2_z (fun t z _ _ => Nat.mul_zero _), Nat.mul_one, Nat.add_zero]
      rw [e0]
      exact wR _ _ _ _ _ (aim _ h1.2.2.2.2.2.2.2.2 h1.2.2.2.2.2.2.1 h1.2.2.2.2.2.2.2.1)
    · intro u y hu ⟨⟨h1, h1b, h1c, h1d, h1e, h1f, h1g, h1h, h1i⟩, h2, h3, h4, h5, h6⟩ ih o8
      obtain ⟨k, hk⟩ : ∃ k, n - u = k + 1 := ⟨n - u - 1, by omega⟩
      have hku : n - (k + 1) = u := by omega
      have hk2 : n - (u + 1) = k := by omega
      have hL := LF_le (V := V) (H := H) (c := c) (n := n) (u := u)
      have hLm : LF V H c n u * mg ≤ 8 * 3 := Nat.mul_le_mul (by omega) hmg
      rw [hk] at h5
      have x12 : (cx hi s y.2.2.2.2.2.2.1 m p q g) 256 13 = sc y.2.2.1 := h1c
      have x13 : (cx hi s y.2.2.2.2.2.2.1 m p q g) 256 14 = sc y.2.2.2.1 := h1d
      have x7 : (cx hi s y.2.2.2.2.2.2.1 m p q g) 256 8 = nI mg := h1h
      have x6 : (cx hi s y.2.2.2.2.2.2.1 m p q g) 256 6 = nI c := h1i
      have x23 : (cx hi s y.2.2.2.2.2.2.1 m p q g) 23 (nI c).toNatClampNeg = nI bq := by rw [ec]; exact bq3
      -- the low score, raised
      obtain ⟨lo, hlo, elo⟩ : ∃ lo, lo = (if y.2.2.1 + LF V H c n u * mg < bq + 15 then bq + 15 - LF V H c n u * mg else y.2.2.1) ∧ (if sc y.2.2.1 < nI bq - nI (LF V H c n u) * nI mg then nI bq - nI (LF V H c n u) * nI mg else sc y.2.2.1) = sc lo := by
        refine ⟨_, rfl, ?_⟩
        rw [pk_mul]
        have et : (nI bq - nI (LF V H c n u * mg)).toInt = (bq : Int) - (LF V H c n u * mg : Nat) := pk_sub_toInt (by omega) (by omega)
        by_cases cc : y.2.2.1 + LF V H c n u * mg < bq + 15
        · rw [if_pos (by rw [Int32.lt_iff_toInt_lt, sc_toInt (by omega), et]; omega), if_pos cc]
          refine Int32.toInt_inj.mp ?_
          rw [et, sc_toInt (by omega)]
          omega
        · rw [if_neg (by rw [Int32.lt_iff_toInt_lt, sc_toInt (by omega), et]; omega), if_neg cc]
      have hlo30 : lo ≤ 30 := by
        rw [hlo]
        by_cases cc : y.2.2.1 + LF V H c n u * mg < bq + 15
        · rw [if_pos cc]; omega
        · rw [if_neg cc]; exact h1e
      -- what lies below it can't pass
      have dead : ∀ t z, t < 8 → z < 31 → z < lo → y.2.2.2.2.2.1 t z * rr V hi bb H c bq n (k + 1) t z = 0 := by
        intro t z ht hz hzl
        by_cases cc : y.2.2.1 + LF V H c n u * mg < bq + 15
        · rw [if_pos cc] at hlo
          rw [rr_0 hgn2 (k + 1) t z (by omega) (by rw [hku]; omega), Nat.mul_zero]
        · rw [if_neg cc] at hlo
          rcases Nat.eq_zero_or_pos (y.2.2.2.2.2.1 t z) with w0 | w0
          · rw [w0, Nat.zero_mul]
          · have := h3 t z ht hz (by omega)
            omega
      have elo2 : (if (cx hi s y.2.2.2.2.2.2.1 m p q g) 256 13 < (cx hi s y.2.2.2.2.2.2.1 m p q g) 23 (nI c).toNatClampNeg - nI (LF V H c n u) * (cx hi s y.2.2.2.2.2.2.1 m p q g) 256 8 then (cx hi s y.2.2.2.2.2.2.1 m p q g) 23 (nI c).toNatClampNeg - nI (LF V H c n u) * (cx hi s y.2.2.2.2.2.2.1 m p q g) 256 8 else (cx hi s y.2.2.2.2.2.2.1 m p q g) 256 13) = sc lo := by
        rw [x12, x23, x7]
        exact elo
      have e28 : (cx hi s y.2.2.2.2.2.2.1 m p q g) 28 1 + nI u = nI (H + u) := by
        show hi 28 1 + nI u = _
        rw [eH, nI_add]
      have hg120 := g120 (hi := cx hi s (up1 y.2.2.2.2.2.2.1 13 (sc lo)) m p q g) (V := V) (H := H) (u := u) hv hc (by omega)
      -- weights within, as the sum has them
      have wsum : Ts (fun f => Ts (fun z => wt lo (y.2.2.2.1 + 1) y.2.2.2.2.2.1 f z * rr V hi bb H c bq n (k + 1) f z) 31) (vP V) = S2 31 (fun t z => y.2.2.2.2.2.1 t z * rr V hi bb H c bq n (k + 1) t z) := by
        unfold S2
        rw [Ts_ext (f := fun t => Ts (fun z => y.2.2.2.2.2.1 t z * rr V hi bb H c bq n (k + 1) t z) 31) hb8.2.1 (fun t t1 t2 => Ts_z 31 (fun z hz => by
          rcases Nat.eq_zero_or_pos (y.2.2.2.2.2.1 t z) with w0 | w0
          · rw [w0, Nat.zero_mul]
          · have := h3 t z t2 hz (by omega)
            omega))]
        refine Ts_eq _ (fun t ht => Ts_eq _ (fun z hz => ?_))
        unfold wt
        by_cases cc : lo ≤ z ∧ z < y.2.2.2.1 + 1
        · rw [if_pos cc]
        · rw [if_neg cc, Nat.zero_mul]
          by_cases c3 : z < lo
          · exact (dead t z (by omega) hz c3).symm
          · rcases Nat.eq_zero_or_pos (y.2.2.2.2.2.1 t z) with w0 | w0
            · rw [w0, Nat.zero_mul]
            · have := h3 t z (by omega) hz (by omega)
              omega
      have hsmall : ∀ t z, t < 8 → z < 31 → y.2.2.2.2.2.1 t z < 2 ^ 63 := by
        intro t z ht hz
        have q1 := S2_mem (F := y.2.2.2.2.2.1) ht hz
        have q2 := p60 (n := u) (by omega)
        omega
      have hmass : ∀ (bq' : Nat) (gn : Nat → Nat), Ts (fun f => Ts (fun t => Ts (fun z => wt lo (y.2.2.2.1 + 1) y.2.2.2.2.2.1 f z * WY V hi bb H u f t * vv (gn t) bq' (fun _ _ => 1) 1 t z) 31) (vP V)) (vP V) ≤ 60 ^ u * 60 := fun bq' gn => mass_s (fun f hf => wy_all hf) hb8.2.1 h6
      refine k_49_93 (fun c => absurd c (nI_ge hu (by omega))) ?_ ?_ ?_ ?_ ?_ <;> rw [x6]
      · exact fun _ => vp_in_nI (by omega) (by decide)
      all_goals rw [elo2, x13]
      · rw [cx_256, e28, hg120]
        intro _ _ hh
        refine f52 (d := d + 2) (u := u) (lo := lo) (hh := y.2.2.2.1) (bb := bq) (oc := y.2.2.2.2.1) (w := y.2.2.2.2.2.1) (y := WY V hi bb H u) (gn := fun t => cnA hi c t) hv (by omega) hlo30 h1f (by omega) (fun t => Nat.min_le_left _ _) (by rw [up1_n (by decide)]; exact h1) h1b up1_s (by rw [up1_n (by decide)]; exact h1d) (Or.inr ⟨c, hc, rfl, bq3, hg1⟩) (fun t z ht hz => ⟨h2 t z ht hz, hsmall t z ht hz⟩) (fun t z ht hz hne => (h3 t z ht hz hne).2.1) (fun f t hf ho ht => ⟨hN u f t (by omega) hf (h4 f hf ho) ht, wy_le ht⟩) (fun c1 oc' v a' b' o' k1 k2 k3 k4 k5 => ?_)
        refine k_49_208 (fun c => absurd c (by decide)) (fun _ => ?_)
        have eL : nI (LF V H c n u) - 1 = nI (LF V H c n (u + 1)) := by
          have e1 := LF_s (V := V) (H := H) (c := c) (n := n) hu
          have : hb1 V H c u = 1 := by unfold hb1; rw [hh]; rfl
          rw [this] at e1
          rw [e1]
          have := pk_sub (a := 1 + LF V H c n (u + 1)) (b := 1) (by omega)
          rw [show 1 + LF V H c n (u + 1) - 1 = LF V H c n (u + 1) by omega] at this
          exact this
        rw [eL, show (60 : Int64) = lN 60 from rfl, lN_mul, lN_add, nI_1]
        have ne1 : ¬ nI c = -1 := fun h => by
          have : nI c < 0 := by rw [h]; decide
          exact absurd this (nI_pos (by omega))
        obtain ⟨j1, j2, j3, -, j5⟩ := k1
        obtain ⟨j6, j7⟩ := j5 ne1
        have n12 : o' 13 = sc (if lo + lg < 19 - bq then 16 - bq else lo + lg - 3) := by
          rw [j6, up1_s, up1_n (by decide), h1g]
          have t1 : (1 - nI bq).toInt = 1 - (bq : Int) := pk_sub_toInt (a := 1) (by decide) (by omega)
          have t2 : (sc lo + (nI lg - 3)).toInt = (lo : Int) + lg - 18 := by
            rw [gn_sum]
            have := pk_sub_toInt (a := lo + lg) (b := 18) (by omega) (by decide)
            rw [show (nI (lo + lg) - 18).toInt = ((lo + lg : Nat) : Int) - 18 from this]
            omega
          by_cases cc : lo + lg < 19 - bq
          · rw [if_pos (by rw [Int32.lt_iff_toInt_lt, t1, t2]; omega), if_pos cc]
            refine Int32.toInt_inj.mp ?_
            rw [t1, sc_toInt (by omega)]
            omega
          · rw [if_neg (by rw [Int32.lt_iff_toInt_lt, t1, t2]; omega), if_neg cc]
            refine Int32.toInt_inj.mp ?_
            rw [t2, sc_toInt (by omega)]
            omega
        have n13 : o' 14 = sc (if bq + 14 < y.2.2.2.1 + mg then bq + 14 else y.2.2.2.1 + mg) := by
          rw [j7, up1_n (by decide), up1_n (by decide), h1d, h1h]
          have t1 : (nI bq - 1).toInt = (bq : Int) - 1 := pk_sub_toInt (b := 1) (by omega) (by decide)
          have t2 : sc y.2.2.2.1 + nI mg = sc (y.2.2.2.1 + mg) := by
            unfold sc
            rw [← nI_add, Int32.sub_eq_add_neg, Int32.sub_eq_add_neg, Int32.add_assoc, Int32.add_assoc, Int32.add_comm (-15)]
          rw [t2]
          by_cases cc : bq + 14 < y.2.2.2.1 + mg
          · rw [if_pos (by rw [Int32.lt_iff_toInt_lt, t1, sc_toInt (by omega)]; omega), if_pos cc]
            refine Int32.toInt_inj.mp ?_
            rw [t1, sc_toInt (by omega)]
            omega
          · rw [if_neg (by rw [Int32.lt_iff_toInt_lt, t1, sc_toInt (by omega)]; omega), if_neg cc]
        refine ih (!y.1, y.2.1 * 60 + c1, (if lo + lg < 19 - bq then 16 - bq else lo + lg - 3), (if bq + 14 < y.2.2.2.1 + mg then bq + 14 else y.2.2.2.1 + mg), oc', v, o', a', b') ⟨⟨j1, j2, n12, n13, ?_, ?_, ?_, ?_, ?_⟩, k2, fun t z ht hz hne => ?_, fun t ht ho => ?_, ?_, ?_⟩ _
        · show (if lo + lg < 19 - bq then 16 - bq else lo + lg - 3) ≤ 30
          by_cases cc : lo + lg < 19 - bq
          · rw [if_pos cc]; omega
          · rw [if_neg cc]; omega
        · show (if bq + 14 < y.2.2.2.1 + mg then bq + 14 else y.2.2.2.1 + mg) ≤ 30
          by_cases cc : bq + 14 < y.2.2.2.1 + mg
          · rw [if_pos cc]; omega
          · rw [if_neg cc]; omega
        · show o' 7 = _
          rw [j3 7 (by decide) (by decide) (by decide), up1_n (by decide)]
          exact h1g
        · show o' 8 = _
          rw [j3 8 (by decide) (by decide) (by decide), up1_n (by decide)]
          exact h1h
        · show o' 6 = _
          rw [j3 6 (by decide) (by decide) (by decide), up1_n (by decide)]
          exact h1i
        · show t < vP V ∧ oc' / 2 ^ t % 2 = 1 ∧ (if lo + lg < 19 - bq then 16 - bq else lo + lg - 3) ≤ z ∧ z ≤ (if bq + 14 < y.2.2.2.1 + mg then bq + 14 else y.2.2.2.1 + mg)
          obtain ⟨m1, m2, zz, m3, m4, m5, m6, m7⟩ := k4 t z hne
          obtain ⟨g1', g2'⟩ := hgn t m1
          refine ⟨m1, m2, ?_, ?_⟩
          · by_cases cc : lo + lg < 19 - bq
            · rw [if_pos cc]; omega
            · rw [if_neg cc]; omega
          · by_cases cc : bq + 14 < y.2.2.2.1 + mg
            · rw [if_pos cc]; omega
            · rw [if_neg cc]; omega
        · obtain ⟨f, f1, f2, f3⟩ := k5 t (by omega) ho
          have hgo : go hi f t = true := by
            cases h : go hi f t with
            | true => rfl
            | false => exact absurd (WY_go h) f3
          exact NR_go f1 (h4 f f1 f2) hgo
        · show (y.2.1 * 60 + c1) * 60 ^ (n - (u + 1)) + S2 31 (fun t z => v t z * rr V hi bb H c bq n (n - (u + 1)) t z) = _
          rw [hk2]
          have e1 := k3 (rr V hi bb H c bq n k) (60 ^ k)
          have e2 := rr_sum (V := V) (hi := hi) (c := c) (H := H) (n := n) (k := k) (b := bq) (lo := lo) (e := y.2.2.2.1 + 1) (bb := bb) (w := y.2.2.2.2.2.1) (by omega) (by rw [hku]; exact hh)
          rw [hku] at e2
          rw [e2, wsum] at e1
          rw [← h5, Nat.add_mul, Nat.mul_assoc, show 60 * 60 ^ k = 60 ^ (k + 1) by rw [Nat.pow_succ, Nat.mul_comm]]
          omega
        · show S2 31 v ≤ 60 ^ (u + 1)
          have e1 := k3 (fun _ _ => 1) 1
          have e2 := hmass bq (fun t => cnA hi c t)
          have e3 : S2 31 (fun t z => v t z * (fun _ _ => 1) t z) = S2 31 v := S2_eq (fun t z _ _ => Nat.mul_one _)
          rw [e3] at e1
          rw [Nat.pow_succ]
          omega
      · rw [cx_256, e28, hg120]
        intro _ _ hh
        have hh2 : hrd V H c u = false := by
          cases h : hrd V H c u with
          | false => rfl
          | true => exact absurd h hh
        refine f52 (d := d + 2) (u := u) (lo := lo) (hh := y.2.2.2.1) (bb := 16) (oc := y.2.2.2.2.1) (w := y.2.2.2.2.2.1) (y := WY V hi bb H u) (gn := fun _ => 3) hv (by omega) hlo30 h1f (by omega) (fun t => by decide) (by rw [up1_n (by decide)]; exact h1) h1b up1_s (by rw [up1_n (by decide)]; exact h1d) (Or.inl ⟨rfl, rfl, fun _ => rfl⟩) (fun t z ht hz => ⟨h2 t z ht hz, hsmall t z ht hz⟩) (fun t z ht hz hne => (h3 t z ht hz hne).2.1) (fun f t hf ho ht => ⟨hN u f t (by omega) hf (h4 f hf ho) ht, wy_le ht⟩) (fun c1 oc' v a' b' o' k1 k2 k3 k4 k5 => ?_)
        refine k_49_208 (fun _ => ?_) (fun c => absurd rfl c)
        have eL : nI (LF V H c n u) - 0 = nI (LF V H c n (u + 1)) := by
          have e1 := LF_s (V := V) (H := H) (c := c) (n := n) hu
          have : hb1 V H c u = 0 := by unfold hb1; rw [hh2]; rfl
          rw [this, Nat.zero_add] at e1
          rw [e1]
          exact Int32.sub_zero _
        rw [eL, show (60 : Int64) = lN 60 from rfl, lN_mul, lN_add, nI_1]
        obtain ⟨j1, j2, j3, j4, -⟩ := k1
        obtain ⟨j6, j7⟩ := j4 rfl
        refine ih (!y.1, y.2.1 * 60 + c1, lo, y.2.2.2.1, oc', v, o', a', b') ⟨⟨j1, j2, j6.trans up1_s, ?_, hlo30, h1f, ?_, ?_, ?_⟩, k2, fun t z ht hz hne => ?_, fun t ht ho => ?_, ?_, ?_⟩ _
        · show o' 14 = _
          rw [j7, up1_n (by decide)]
          exact h1d
        · show o' 7 = _
          rw [j3 7 (by decide) (by decide) (by decide), up1_n (by decide)]
          exact h1g
        · show o' 8 = _
          rw [j3 8 (by decide) (by decide) (by decide), up1_n (by decide)]
          exact h1h
        · show o' 6 = _
          rw [j3 6 (by decide) (by decide) (by decide), up1_n (by decide)]
          exact h1i
        · show t < vP V ∧ oc' / 2 ^ t % 2 = 1 ∧ lo ≤ z ∧ z ≤ y.2.2.2.1
          obtain ⟨m1, m2, zz, m3, m4, m5, m6, m7⟩ := k4 t z hne
          exact ⟨m1, m2, by omega, by omega⟩
        · obtain ⟨f, f1, f2, f3⟩ := k5 t (by omega) ho
          have hgo : go hi f t = true := by
            cases h : go hi f t with
            | true => rfl
            | false => exact absurd (WY_go h) f3
          exact NR_go f1 (h4 f f1 f2) hgo
        · show (y.2.1 * 60 + c1) * 60 ^ (n - (u + 1)) + S2 31 (fun t z => v t z * rr V hi bb H c bq n (n - (u + 1)) t z) = _
          rw [hk2]
          have e1 := k3 (rr V hi bb H c bq n k) (60 ^ k)
          have e2 := rr_sumn (V := V) (hi := hi) (c := c) (H := H) (n := n) (k := k) (b := bq) (lo := lo) (e := y.2.2.2.1 + 1) (bb := bb) (w := y.2.2.2.2.2.1) (by omega) (by rw [hku]; exact hh2)
          rw [hku] at e2
          rw [e2, wsum] at e1
          rw [← h5, Nat.add_mul, Nat.mul_assoc, show 60 * 60 ^ k = 60 ^ (k + 1) by rw [Nat.pow_succ, Nat.mul_comm]]
          omega
        · show S2 31 v ≤ 60 ^ (u + 1)
          have e1 := k3 (fun _ _ => 1) 1
          have e2 := hmass 16 (fun _ => 3)
          have e3 : S2 31 (fun t z => v t z * (fun _ _ => 1) t z) = S2 31 v := S2_eq (fun t z _ _ => Nat.mul_one _)
          rw [e3] at e1
          rw [Nat.pow_succ]
          omega
      · intro _ _
        rw [pk_sub (by omega)]
        exact vp_in_nI (by omega) (by decide)
      · intro _ hgt
        have hgt2 : y.2.2.2.1 < lo := by
          rcases Nat.lt_or_ge y.2.2.2.1 lo with h | h
          · exact h
          · refine absurd ?_ hgt
            rw [Int32.le_iff_toInt_le, sc_toInt (by omega), sc_toInt (by omega)]
            omega
        rw [pk_sub (by omega), nI_clamp (by omega), pw60 (by omega), lN_mul, cx_256]
        have e0 : y.2.1 * 60 ^ (n - u) = rr V hi bb H c bq n n D0 z0 := by
          rw [← h5, hk]
          rw [S2_z (fun t z ht hz => by
            by_cases c3 : z < lo
            · exact dead t z ht hz c3
            · rcases Nat.eq_zero_or_pos (y.2.2.2.2.2.1 t z) with w0 | w0
              · rw [w0, Nat.zero_mul]
              · have := h3 t z ht hz (by omega)
                omega)]
          rfl
        rw [e0]
        refine wR _ _ _ _ _ (aim _ ?_ ?_ ?_) <;> rw [up1_n (by decide)]
        · exact h1i
        · exact h1g
        · exact h1h
    · intro t z ht hz hne
      have hne' : (if t = D0 ∧ z = z0 then 1 else 0) ≠ 0 := hne
      by_cases cc : t = D0 ∧ z = z0
      · refine ⟨?_, (hocb t ht).mpr cc.1, ?_, ?_⟩
        · rcases hx with ⟨h, -⟩ | ⟨-, -, h, -⟩ <;> omega
        · show z0 ≤ z; omega
        · show z ≤ z0; omega
      · rw [if_neg cc] at hne'
        exact absurd rfl hne'
    · intro t ht ho
      have := (hocb t (by omega)).mp ho
      subst this
      exact hB0 ht
    · show 0 * 60 ^ (n - 0) + S2 31 (fun t z => (if t = D0 ∧ z = z0 then 1 else 0) * rr V hi bb H c bq n (n - 0) t z) = _
      rw [Nat.zero_mul, Nat.zero_add, Nat.sub_zero]
      rcases hx with ⟨h, -⟩ | ⟨h0, -, h, -⟩
      · rw [S2_one (t0 := D0) (z0 := z0) (by omega) (by omega) (fun t z _ _ hne => by rw [if_neg hne, Nat.zero_mul]), if_pos ⟨rfl, rfl⟩, Nat.one_mul]
      · rw [S2_z (fun t z ht _ => by rw [if_neg (by omega), Nat.zero_mul])]
        cases n with
        | zero => rfl
        | succ n =>
          show 0 = Ts _ (vP V)
          rw [h0]
          rfl
    · show S2 31 (fun t z => if t = D0 ∧ z = z0 then 1 else 0) ≤ 60 ^ 0
      rcases hx with ⟨h, -⟩ | ⟨h0, -, h, -⟩
      · rw [S2_one (t0 := D0) (z0 := z0) (by omega) (by omega) (fun t z _ _ hne => if_neg hne), if_pos ⟨rfl, rfl⟩]
        exact Nat.le_refl 1
      · rw [S2_z (fun t z ht _ => if_neg (by omega))]
        exact Nat.zero_le _
end PASSC
