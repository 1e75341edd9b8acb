/-! ===== draws: the class's weighPulls, countRow, countWays, goal ===== -/
abbrev cx (hi : Nat → Nat → Int32) (s o m p w g : Nat → Int32) : Nat → Nat → Int32 := uR (uR (uR (uR (uR (uR hi 27 s) 256 o) 257 m) 258 p) 259 w) 260 g
/-- where the pull of an hour, a place, bones laid, here stands -/
def ix (s t l e : Nat) : Nat := ((s * 8 + t) * 5 + l) * 2 + e
section WAYC
variable {d : Nat} {Q : am_Q} {hi : Nat → Nat → Int32} {hl : Nat → Nat → Int64} {sw : Bool} {kp : Nat → Nat} {V : vN} {x : Int32} {s o m p w g s' m' : Nat → Int32} {k : Nat}
theorem cx_id : cx hi (hi 27) (hi 256) (hi 257) (hi 258) (hi 259) (hi 260) = hi := by
  show uR (uR (uR (uR (uR (uR hi 27 (hi 27)) 256 (hi 256)) 257 (hi 257)) 258 (hi 258)) 259 (hi 259)) 260 (hi 260) = hi
  rw [uR_id, uR_id, uR_id, uR_id, uR_id, uR_id]
theorem cx_27 : uR (cx hi s o m p w g) 27 s' = cx hi s' o m p w g := by
  show uR (uR (uR (uR (uR (uR (uR hi 27 s) 256 o) 257 m) 258 p) 259 w) 260 g) 27 s' = _
  rw [uR_co (by decide), uR_co (i := 259) (by decide), uR_co (i := 258) (by decide), uR_co (i := 257) (by decide), uR_co (i := 256) (by decide), uR_uR]
theorem cx_257R : uR (cx hi s o m p w g) 257 m' = cx hi s o m' p w g := by
  show uR (uR (uR (uR (uR (uR (uR hi 27 s) 256 o) 257 m) 258 p) 259 w) 260 g) 257 m' = _
  rw [uR_co (by decide), uR_co (i := 259) (by decide), uR_co (i := 258) (by decide), uR_uR]
theorem cx_256 : u2 (cx hi s o m p w g) 256 k x = cx hi s (up1 o k x) m p w g := by
  show u2 (uR (uR (uR (uR (uR (uR hi 27 s) 256 o) 257 m) 258 p) 259 w) 260 g) 256 k x = _
  rw [u2_co (by decide), u2_co (by decide), u2_co (by decide), u2_co (by decide), u2_in]
theorem cx_257 : u2 (cx hi s o m p w g) 257 k x = cx hi s o (up1 m k x) p w g := by
  show u2 (uR (uR (uR (uR (uR (uR hi 27 s) 256 o) 257 m) 258 p) 259 w) 260 g) 257 k x = _
  rw [u2_co (by decide), u2_co (by decide), u2_co (by decide), u2_in]
theorem cx_258 : u2 (cx hi s o m p w g) 258 k x = cx hi s o m (up1 p k x) w g := by
  show u2 (uR (uR (uR (uR (uR (uR hi 27 s) 256 o) 257 m) 258 p) 259 w) 260 g) 258 k x = _
  rw [u2_co (by decide), u2_co (by decide), u2_in]
theorem cx_259 : u2 (cx hi s o m p w g) 259 k x = cx hi s o m p (up1 w k x) g := by
  show u2 (uR (uR (uR (uR (uR (uR hi 27 s) 256 o) 257 m) 258 p) 259 w) 260 g) 259 k x = _
  rw [u2_co (by decide), u2_in]
theorem cx_260 : u2 (cx hi s o m p w g) 260 k x = cx hi s o m p w (up1 g k x) := u2_in
theorem f38 (w' : ∀ m' : Nat → Int32, (∀ j, j < 8 → m' j = nI 0) → Q none (mkH (cx hi s o m' p w g) hl sw kp)) : cS (d + 2) 38 [.ref 256] (mkH (cx hi s o m p w g) hl sw kp) Q := by
  refine e_38 (e_287_257 (lpu (σ := Nat → Int32) 8 (fun i L => cW cd_287 d _ 5 [some (.ref 257), some (.int 0), some (.int (nI i)), some (.int (Int32.ofNat 8))] [] (mkH (cx hi s o L p w g) hl sw kp)) (fun i L => ∀ j, j < i → L j = nI 0) ?_ ?_ 8 0 m rfl (fun j hj => absurd hj (Nat.not_lt_zero j))))
  · intro L h
    exact k_287_257_5 (fun _ => k_38_8 (w' L h)) (fun c => absurd (by decide) c) (fun c => absurd (by decide) c)
  · intro i L hi' h ih
    refine k_287_257_5 (fun c => absurd c (nI_ge (a := i) (b := 8) hi' (by decide))) (fun _ => vp_in_nI hi' (by decide)) (fun _ => ?_)
    rw [nI_clamp (by omega), nI_1]
    refine cW.hi cx_257 (ih _ (fun j hj => ?_))
    by_cases hji : j = i
    · subst hji
      rw [up1_s]
      rfl
    · rw [up1_n hji]
      exact h j (by omega)
theorem g118 {n : Nat} (hv : R_vil V hi) (hn : n ≤ 5000) : g_118 hi (nI n) = nI (n / vDy V) := by
  have hb := hv.1
  unfold g_118
  rw [hv.2.1.2.2.2.2.1, if_neg (nI_nle (n := vDy V) (by omega) (by omega)), pk_div (by omega) (by omega) (by omega)]
theorem f39 {N M H : Nat} {bo : Nat → Nat} (hv : R_vil V hi) (hpu : R_pul hi) (hN : N ≤ 8) (hM : M ≤ 4) (hH : H ≤ 2000) (eH : hi 28 1 = nI H) (hbo : ∀ t, t < vP V → hi 29 t = nI (bo t)) (w' : ∀ s' p' : Nat → Int32, (∀ u t l e, u < N → t < vP V → l ≤ M → e < 2 → p' (ix u t l e) = nI (PU V hi t (if H / vDy V < (H + u) / vDy V then 0 else bo t + l) (H + u) e)) → Q none (mkH (cx hi s' o m p' w g) hl sw kp)) : cS (d + 5) 39 [.ref 256, .int (nI N), .int (nI M)] (mkH (cx hi s o m p w g) hl sw kp) Q := by
  have hb8 := hv.1
  refine e_39 (lpu (σ := (Nat → Int32) × (Nat → Int32)) N (fun i z => ∀ o4 o5 o6 o7 o8 o9 : Option Value, cW cd_39 (d + 4) Q 2 [some (.ref 256), some (.int (nI N)), some (.int (nI M)), some (.int (nI i)), o4, o5, o6, o7, o8, o9] [] (mkH (cx hi z.1 o m z.2 w g) hl sw kp)) (fun i z => ∀ u t l e, u < i → t < vP V → l ≤ M → e < 2 → z.2 (ix u t l e) = nI (PU V hi t (if H / vDy V < (H + u) / vDy V then 0 else bo t + l) (H + u) e)) ?_ ?_ N 0 (s, p) (Nat.zero_add N) (fun u t l e hu => absurd hu (Nat.not_lt_zero u)) none none none none none none)
  · intro z hz o4 o5 o6 o7 o8 o9
    exact k_39_2 (fun _ => w' z.1 z.2 hz) (fun c => absurd (Int32.le_refl _) c) (fun c => absurd (Int32.le_refl _) c) (fun c => absurd (Int32.le_refl _) c)
  · intro i z hiN hz ih o4 o5 o6 o7 o8 o9
    have e28 : (cx hi z.1 o m z.2 w g) 28 1 = nI H := eH
    have eHi : (cx hi z.1 o m z.2 w g) 28 1 + nI i = nI (H + i) := by rw [e28, nI_add]
    have ega : g_118 (cx hi z.1 o m z.2 w g) (nI (H + i)) = nI ((H + i) / vDy V) := g118 (hi := cx hi z.1 o m z.2 w g) hv (by omega)
    have egb : g_118 (cx hi z.1 o m z.2 w g) (nI H) = nI (H / vDy V) := g118 (hi := cx hi z.1 o m z.2 w g) hv (by omega)
    have hd1 : (H + i) / vDy V ≤ H + i := Nat.div_le_self _ _
    have hd2 : H / vDy V ≤ H := Nat.div_le_self _ _
    -- all places at this hour
    have mid : ∀ fl : Nat, (fl = if H / vDy V < (H + i) / vDy V then 1 else 0) → ∀ o7 o8 o9 : Option Value, cW cd_39 (d + 4) Q 60 [some (.ref 256), some (.int (nI N)), some (.int (nI M)), some (.int (nI i)), some (.int (nI (H + i))), some (.int (nI fl)), some (.int (nI 0)), o7, o8, o9] [] (mkH (cx hi z.1 o m z.2 w g) hl sw kp) := by
      intro fl hfl
      refine lpu (σ := (Nat → Int32) × (Nat → Int32)) (vP V) (fun j y => ∀ o7 o8 o9 : Option Value, cW cd_39 (d + 4) Q 60 [some (.ref 256), some (.int (nI N)), some (.int (nI M)), some (.int (nI i)), some (.int (nI (H + i))), some (.int (nI fl)), some (.int (nI j)), o7, o8, o9] [] (mkH (cx hi y.1 o m y.2 w g) hl sw kp)) (fun j y => ∀ u t l e, (u < i ∨ (u = i ∧ t < j)) → t < vP V → l ≤ M → e < 2 → y.2 (ix u t l e) = nI (PU V hi t (if H / vDy V < (H + u) / vDy V then 0 else bo t + l) (H + u) e)) ?_ ?_ (vP V) 0 z (Nat.zero_add _) (fun u t l e hu => hz u t l e (by omega))
      · intro y hy o7 o8 o9
        have c0 : (cx hi y.1 o m y.2 w g) 19 1 ≤ nI (vP V) := by
          show hi 19 1 ≤ _
          rw [hv.2.1.2.1]
          exact Int32.le_refl _
        refine k_39_60 (fun _ => ?_) (fun c => absurd c0 c)
        rw [nI_1]
        exact ih y (fun u t l e hu ht hl' he => hy u t l e (by omega) ht hl' he) _ _ _ _ _ _
      · intro j y hjP hy ih2 o7 o8 o9
        have c0 : ¬ (cx hi y.1 o m y.2 w g) 19 1 ≤ nI j := by
          show ¬ hi 19 1 ≤ _
          rw [hv.2.1.2.1]
          exact nI_ge hjP (by omega)
        have ej : (nI j).toNatClampNeg = j := nI_clamp (by omega)
        refine k_39_60 (fun c => absurd c c0) (fun _ => ?_)
        refine lpu (σ := (Nat → Int32) × (Nat → Int32)) (M + 1) (fun l y => ∀ o8 o9 : Option Value, cW cd_39 (d + 4) Q 75 [some (.ref 256), some (.int (nI N)), some (.int (nI M)), some (.int (nI i)), some (.int (nI (H + i))), some (.int (nI fl)), some (.int (nI j)), some (.int (nI l)), o8, o9] [] (mkH (cx hi y.1 o m y.2 w g) hl sw kp)) (fun l' y => ∀ u t l e, (u < i ∨ (u = i ∧ (t < j ∨ (t = j ∧ l < l')))) → t < vP V → l ≤ M → e < 2 → y.2 (ix u t l e) = nI (PU V hi t (if H / vDy V < (H + u) / vDy V then 0 else bo t + l) (H + u) e)) ?_ ?_ (M + 1) 0 y (Nat.zero_add _) (fun u t l e hu => hy u t l e (by omega)) o8 o9
        · intro y hy o8 o9
          have c1 : nI M < nI (M + 1) := nI_lt (by omega) (by omega)
          refine k_39_75 (fun _ => ?_) (fun c => absurd c1 c) (fun c => absurd c1 c) (fun c => absurd c1 c) (fun c => absurd c1 c)
          rw [nI_1]
          exact ih2 y (fun u t l e hu ht hl' he => hy u t l e (by omega) ht hl' he) _ _ _
        · intro l y hlM hy ih3 o8 o9
          have c1 : ¬ nI M < nI l := nI_nlt (by omega) (by omega)
          have c2 : ¬ (4 : Int32) < nI l := nI_nlt (a := 4) (by omega) (by decide)
          have e9 : ((nI i * 8 + nI j) * 5 + nI l) * 2 = nI (ix i j l 0) := by
            rw [show (8 : Int32) = nI 8 from rfl, show (5 : Int32) = nI 5 from rfl, show (2 : Int32) = nI 2 from rfl, pk_mul, nI_add, pk_mul, nI_add, pk_mul]
            rfl
          have hix : ix i j l 0 + 1 < 640 := by unfold ix; omega
          have ixe : ix i j l 1 = ix i j l 0 + 1 := rfl
          -- both pulls are laid
          have lay : ∀ (B : Nat), B = (if H / vDy V < (H + i) / vDy V then 0 else bo j + l) → ∀ x8 : Int32, x8 = nI B → cS (d + 4) 121 [.ref 19, .int (nI j), .int x8, .int (nI (H + i)), .int (nI 0)] (mkH (cx hi y.1 o m y.2 w g) hl sw kp) (am_ret (cW cd_39 (d + 4) Q) 147 [some (.ref 256), some (.int (nI N)), some (.int (nI M)), some (.int (nI i)), some (.int (nI (H + i))), some (.int (nI fl)), some (.int (nI j)), some (.int (nI l)), some (.int x8), some (.int (nI (ix i j l 0)))] [.int (nI (ix i j l 0)), .ref 258]) := by
            intro B hB x8 hx8
            subst hx8
            refine f121 (d := d) (V := V) (hi := cx hi y.1 o m y.2 w g) hv hpu hjP (by omega) (fun f1 => ?_)
            refine cW.hi cx_27 (k_39_147 (vp_in_nI (by omega) (by decide)) ?_)
            rw [nI_clamp (by omega), cx_258]
            refine f121 (d := d) (V := V) (e := 1) (hi := cx hi f1 o m (up1 y.2 (ix i j l 0) (nI (PU V (cx hi y.1 o m y.2 w g) j B (H + i) 0))) w g) hv hpu hjP (by omega) (fun f2 => ?_)
            rw [nI_1]
            refine cW.hi cx_27 (k_39_170 (vp_in_nI (by omega) (by decide)) ?_)
            rw [nI_clamp (by omega), cx_258, nI_1]
            refine ih3 (f2, up1 (up1 y.2 (ix i j l 0) (nI (PU V (cx hi y.1 o m y.2 w g) j B (H + i) 0))) (ix i j l 0 + 1) (nI (PU V (cx hi f1 o m (up1 y.2 (ix i j l 0) (nI (PU V (cx hi y.1 o m y.2 w g) j B (H + i) 0))) w g) j B (H + i) 1))) (fun u t l2 e hu ht hl2 he => ?_) _ _
            show up1 (up1 y.2 (ix i j l 0) _) (ix i j l 0 + 1) _ (ix u t l2 e) = _
            by_cases q1 : ix u t l2 e = ix i j l 0 + 1
            · have q2 : u = i ∧ t = j ∧ l2 = l ∧ e = 1 := by unfold ix at q1; omega
              obtain ⟨rfl, rfl, rfl, rfl⟩ := q2
              rw [q1, up1_s, ← hB]
              rfl
            · rw [up1_n q1]
              by_cases q3 : ix u t l2 e = ix i j l 0
              · have q2 : u = i ∧ t = j ∧ l2 = l ∧ e = 0 := by unfold ix at q3; omega
                obtain ⟨rfl, rfl, rfl, rfl⟩ := q2
                rw [up1_s, ← hB]
                rfl
              · rw [up1_n q3]
                refine hy u t l2 e ?_ ht hl2 he
                have q4 : ¬ (u = i ∧ t = j ∧ l2 = l) := by
                  intro q5
                  obtain ⟨rfl, rfl, rfl⟩ := q5
                  unfold ix at q1 q3
                  omega
                omega
          refine k_39_75 (fun c => absurd c c1) (fun _ c => absurd c c2) (fun _ _ _ => vp_in_nI (by omega) (by decide)) (fun _ _ c => ?_) (fun _ _ c => ?_)
          · have hg : ¬ H / vDy V < (H + i) / vDy V := by
              intro q
              rw [if_pos q] at hfl
              rw [hfl] at c
              exact absurd c (by decide)
            rw [e9, ej]
            refine lay (bo j + l) (by rw [if_neg hg]) _ ?_
            show hi 29 j + nI l = _
            rw [hbo j hjP, nI_add]
          · have hg : H / vDy V < (H + i) / vDy V := by
              rcases Nat.lt_or_ge (H / vDy V) ((H + i) / vDy V) with q | q
              · exact q
              · rw [if_neg (by omega)] at hfl
                rw [hfl] at c
                exact absurd rfl c
            rw [e9]
            exact lay 0 (by rw [if_pos hg]) 0 rfl
    refine k_39_2 (fun c => absurd c (nI_ge hiN (by omega))) (fun _ c => absurd c (nI_ge (a := i) (b := 8) (by omega) (by decide))) ?_ ?_ <;> rw [eHi, e28, ega, egb] <;> intro _ _ c
    · have c1 := (nI_leI (by omega) (by omega)).mp c
      exact mid 0 (by rw [if_neg (by omega)]) _ _ _
    · have c1 : ¬ (H + i) / vDy V ≤ H / vDy V := fun q => c (nI_le q (by omega))
      exact mid 1 (by rw [if_pos (by omega)]) _ _ _
theorem rch {f t : Nat} (hv : R_vil V hi) (hf : f < vP V) (ht : t < vP V) : ((hi 22 f ||| ((1 : Int32) <<< (nI f &&& 31))) >>> (nI t &&& 31) &&& 1) = 0 ↔ go hi f t = false := by
  have hb := hv.1
  obtain ⟨l, l1, l2, l3⟩ := (hv.2.2.2.1 f hf).2.2
  have hp := pw_bit f (by omega) t (by omega)
  rw [l2, (sh8 f (by omega)).2, fa_or, bit8z (by have := or_lt8 l1 hp.2; omega) (by omega)]
  have ob := or_bit l (2 ^ f) t
  have h2 : (l ||| 2 ^ f) / 2 ^ t % 2 < 2 := Nat.mod_lt _ (by decide)
  unfold go
  rw [l2, nI_clamp (by omega)]
  constructor
  · intro c
    have h3 : ¬ l / 2 ^ t % 2 = 1 := fun q => by
      have := ob.mpr (Or.inl q)
      omega
    have h4 : ¬ t = f := fun q => by
      have := ob.mpr (Or.inr (hp.1.mpr q))
      omega
    rw [am_beq (fun q => h4 q.symm), am_beq h3]
    rfl
  · intro c
    rcases Nat.eq_zero_or_pos ((l ||| 2 ^ f) / 2 ^ t % 2) with z | z
    · exact z
    · rcases ob.mp (by omega) with q | q
      · rw [q] at c
        rw [show Nat.beq 1 1 = true from rfl, Bool.or_true] at c
        exact absurd c (by decide)
      · rw [hp.1.mp q, Nat.beq_refl] at c
        exact absurd c (by simp)
theorem g42 {u f t : Nat} {mr pl : Nat → Nat} (hu : u < 8) (hf : f < 8) (ht : t < 8) (hm : m t = nI (mr t) ∧ mr t ≤ 4) (hpl : p (ix u t (mr t) (bif Nat.beq f t then 1 else 0)) = nI (pl t)) : g_42 (cx hi s o m p w g) (nI u) (nI f) (nI t) = nI (pl t) ∧ ((nI u * 8 + nI t) * 5 + nI (mr t)) * 2 = nI (ix u t (mr t) 0) ∧ ix u t (mr t) 0 + 1 < 640 ∧ (cx hi s o m p w g) 257 t = nI (mr t) := by
  have e9 : ((nI u * 8 + nI t) * 5 + nI (mr t)) * 2 = nI (ix u t (mr t) 0) := by
    rw [show (8 : Int32) = nI 8 from rfl, show (5 : Int32) = nI 5 from rfl, show (2 : Int32) = nI 2 from rfl, pk_mul, nI_add, pk_mul, nI_add, pk_mul]
    rfl
  have hix : ix u t (mr t) 0 + 1 < 640 := by unfold ix; omega
  have et : (nI t).toNatClampNeg = t := nI_clamp (by omega)
  have e257 : (cx hi s o m p w g) 257 t = nI (mr t) := hm.1
  refine ⟨?_, e9, hix, e257⟩
  unfold g_42
  rw [et, e257, if_neg (nI_pos (by omega)), if_pos (show nI (mr t) ≤ (4 : Int32) from nI_le (b := 4) hm.2 (by decide)), e9, nI_1, show nI (ix u t (mr t) 0) + 0 = nI (ix u t (mr t) 0) from Int32.add_zero _, nI_clamp (by omega), nI_clamp (by omega)]
  by_cases c : f = t
  · subst c
    rw [Nat.beq_refl] at hpl
    rw [if_pos rfl]
    exact hpl
  · rw [am_beq c] at hpl
    rw [if_neg (fun q => c ((nI_eq (by omega) (by omega)).mp q))]
    exact hpl
theorem f41 {u f : Nat} {mr pl : Nat → Nat} (hv : R_vil V hi) (hu : u < 8) (hf : f < vP V) (hm : ∀ t, t < vP V → m t = nI (mr t) ∧ mr t ≤ 4) (hpl : ∀ t, t < vP V → p (ix u t (mr t) (bif Nat.beq f t then 1 else 0)) = nI (pl t)) (hpl9 : ∀ t, pl t ≤ 99) (w' : ∀ v : Nat → Int32, (∀ t, t < vP V → v ((u * 8 + f) * 8 + t) = nI (wy (fun t => bif go hi f t then pl t else 0) (vP V) f t)) → (∀ j, j < (u * 8 + f) * 8 ∨ (u * 8 + f) * 8 + vP V ≤ j → v j = w j) → Q none (mkH (cx hi s o m p v g) hl sw kp)) : cS (d + 2) 41 [.ref 256, .int (nI u), .int (nI f)] (mkH (cx hi s o m p w g) hl sw kp) Q := by
  have hb := hv.1
  have ef : (nI f).toNatClampNeg = f := nI_clamp (by omega)
  have e3 : (nI u * 8 + nI f) * 8 = nI ((u * 8 + f) * 8) := by
    rw [show (8 : Int32) = nI 8 from rfl, pk_mul, nI_add, pk_mul]
  have hq9 : ∀ t, (bif go hi f t then pl t else 0) ≤ 99 := by
    intro t
    cases go hi f t
    · exact Nat.zero_le _
    · exact hpl9 t
  have hT := Ts_b hq9
  have hTP := hT (vP V)
  refine e_41 (vp_in_nI (by omega) (by decide)) ?_
  rw [e3, ef]
  have er : ∀ (v : Nat → Int32), (cx hi s o m p v g) 22 f = hi 22 f := fun v => rfl
  have e19 : ∀ (v : Nat → Int32), (cx hi s o m p v g) 19 1 = nI (vP V) := fun v => hv.2.1.2.1
  rw [er]
  refine lpu (σ := Nat → Int32) (vP V) (fun i v => cW cd_41 (d + 1) Q 31 [some (.ref 256), some (.int (nI u)), some (.int (nI f)), some (.int (nI ((u * 8 + f) * 8))), some (.int (hi 22 f ||| ((1 : Int32) <<< (nI f &&& 31)))), some (.int (nI (Ts (fun t => bif go hi f t then pl t else 0) i))), some (.int (nI i)), none, none, none] [] (mkH (cx hi s o m p v g) hl sw kp)) (fun i v => (∀ t, t < i → v ((u * 8 + f) * 8 + t) = nI 0) ∧ ∀ j, j < (u * 8 + f) * 8 ∨ (u * 8 + f) * 8 + vP V ≤ j → v j = w j) ?_ ?_ (vP V) 0 w (Nat.zero_add _) ⟨fun t ht => absurd ht (Nat.not_lt_zero t), fun j _ => rfl⟩
  · intro v ⟨h1, h2⟩
    have c0 : (cx hi s o m p v g) 19 1 ≤ nI (vP V) := by rw [e19]; exact Int32.le_refl _
    refine k_41_31 (fun _ c => ?_) (fun _ _ => by rw [nI_add]; exact vp_in_nI (by omega) (by decide)) (fun _ c => ?_) (fun c => absurd c0 c) (fun c => absurd c0 c) (fun c => absurd c0 c) (fun c => absurd c0 c) (fun c => absurd c0 c) (fun c => absurd c0 c) (fun c => absurd c0 c)
    · have cA : 0 < Ts (fun t => bif go hi f t then pl t else 0) (vP V) := (nI_ltI (a := 0) (by decide) (by omega)).mp c
      refine lpu (σ := Nat → Int32) (vP V) (fun i v => ∀ o9 : Option Value, cW cd_41 (d + 1) Q 107 [some (.ref 256), some (.int (nI u)), some (.int (nI f)), some (.int (nI ((u * 8 + f) * 8))), some (.int (hi 22 f ||| ((1 : Int32) <<< (nI f &&& 31)))), some (.int (nI (Ts (fun t => bif go hi f t then pl t else 0) (vP V)))), some (.int (nI (Ts (fun t => bif go hi f t then pl t else 0) i))), some (.int (nI (cdv (60 * Ts (fun t => bif go hi f t then pl t else 0) i) (Ts (fun t => bif go hi f t then pl t else 0) (vP V))))), some (.int (nI i)), o9] [] (mkH (cx hi s o m p v g) hl sw kp)) (fun i v => (∀ t, t < vP V → v ((u * 8 + f) * 8 + t) = nI (if t < i then wy (fun t => bif go hi f t then pl t else 0) (vP V) f t else 0)) ∧ ∀ j, j < (u * 8 + f) * 8 ∨ (u * 8 + f) * 8 + vP V ≤ j → v j = w j) ?_ ?_ (vP V) 0 v (Nat.zero_add _) ⟨fun t ht => by rw [if_neg (Nat.not_lt_zero t)]; exact h1 t ht, h2⟩ none |> (fun z => by
        have e0 : cdv (60 * Ts (fun t => bif go hi f t then pl t else 0) 0) (Ts (fun t => bif go hi f t then pl t else 0) (vP V)) = 0 := by
          show cdv (60 * 0) _ = 0
          rw [Nat.mul_zero, cdv_0 cA]
        rw [e0] at z
        exact z)
      · intro v ⟨h1, h2⟩ o9
        have c0 : (cx hi s o m p v g) 19 1 ≤ nI (vP V) := by rw [e19]; exact Int32.le_refl _
        refine k_41_107 (fun _ => w' v (fun t ht => ?_) h2) (fun c => absurd c0 c) (fun c => absurd c0 c) (fun c => absurd c0 c) (fun c => absurd c0 c) (fun c => absurd c0 c) (fun c => absurd c0 c) (fun c => absurd c0 c)
        rw [h1 t ht, if_pos ht]
      · intro i v hiP ⟨h1, h2⟩ ih o9
        have c0 : ¬ (cx hi s o m p v g) 19 1 ≤ nI i := by rw [e19]; exact nI_ge hiP (by omega)
        have hr := rch hv hf hiP
        obtain ⟨q1, q2, q3, q4⟩ := g42 (hi := hi) (s := s) (o := o) (w := v) (g := g) (pl := pl) hu (show f < 8 by omega) (show i < 8 by omega) (hm i hiP) (hpl i hiP)
        have ei : (nI i).toNatClampNeg = i := nI_clamp (by omega)
        have hTi := hT i
        have hTi1 := hT (i + 1)
        refine k_41_107 (fun c => absurd c c0) (fun _ c => ?_) (fun _ _ => vp_in_nI (by omega) (by decide)) (fun _ _ _ _ _ => by rw [ei, q4, q2, nI_1]; exact vp_in_nI (by omega) (by decide)) (fun _ _ _ _ _ => by rw [ei, q4, q2, show nI (ix u i (mr i) 0) + 0 = nI (ix u i (mr i) 0) from Int32.add_zero _]; exact vp_in_nI (by omega) (by decide)) (fun _ _ => nI_ne0 cA (by omega)) (fun _ _ => by rw [nI_add]; exact vp_in_nI (by omega) (by decide)) (fun _ c => ?_)
        · have hgo := hr.mp c
          have eT : Ts (fun t => bif go hi f t then pl t else 0) (i + 1) = Ts (fun t => bif go hi f t then pl t else 0) i := by
            show Ts _ i + (bif go hi f i then pl i else 0) = _
            rw [hgo]
            rfl
          rw [nI_1]
          have := ih v ⟨fun t ht => ?_, h2⟩ o9
          · rw [eT] at this
            exact this
          · rw [h1 t ht]
            by_cases hti : t = i
            · subst hti
              rw [if_neg (Nat.lt_irrefl t), if_pos (by omega)]
              unfold wy
              rw [if_neg (by omega), eT, Nat.sub_self]
            · by_cases h3 : t < i
              · rw [if_pos h3, if_pos (by omega)]
              · rw [if_neg h3, if_neg (by omega)]
        · have hgo : go hi f i = true := by
            cases hg : go hi f i with
            | true => rfl
            | false => exact absurd (hr.mpr hg) c
          have eT : Ts (fun t => bif go hi f t then pl t else 0) (i + 1) = Ts (fun t => bif go hi f t then pl t else 0) i + pl i := by
            show Ts _ i + (bif go hi f i then pl i else 0) = _
            rw [hgo]
            rfl
          have hmono := cdv_mono (b := Ts (fun t => bif go hi f t then pl t else 0) (vP V)) (Nat.mul_le_mul_left 60 (Ts_le (q := fun t => bif go hi f t then pl t else 0) (show i ≤ i + 1 by omega)))
          have hc60 := cdv_mono (b := Ts (fun t => bif go hi f t then pl t else 0) (vP V)) (Nat.mul_le_mul_left 60 (Ts_le (q := fun t => bif go hi f t then pl t else 0) (show i + 1 ≤ vP V by omega)))
          rw [cdv_60 cA] at hc60
          have eu : ((60 : Int32) * (nI (Ts (fun t => bif go hi f t then pl t else 0) i) + nI (pl i)) + nI (Ts (fun t => bif go hi f t then pl t else 0) (vP V)) - 1) / nI (Ts (fun t => bif go hi f t then pl t else 0) (vP V)) = nI (cdv (60 * Ts (fun t => bif go hi f t then pl t else 0) (i + 1)) (Ts (fun t => bif go hi f t then pl t else 0) (vP V))) := by
            rw [nI_add, ← eT, show (60 : Int32) = nI 60 from rfl, pk_mul, nI_add, show nI (60 * Ts (fun t => bif go hi f t then pl t else 0) (i + 1) + Ts (fun t => bif go hi f t then pl t else 0) (vP V)) - 1 = nI (60 * Ts (fun t => bif go hi f t then pl t else 0) (i + 1) + Ts (fun t => bif go hi f t then pl t else 0) (vP V) - 1) from pk_sub (b := 1) (by omega), pk_div (by omega) cA (by omega)]
            rfl
          rw [q1, eu, pk_sub hmono, nI_add, nI_add, ← eT, nI_clamp (by omega), nI_1, cx_259]
          refine ih (up1 v ((u * 8 + f) * 8 + i) _) ⟨fun t ht => ?_, fun j hj => ?_⟩ _
          · by_cases hti : t = i
            · subst hti
              rw [up1_s, if_pos (by omega)]
              unfold wy
              rw [if_neg (by omega)]
            · rw [up1_n (by omega), h1 t ht]
              by_cases h3 : t < i
              · rw [if_pos h3, if_pos (by omega)]
              · rw [if_neg h3, if_neg (by omega)]
          · rw [up1_n (by omega)]
            exact h2 j hj
    · have cA : Ts (fun t => bif go hi f t then pl t else 0) (vP V) = 0 := by
        rcases Nat.eq_zero_or_pos (Ts (fun t => bif go hi f t then pl t else 0) (vP V)) with z | z
        · exact z
        · exact absurd (nI_lt (a := 0) z (by omega)) c
      rw [nI_add, nI_clamp (by omega), cx_259]
      refine w' _ (fun t ht => ?_) (fun j hj => ?_)
      · unfold wy
        rw [if_pos cA]
        by_cases htf : t = f
        · subst htf
          rw [up1_s, if_pos rfl]
          rfl
        · rw [up1_n (by omega), if_neg htf]
          exact h1 t ht
      · rw [up1_n (by omega)]
        exact h2 j hj
  · intro i v hiP ⟨h1, h2⟩ ih
    have c0 : ¬ (cx hi s o m p v g) 19 1 ≤ nI i := by rw [e19]; exact nI_ge hiP (by omega)
    have hr := rch hv hf hiP
    obtain ⟨q1, q2, q3, q4⟩ := g42 (hi := hi) (s := s) (o := o) (w := v) (g := g) (pl := pl) hu (show f < 8 by omega) (show i < 8 by omega) (hm i hiP) (hpl i hiP)
    have ei : (nI i).toNatClampNeg = i := nI_clamp (by omega)
    have st : ∀ z, z = Ts (fun t => bif go hi f t then pl t else 0) (i + 1) → cW cd_41 (d + 1) Q 31 [some (.ref 256), some (.int (nI u)), some (.int (nI f)), some (.int (nI ((u * 8 + f) * 8))), some (.int (hi 22 f ||| ((1 : Int32) <<< (nI f &&& 31)))), some (.int (nI z)), some (.int (nI (i + 1))), none, none, none] [] (mkH (cx hi s o m p (up1 v ((u * 8 + f) * 8 + i) 0) g) hl sw kp) := by
      intro z hz
      subst hz
      refine ih _ ⟨fun t ht => ?_, fun j hj => ?_⟩
      · by_cases hti : t = i
        · subst hti
          rw [up1_s]
          rfl
        · rw [up1_n (by omega)]
          exact h1 t (by omega)
      · rw [up1_n (by omega)]
        exact h2 j hj
    refine k_41_31 (fun c => absurd c c0) (fun c => absurd c c0) (fun c => absurd c c0) (fun _ _ => by rw [nI_add]; exact vp_in_nI (by omega) (by decide)) (fun _ c => ?_) (fun _ _ => vp_in_nI (by omega) (by decide)) (fun _ _ _ _ _ => by rw [ei, q4, q2, nI_1]; exact vp_in_nI (by omega) (by decide)) (fun _ _ _ _ _ => by rw [ei, q4, q2, show nI (ix u i (mr i) 0) + 0 = nI (ix u i (mr i) 0) from Int32.add_zero _]; exact vp_in_nI (by omega) (by decide)) (fun _ _ => by rw [nI_add]; exact vp_in_nI (by omega) (by decide)) (fun _ c => ?_)
    · have hgo := hr.mp c
      rw [nI_add, nI_clamp (by omega), nI_1, cx_259]
      refine st _ ?_
      show _ = Ts _ i + (bif go hi f i then pl i else 0)
      rw [hgo]
      rfl
    · have hgo : go hi f i = true := by
        cases hg : go hi f i with
        | true => rfl
        | false => exact absurd (hr.mpr hg) c
      rw [q1, nI_add, nI_add, nI_clamp (by omega), nI_1, cx_259]
      refine st _ ?_
      show _ = Ts _ i + (bif go hi f i then pl i else 0)
      rw [hgo]
      rfl
/-- where the dog can be s hours ahead -/
def NR (V : vN) (hi : Nat → Nat → Int32) (B : Nat) : Nat → Nat → Prop
  | 0, q => B / 2 ^ q % 2 = 1
  | u + 1, q => NR V hi B u q ∨ ∃ f, f < vP V ∧ NR V hi B u f ∧ (hi 22 f).toNatClampNeg / 2 ^ q % 2 = 1
theorem NR_go {B u f t : Nat} (hf : f < vP V) (h : NR V hi B u f) (hg : go hi f t = true) : NR V hi B (u + 1) t := by
  unfold go at hg
  rcases (Bool.or_eq_true _ _).mp hg with q | q
  · have := Nat.eq_of_beq_eq_true q
    subst this
    exact Or.inl h
  · exact Or.inr ⟨f, hf, h, Nat.eq_of_beq_eq_true q⟩
theorem f40 {B fi en : Nat} {mr : Nat → Nat} {pl : Nat → Nat → Nat → Nat} (hv : R_vil V hi) (hB : B < 256) (hfi : fi ≤ 8) (hen : en ≤ 8) (hm : ∀ t, t < vP V → m t = nI (mr t) ∧ mr t ≤ 4) (hpl : ∀ u t e, fi ≤ u → u < en → t < vP V → e < 2 → p (ix u t (mr t) e) = nI (pl u t e)) (hpl9 : ∀ u t e, pl u t e ≤ 99) (w' : ∀ v : Nat → Int32, (∀ u f t, fi ≤ u → u < en → f < vP V → NR V hi B u f → t < vP V → v ((u * 8 + f) * 8 + t) = nI (wy (fun t => bif go hi f t then pl u t (bif Nat.beq f t then 1 else 0) else 0) (vP V) f t)) → (∀ j, j < 64 * fi ∨ 64 * en ≤ j → v j = w j) → Q none (mkH (cx hi s o m p v g) hl sw kp)) : cS (d + 3) 40 [.ref 256, .int (nI B), .int (nI fi), .int (nI en)] (mkH (cx hi s o m p w g) hl sw kp) Q := by
  have hb := hv.1
  have e19 : ∀ (v : Nat → Int32), (cx hi s o m p v g) 19 1 = nI (vP V) := fun v => hv.2.1.2.1
  refine e_40 (lpu (σ := Nat × (Nat → Int32)) en (fun u z => ∀ o6 o7 : Option Value, cW cd_40 (d + 2) Q 6 [some (.ref 256), some (.int (nI B)), some (.int (nI fi)), some (.int (nI en)), some (.int (nI z.1)), some (.int (nI u)), o6, o7] [] (mkH (cx hi s o m p z.2 g) hl sw kp)) (fun u' z => (z.1 < 256 ∧ ∀ q, q < 8 → (z.1 / 2 ^ q % 2 = 1 ↔ NR V hi B u' q)) ∧ (∀ u f t, fi ≤ u → u < u' → f < vP V → NR V hi B u f → t < vP V → z.2 ((u * 8 + f) * 8 + t) = nI (wy (fun t => bif go hi f t then pl u t (bif Nat.beq f t then 1 else 0) else 0) (vP V) f t)) ∧ (∀ j, j < 64 * fi ∨ 64 * en ≤ j → z.2 j = w j)) ?_ ?_ en 0 (B, w) (Nat.zero_add _) ⟨⟨hB, fun q _ => Iff.rfl⟩, fun u f t _ hu => absurd hu (Nat.not_lt_zero u), fun j _ => rfl⟩ none none)
  · intro z ⟨h1, h2, h3⟩ o6 o7
    exact k_40_6 (fun _ => w' z.2 h2 h3) (fun c => absurd (Int32.le_refl _) c) (fun c => absurd (Int32.le_refl _) c)
  · intro u z hu ⟨⟨h1, h1'⟩, h2, h3⟩ ih o6 o7
    refine k_40_6 (fun c => absurd c (nI_ge hu (by omega))) (fun _ c => absurd c (nI_ge (a := u) (b := 8) (by omega) (by decide))) (fun _ _ => ?_)
    refine lpu (σ := Nat × (Nat → Int32)) (vP V) (fun i y => cW cd_40 (d + 2) Q 26 [some (.ref 256), some (.int (nI B)), some (.int (nI fi)), some (.int (nI en)), some (.int (nI z.1)), some (.int (nI u)), some (.int (nI y.1)), some (.int (nI i))] [] (mkH (cx hi s o m p y.2 g) hl sw kp)) (fun i y => (y.1 < 256 ∧ ∀ q, q < 8 → (y.1 / 2 ^ q % 2 = 1 ↔ NR V hi B u q ∨ ∃ f, f < i ∧ NR V hi B u f ∧ (hi 22 f).toNatClampNeg / 2 ^ q % 2 = 1)) ∧ (∀ u2 f t, fi ≤ u2 → (u2 < u ∨ (u2 = u ∧ f < i)) → f < vP V → NR V hi B u2 f → t < vP V → y.2 ((u2 * 8 + f) * 8 + t) = nI (wy (fun t => bif go hi f t then pl u2 t (bif Nat.beq f t then 1 else 0) else 0) (vP V) f t)) ∧ (∀ j, j < 64 * fi ∨ 64 * en ≤ j → y.2 j = w j)) ?_ ?_ (vP V) 0 z (Nat.zero_add _) ⟨⟨h1, fun q hq => ?_⟩, fun u2 f t hu2 hc => h2 u2 f t hu2 (by omega), h3⟩
    · intro y ⟨⟨g1, g1'⟩, g2, g3⟩
      refine k_40_26 (fun _ => ?_) (fun c => absurd (by rw [e19]; exact Int32.le_refl _) c) (fun c => absurd (by rw [e19]; exact Int32.le_refl _) c) (fun c => absurd (by rw [e19]; exact Int32.le_refl _) c) (fun c => absurd (by rw [e19]; exact Int32.le_refl _) c)
      rw [nI_1]
      exact ih y ⟨⟨g1, g1'⟩, fun u2 f t hu2 hc hf => g2 u2 f t hu2 (by omega) hf, g3⟩ _ _
    · intro i y hiP ⟨⟨g1, g1'⟩, g2, g3⟩ ih2
      have c0 : ¬ (cx hi s o m p y.2 g) 19 1 ≤ nI i := by rw [e19]; exact nI_ge hiP (by omega)
      obtain ⟨l, l1, l2, l3⟩ := (hv.2.2.2.1 i hiP).2.2
      have ei : (nI i).toNatClampNeg = i := nI_clamp (by omega)
      have el : nI y.1 ||| (cx hi s o m p y.2 g) 22 (nI i).toNatClampNeg = nI (y.1 ||| l) := by
        show nI y.1 ||| hi 22 (nI i).toNatClampNeg = _
        rw [ei, l2, fa_or]
      have hz := bit8z (a := z.1) (t := i) (by omega) (by omega)
      have hz2 : z.1 / 2 ^ i % 2 < 2 := Nat.mod_lt _ (by decide)
      -- the wider set
      have wide : NR V hi B u i → (y.1 ||| l) < 256 ∧ ∀ q, q < 8 → ((y.1 ||| l) / 2 ^ q % 2 = 1 ↔ NR V hi B u q ∨ ∃ f, f < i + 1 ∧ NR V hi B u f ∧ (hi 22 f).toNatClampNeg / 2 ^ q % 2 = 1) := by
        intro hn
        refine ⟨or_lt8 g1 l1, fun q hq => ?_⟩
        rw [or_bit, g1' q hq]
        constructor
        · rintro ((a | ⟨f, f1, f2, f3⟩) | a)
          · exact Or.inl a
          · exact Or.inr ⟨f, by omega, f2, f3⟩
          · exact Or.inr ⟨i, by omega, hn, by rw [l2, nI_clamp (by omega)]; exact a⟩
        · rintro (a | ⟨f, f1, f2, f3⟩)
          · exact Or.inl (Or.inl a)
          · by_cases hfi' : f = i
            · subst hfi'
              rw [l2, nI_clamp (by omega)] at f3
              exact Or.inr f3
            · exact Or.inl (Or.inr ⟨f, by omega, f2, f3⟩)
      refine k_40_26 (fun c => absurd c c0) (fun _ c => k_40_77 ?_) (fun _ _ => vp_in_nI (by omega) (by decide)) (fun _ c c2 => k_40_77 ?_) (fun _ c c2 => ?_)
      · have hn : ¬ NR V hi B u i := fun q => by
          have := (h1' i (by omega)).mpr q
          rw [hz.mp c] at this
          exact absurd this (by decide)
        rw [nI_1]
        refine ih2 y ⟨⟨g1, fun q hq => ?_⟩, fun u2 f t hu2 hc hf hN => ?_, g3⟩
        · rw [g1' q hq]
          constructor
          · rintro (a | ⟨f, f1, f2, f3⟩)
            · exact Or.inl a
            · exact Or.inr ⟨f, by omega, f2, f3⟩
          · rintro (a | ⟨f, f1, f2, f3⟩)
            · exact Or.inl a
            · by_cases hfi' : f = i
              · subst hfi'
                exact absurd f2 hn
              · exact Or.inr ⟨f, by omega, f2, f3⟩
        · refine g2 u2 f t hu2 ?_ hf hN
          by_cases hfi' : u2 = u ∧ f = i
          · obtain ⟨rfl, rfl⟩ := hfi'
            exact absurd hN hn
          · omega
      · have hn : NR V hi B u i := by
          refine (h1' i (by omega)).mp ?_
          have : ¬ z.1 / 2 ^ i % 2 = 0 := fun q => c (hz.mpr q)
          omega
        rw [el, nI_1]
        have hlt := (nI_ltI (by omega) (by omega)).mp c2
        exact ih2 (y.1 ||| l, y.2) ⟨wide hn, fun u2 f t hu2 hc hf hN => g2 u2 f t hu2 (by omega) hf hN, g3⟩
      · have hn : NR V hi B u i := by
          refine (h1' i (by omega)).mp ?_
          have : ¬ z.1 / 2 ^ i % 2 = 0 := fun q => c (hz.mpr q)
          omega
        have hge : fi ≤ u := by
          rcases Nat.lt_or_ge u fi with q | q
          · exact absurd (nI_lt q (by omega)) c2
          · exact q
        rw [el]
        refine f41 (d := d) (pl := fun t => pl u t (bif Nat.beq i t then 1 else 0)) hv (by omega) hiP hm (fun t ht => hpl u t _ hge hu ht (by cases Nat.beq i t <;> decide)) (fun t => hpl9 u t _) (fun v hv1 hv2 => k_40_77 ?_)
        rw [nI_1]
        refine ih2 (y.1 ||| l, v) ⟨wide hn, fun u2 f t hu2 hc hf hN ht => ?_, fun j hj => ?_⟩
        · by_cases hfi' : u2 = u ∧ f = i
          · obtain ⟨rfl, rfl⟩ := hfi'
            exact hv1 t ht
          · show v ((u2 * 8 + f) * 8 + t) = _
            rw [hv2 _ (by omega)]
            exact g2 u2 f t hu2 (by omega) hf hN ht
        · show v j = _
          rw [hv2 j (by omega)]
          exact g3 j hj
    · rw [h1' q hq]
      constructor
      · exact fun a => Or.inl a
      · rintro (a | ⟨f, f1, -⟩)
        · exact a
        · exact absurd f1 (Nat.not_lt_zero f)
end WAYC
