/-! ===== the pull of a place: the class's steps and the reference's ===== -/
/-- one step of the formula over a stack of k values -/
def stp (as : Nat → Int32) (st ar : Int32) (k : Nat) (s : Nat → Int32) : Nat × (Nat → Int32) :=
  if st = 0 then (k + 1, up1 s k ar) else if st = 1 then (k + 1, up1 s k (as ar.toNatClampNeg)) else if st = 2 then (k, up1 s (k - 1) (if s (k - 1) = 0 then 1 else 0)) else (k - 1, up1 s (k - 2) (g_195 ar (s (k - 2)) (s (k - 1))))
def evr (st ar as : Nat → Int32) (s : Nat → Int32) : Nat → Nat × (Nat → Int32)
  | 0 => (0, s)
  | n + 1 => stp as (st n) (ar n) (evr st ar as s n).1 (evr st ar as s n).2
theorem dep_cases {st ar : Int32} {k k' : Nat} (h : f_dep st ar k = some k') : (st = 0 ∧ 0 ≤ ar ∧ k < 30 ∧ k' = k + 1) ∨ (st = 1 ∧ 0 ≤ ar ∧ ar < 5 ∧ k < 30 ∧ k' = k + 1) ∨ (st = 2 ∧ 1 ≤ k ∧ k' = k) ∨ (st = 3 ∧ (ar = 43 ∨ ar = 45 ∨ ar = 42 ∨ ar = 47 ∨ ar = 37 ∨ ar = 60 ∨ ar = 62 ∨ ar = 61 ∨ ar = 38 ∨ ar = 124) ∧ 2 ≤ k ∧ k' = k - 1) := by
  unfold f_dep at h
  by_cases h0 : st = 0
  · rw [if_pos h0] at h
    by_cases c : 0 ≤ ar ∧ k < 30
    · rw [if_pos c] at h
      exact Or.inl ⟨h0, c.1, c.2, (Option.some.inj h).symm⟩
    · rw [if_neg c] at h
      exact absurd h (by simp)
  · rw [if_neg h0] at h
    by_cases h1 : st = 1
    · rw [if_pos h1] at h
      by_cases c : 0 ≤ ar ∧ ar < 5 ∧ k < 30
      · rw [if_pos c] at h
        exact Or.inr (Or.inl ⟨h1, c.1, c.2.1, c.2.2, (Option.some.inj h).symm⟩)
      · rw [if_neg c] at h
        exact absurd h (by simp)
    · rw [if_neg h1] at h
      by_cases h2 : st = 2
      · rw [if_pos h2] at h
        by_cases c : 1 ≤ k
        · rw [if_pos c] at h
          exact Or.inr (Or.inr (Or.inl ⟨h2, c, (Option.some.inj h).symm⟩))
        · rw [if_neg c] at h
          exact absurd h (by simp)
      · rw [if_neg h2] at h
        by_cases h3 : st = 3 ∧ (ar = 43 ∨ ar = 45 ∨ ar = 42 ∨ ar = 47 ∨ ar = 37 ∨ ar = 60 ∨ ar = 62 ∨ ar = 61 ∨ ar = 38 ∨ ar = 124)
        · rw [if_pos h3] at h
          by_cases c : 2 ≤ k
          · rw [if_pos c] at h
            exact Or.inr (Or.inr (Or.inr ⟨h3.1, h3.2, c, (Option.some.inj h).symm⟩))
          · rw [if_neg c] at h
            exact absurd h (by simp)
        · rw [if_neg h3] at h
          exact absurd h (by simp)
theorem stp0 {as : Nat → Int32} {ar : Int32} {k : Nat} {s : Nat → Int32} : stp as 0 ar k s = (k + 1, up1 s k ar) := rfl
theorem stp1 {as : Nat → Int32} {ar : Int32} {k : Nat} {s : Nat → Int32} : stp as 1 ar k s = (k + 1, up1 s k (as ar.toNatClampNeg)) := rfl
theorem stp2 {as : Nat → Int32} {ar : Int32} {k : Nat} {s : Nat → Int32} : stp as 2 ar k s = (k, up1 s (k - 1) (if s (k - 1) = 0 then 1 else 0)) := rfl
theorem stp3 {as : Nat → Int32} {ar : Int32} {k : Nat} {s : Nat → Int32} : stp as 3 ar k s = (k - 1, up1 s (k - 2) (g_195 ar (s (k - 2)) (s (k - 1)))) := rfl
theorem stp_dep {as : Nat → Int32} {st ar : Int32} {k k' : Nat} {s : Nat → Int32} (h : f_dep st ar k = some k') : (stp as st ar k s).1 = k' := by
  rcases dep_cases h with ⟨rfl, -, -, rfl⟩ | ⟨rfl, -, -, -, rfl⟩ | ⟨rfl, -, rfl⟩ | ⟨rfl, -, -, rfl⟩ <;> rfl
theorem stp_ag {as : Nat → Int32} {st ar : Int32} {k k' : Nat} {s s' : Nat → Int32} (h : f_dep st ar k = some k') (e : ∀ j, j < k → s j = s' j) : ∀ j, j < k' → (stp as st ar k s).2 j = (stp as st ar k s').2 j := by
  intro j hj
  rcases dep_cases h with ⟨rfl, -, -, rfl⟩ | ⟨rfl, -, -, -, rfl⟩ | ⟨rfl, h1, rfl⟩ | ⟨rfl, -, h2, rfl⟩
  · rw [stp0, stp0]
    by_cases q : j = k
    · subst q
      exact up1_s.trans up1_s.symm
    · exact (up1_n q).trans ((e j (by omega)).trans (up1_n q).symm)
  · rw [stp1, stp1]
    by_cases q : j = k
    · subst q
      exact up1_s.trans up1_s.symm
    · exact (up1_n q).trans ((e j (by omega)).trans (up1_n q).symm)
  · rw [stp2, stp2, e (k' - 1) (by omega)]
    by_cases q : j = k' - 1
    · subst q
      exact up1_s.trans up1_s.symm
    · exact (up1_n q).trans ((e j (by omega)).trans (up1_n q).symm)
  · rw [stp3, stp3, e (k - 1) (by omega), e (k - 2) (by omega)]
    by_cases q : j = k - 2
    · subst q
      exact up1_s.trans up1_s.symm
    · exact (up1_n q).trans ((e j (by omega)).trans (up1_n q).symm)
theorem deps_le {st ar : Nat → Int32} : ∀ {m k : Nat}, f_deps st ar m = some k → ∀ i, i ≤ m → ∃ k', f_deps st ar i = some k' ∧ k' ≤ 30
  | 0, k, h, i, hi => by
    have : i = 0 := by omega
    subst this
    exact ⟨0, rfl, by omega⟩
  | m + 1, k, h, i, hi => by
    have h' : (match f_deps st ar m with | some k => f_dep (st m) (ar m) k | none => none) = some k := h
    cases hm : f_deps st ar m with
    | none => rw [hm] at h'; exact absurd h' (by simp)
    | some q =>
      by_cases hi' : i = m + 1
      · subst hi'
        obtain ⟨q', q1, q2⟩ := deps_le hm m (Nat.le_refl m)
        rw [hm] at q1
        rw [hm] at h'
        have : q' = q := (Option.some.inj q1).symm
        subst this
        refine ⟨k, h, ?_⟩
        rcases dep_cases h' with ⟨-, -, a, b⟩ | ⟨-, -, -, a, b⟩ | ⟨-, a, b⟩ | ⟨-, -, a, b⟩ <;> omega
      · exact deps_le hm i (by omega)
theorem deps_s {st ar : Nat → Int32} {m k i : Nat} (h : f_deps st ar m = some k) (hi : i < m) : ∃ a b, f_deps st ar i = some a ∧ f_deps st ar (i + 1) = some b ∧ f_dep (st i) (ar i) a = some b ∧ a ≤ 30 ∧ b ≤ 30 := by
  obtain ⟨a, a1, a2⟩ := deps_le h i (by omega)
  obtain ⟨b, b1, b2⟩ := deps_le h (i + 1) (by omega)
  refine ⟨a, b, a1, b1, ?_, a2, b2⟩
  have b1' : (match f_deps st ar i with | some k => f_dep (st i) (ar i) k | none => none) = some b := b1
  rw [a1] at b1'
  exact b1'
theorem evr_dep {st ar as : Nat → Int32} {s : Nat → Int32} {m k : Nat} (h : f_deps st ar m = some k) : ∀ i, i ≤ m → ∀ a, f_deps st ar i = some a → (evr st ar as s i).1 = a
  | 0, _, a, ha => Option.some.inj ha
  | i + 1, hi, a, ha => by
    obtain ⟨p, q, p1, q1, h1, -, -⟩ := deps_s h (show i < m by omega)
    rw [ha] at q1
    have : a = q := Option.some.inj q1
    subst this
    show (stp as (st i) (ar i) (evr st ar as s i).1 (evr st ar as s i).2).1 = a
    rw [evr_dep h i (by omega) p p1]
    exact stp_dep h1
theorem evr_ag {st ar as : Nat → Int32} {s s' : Nat → Int32} {m k : Nat} (h : f_deps st ar m = some k) : ∀ i, i ≤ m → ∀ a, f_deps st ar i = some a → ∀ j, j < a → (evr st ar as s i).2 j = (evr st ar as s' i).2 j
  | 0, _, a, ha, j, hj => by
    have : a = 0 := (Option.some.inj ha).symm
    omega
  | i + 1, hi, a, ha, j, hj => by
    obtain ⟨p, q, p1, q1, h1, -, -⟩ := deps_s h (show i < m by omega)
    rw [ha] at q1
    have : a = q := Option.some.inj q1
    subst this
    show (stp as (st i) (ar i) (evr st ar as s i).1 (evr st ar as s i).2).2 j = (stp as (st i) (ar i) (evr st ar as s' i).1 (evr st ar as s' i).2).2 j
    rw [evr_dep h i (by omega) p p1, evr_dep h i (by omega) p p1]
    exact stp_ag h1 (fun j hj => evr_ag h i (by omega) p p1 j hj) j hj
def as5 (a b c d e : Int32) : Nat → Int32 := fun i => match i with
  | 0 => a
  | 1 => b
  | 2 => c
  | 3 => d
  | _ => e
/-- what comes of the formula -/
def pval (hi : Nat → Nat → Int32) (as : Nat → Int32) : Int32 := if hi 279 58 = 0 then 1 else (evr (hi 284) (hi 285) as (fun _ => 0) (hi 279 18).toNatClampNeg).2 0
theorem pk_cl99 (x : Int32) : (if (0 : Int32) < (if x < 99 then x else 99) then (if x < 99 then x else 99) else 0) = nI (min 99 x.toNatClampNeg) := by
  by_cases h : x < 0
  · have e : x.toNatClampNeg = 0 := by
      have : x.toInt < 0 := Int32.lt_iff_toInt_lt.mp h
      unfold Int32.toNatClampNeg
      omega
    have h99 : x < 99 := Int32.lt_of_lt_of_le h (by decide)
    rw [e, if_pos h99, if_neg (Int32.lt_asymm h)]
    rfl
  · obtain ⟨m, hm, rfl⟩ := nI_of h
    rw [nI_clamp hm]
    by_cases h99 : m < 99
    · rw [if_pos (show nI m < (99 : Int32) from nI_lt (b := 99) h99 (by decide)), Nat.min_eq_right (by omega)]
      by_cases h0 : m = 0
      · subst h0; decide
      · rw [if_pos (show (0 : Int32) < nI m from nI_lt (a := 0) (by omega) hm)]
    · rw [if_neg (show ¬ nI m < (99 : Int32) from nI_nlt (b := 99) (by omega) hm), Nat.min_eq_left (by omega)]
      decide
theorem pk_cl99r {x : Int32} {P : Int32 → Prop} (w : P (nI (min 99 x.toNatClampNeg))) : (0 ≤ x → x ≤ 99 → P x) ∧ (0 ≤ x → ¬ x ≤ 99 → P 99) ∧ (¬ 0 ≤ x → P 0) := by
  refine ⟨fun h1 h2 => ?_, fun h1 h2 => ?_, fun h1 => ?_⟩
  · obtain ⟨m, hm, rfl⟩ := nI_of (Int32.not_lt.mpr h1)
    rw [nI_clamp hm] at w
    have := (nI_leI (b := 99) hm (by decide)).mp h2
    rw [Nat.min_eq_right this] at w
    exact w
  · obtain ⟨m, hm, rfl⟩ := nI_of (Int32.not_lt.mpr h1)
    rw [nI_clamp hm] at w
    have : ¬ m ≤ 99 := fun q => h2 (nI_le (b := 99) q (by decide))
    rw [Nat.min_eq_left (by omega)] at w
    exact w
  · have e : x.toNatClampNeg = 0 := by
      have : x.toInt < 0 := Int32.lt_iff_toInt_lt.mp (Int32.not_le.mp h1)
      unfold Int32.toNatClampNeg
      omega
    rw [e] at w
    exact w
/-- the pull of place p with b bones behind h hours, here or not -/
def PU (V : vN) (hi : Nat → Nat → Int32) (p b h e : Nat) : Nat := min 99 (pval hi (as5 (hi 20 p) (nI b) (nI (h % vDy V)) (nI (min 99 (vAg V + h / vDy V))) (nI e))).toNatClampNeg
theorem PU_le {V : vN} {hi : Nat → Nat → Int32} {p b h e : Nat} : PU V hi p b h e ≤ 99 := Nat.min_le_left _ _
theorem cnv0 {ar : Int32} (h : 0 ≤ ar) : f_cnv 0 ar = ar ∧ ¬ ar = -217 ∧ g_11 ar = 0 ∧ ¬ ar < 0 := by
  refine ⟨rfl, fun q => ?_, ?_, Int32.not_lt.mpr h⟩
  · rw [q] at h
    exact absurd h (by decide)
  · unfold g_11
    rw [if_pos h, if_neg (fun q => by rw [q] at h; exact absurd h (by decide)), if_neg (fun q => by rw [q] at h; exact absurd h (by decide))]
theorem ar5 {ar : Int32} (h : 0 ≤ ar) (h5 : ar < 5) : ar = 0 ∨ ar = 1 ∨ ar = 2 ∨ ar = 3 ∨ ar = 4 := by
  obtain ⟨m, hm, rfl⟩ := nI_of (Int32.not_lt.mpr h)
  have := (nI_ltI (b := 5) hm (by decide)).mp h5
  rcases (show m = 0 ∨ m = 1 ∨ m = 2 ∨ m = 3 ∨ m = 4 by omega) with rfl | rfl | rfl | rfl | rfl
  · exact Or.inl rfl
  · exact Or.inr (Or.inl rfl)
  · exact Or.inr (Or.inr (Or.inl rfl))
  · exact Or.inr (Or.inr (Or.inr (Or.inl rfl)))
  · exact Or.inr (Or.inr (Or.inr (Or.inr rfl)))
theorem cnv1 {ar a b c d e : Int32} (h : 0 ≤ ar) (h5 : ar < 5) : ¬ f_cnv 1 ar = -217 ∧ g_11 (f_cnv 1 ar) = 0 ∧ f_cnv 1 ar < 0 ∧ g_12 (-(f_cnv 1 ar)) a b c d e = as5 a b c d e ar.toNatClampNeg ∧ vp_in ar 5 := by
  rcases ar5 h h5 with rfl | rfl | rfl | rfl | rfl <;> exact ⟨by decide, by decide, by decide, rfl, by unfold vp_in; decide⟩
theorem cnv3 {ar a b : Int32} (h : ar = 43 ∨ ar = 45 ∨ ar = 42 ∨ ar = 47 ∨ ar = 37 ∨ ar = 60 ∨ ar = 62 ∨ ar = 61 ∨ ar = 38 ∨ ar = 124) : ¬ f_cnv 3 ar = -217 ∧ ¬ g_11 (f_cnv 3 ar) = 0 ∧ g_13 (-(f_cnv 3 ar)) a b = g_195 ar a b := by
  rcases h with rfl | rfl | rfl | rfl | rfl | rfl | rfl | rfl | rfl | rfl <;> exact ⟨by decide, by decide, rfl⟩
section PULL
variable {d : Nat} {Q : am_Q} {hi : Nat → Nat → Int32} {hl : Nat → Nat → Int64} {sw : Bool} {kp : Nat → Nat} {V : vN}
/-- one step of the class's evaluation -/
theorem st10 {x1 x2 x3 x4 x5 st ar : Int32} {m i k k' : Nat} {o8 : Option Value} (hm : m ≤ 269) (him : i < m) (h25 : hi 25 2 = nI m) (h26 : hi 26 i = f_cnv st ar) (hd : f_dep st ar k = some k') (hk : k ≤ 30) (w : ∀ o : Option Value, cW cd_10 (d + 2) Q 6 [some (.ref 25), some (.int x1), some (.int x2), some (.int x3), some (.int x4), some (.int x5), some (.int (nI k')), some (.int (nI (i + 1))), o] [] (mkH (uR hi 27 (stp (as5 x1 x2 x3 x4 x5) st ar k (hi 27)).2) hl sw kp)) : cW cd_10 (d + 2) Q 6 [some (.ref 25), some (.int x1), some (.int x2), some (.int x3), some (.int x4), some (.int x5), some (.int (nI k)), some (.int (nI i)), o8] [] (mkH hi hl sw kp) := by
  have z1 : ¬ hi 25 2 ≤ nI i := by rw [h25]; exact nI_ge him (by omega)
  have z2 : ¬ (269 : Int32) ≤ nI i := nI_ge (b := 269) (by omega) (by decide)
  have ei : (nI i).toNatClampNeg = i := nI_clamp (by omega)
  have ek : (nI k).toNatClampNeg = k := nI_clamp (by omega)
  rcases dep_cases hd with ⟨rfl, a1, a2, rfl⟩ | ⟨rfl, a1, a2, a3, rfl⟩ | ⟨rfl, a1, rfl⟩ | ⟨rfl, a1, a2, rfl⟩
  · obtain ⟨c1, c2, c3, c4⟩ := cnv0 a1
    rw [c1] at h26
    have z3 : ¬ hi 26 (nI i).toNatClampNeg = -217 := by rw [ei, h26]; exact c2
    have z4 : g_11 (hi 26 (nI i).toNatClampNeg) = 0 := by rw [ei, h26]; exact c3
    have z5 : ¬ hi 26 (nI i).toNatClampNeg < 0 := by rw [ei, h26]; exact c4
    have z6 : ¬ (30 : Int32) ≤ nI k := nI_ge (b := 30) a2 (by decide)
    refine k_10_6 (fun c => absurd c z1) (fun c => absurd c z1) (fun _ c => absurd c z2) (fun _ c => absurd c z2) (fun _ _ => vp_in_nI (by omega) (by decide)) (fun _ _ c => absurd c z3) (fun _ _ c => absurd c z3) (fun _ _ c => absurd c z3) (fun _ _ c => absurd c z3) (fun _ _ _ _ c => absurd c z6) (fun _ _ _ _ _ c => absurd c z5) (fun _ _ _ _ _ c => absurd c z5) (fun _ _ _ _ _ _ => vp_in_nI (by omega) (by decide)) (fun _ _ _ _ _ _ => ?_) (fun _ _ _ c => absurd z4 c) (fun _ _ _ c => absurd z4 c) (fun _ _ _ c => absurd z4 c) (fun _ _ _ c => absurd z4 c) (fun _ _ _ c => absurd z4 c) (fun _ _ _ c => absurd z4 c)
    rw [ei, ek, h26, nI_1, nI_1]
    rw [stp0] at w
    exact cW.hi u2_uR (w _)
  · obtain ⟨c1, c2, c3, c4, -⟩ := cnv1 (a := x1) (b := x2) (c := x3) (d := x4) (e := x5) a1 a2
    have z3 : ¬ hi 26 (nI i).toNatClampNeg = -217 := by rw [ei, h26]; exact c1
    have z4 : g_11 (hi 26 (nI i).toNatClampNeg) = 0 := by rw [ei, h26]; exact c2
    have z5 : hi 26 (nI i).toNatClampNeg < 0 := by rw [ei, h26]; exact c3
    have z6 : ¬ (30 : Int32) ≤ nI k := nI_ge (b := 30) a3 (by decide)
    refine k_10_6 (fun c => absurd c z1) (fun c => absurd c z1) (fun _ c => absurd c z2) (fun _ c => absurd c z2) (fun _ _ => vp_in_nI (by omega) (by decide)) (fun _ _ c => absurd c z3) (fun _ _ c => absurd c z3) (fun _ _ c => absurd c z3) (fun _ _ c => absurd c z3) (fun _ _ _ _ c => absurd c z6) (fun _ _ _ _ _ _ => vp_in_nI (by omega) (by decide)) (fun _ _ _ _ _ _ => ?_) (fun _ _ _ _ _ c => absurd z5 c) (fun _ _ _ _ _ c => absurd z5 c) (fun _ _ _ c => absurd z4 c) (fun _ _ _ c => absurd z4 c) (fun _ _ _ c => absurd z4 c) (fun _ _ _ c => absurd z4 c) (fun _ _ _ c => absurd z4 c) (fun _ _ _ c => absurd z4 c)
    rw [ei, ek, h26, c4, nI_1, nI_1]
    rw [stp1] at w
    exact cW.hi u2_uR (w _)
  · have z3 : hi 26 (nI i).toNatClampNeg = -217 := by rw [ei, h26]; rfl
    have z6 : ¬ nI k' ≤ 0 := nI_nle (by omega) (by omega)
    have e1 : nI k' - 1 = nI (k' - 1) := pk_sub (a := k') (b := 1) a1
    have e2 : (nI k' - 1).toNatClampNeg = k' - 1 := by rw [e1, nI_clamp (by omega)]
    rw [stp2] at w
    refine k_10_6 (fun c => absurd c z1) (fun c => absurd c z1) (fun _ c => absurd c z2) (fun _ c => absurd c z2) (fun _ _ => vp_in_nI (by omega) (by decide)) (fun _ _ _ c => absurd c z6) (fun _ _ _ _ => by rw [e1]; exact vp_in_nI (by omega) (by decide)) (fun _ _ _ _ c => ?_) (fun _ _ _ _ c => ?_) (fun _ _ c => absurd z3 c) (fun _ _ c => absurd z3 c) (fun _ _ c => absurd z3 c) (fun _ _ c => absurd z3 c) (fun _ _ c => absurd z3 c) (fun _ _ c => absurd z3 c) (fun _ _ c => absurd z3 c) (fun _ _ c => absurd z3 c) (fun _ _ c => absurd z3 c) (fun _ _ c => absurd z3 c) (fun _ _ c => absurd z3 c)
    · rw [e2] at c ⊢
      rw [if_pos c] at w
      rw [nI_1]
      exact cW.hi u2_uR (w _)
    · rw [e2] at c ⊢
      rw [if_neg c] at w
      rw [nI_1]
      exact cW.hi u2_uR (w _)
  · obtain ⟨c1, c2, c3⟩ := cnv3 (a := hi 27 (k - 2)) (b := hi 27 (k - 1)) a1
    have z3 : ¬ hi 26 (nI i).toNatClampNeg = -217 := by rw [ei, h26]; exact c1
    have z4 : ¬ g_11 (hi 26 (nI i).toNatClampNeg) = 0 := by rw [ei, h26]; exact c2
    have z6 : ¬ nI k ≤ 1 := nI_ge (a := 1) (by omega) (by omega)
    have e1 : nI k + (-1) = nI (k - 1) := sb_m1 (by omega)
    have e2 : nI (k - 1) - 1 = nI (k - 2) := pk_sub (a := k - 1) (b := 1) (by omega)
    refine k_10_6 (fun c => absurd c z1) (fun c => absurd c z1) (fun _ c => absurd c z2) (fun _ c => absurd c z2) (fun _ _ => vp_in_nI (by omega) (by decide)) (fun _ _ c => absurd c z3) (fun _ _ c => absurd c z3) (fun _ _ c => absurd c z3) (fun _ _ c => absurd c z3) (fun _ _ _ c => absurd c z4) (fun _ _ _ c => absurd c z4) (fun _ _ _ c => absurd c z4) (fun _ _ _ c => absurd c z4) (fun _ _ _ c => absurd c z4) (fun _ _ _ _ c => absurd c z6) (fun _ _ _ _ _ => by rw [e1, e2]; exact vp_in_nI (by omega) (by decide)) (fun _ _ _ _ _ => by rw [e1]; exact vp_in_nI (by omega) (by decide)) (fun _ _ _ _ _ _ c => c) (fun _ _ _ _ _ _ _ _ _ _ c => c) (fun _ _ _ _ _ => ?_)
    rw [e1, e2, ei, h26, nI_clamp (by omega), nI_clamp (by omega), c3, nI_1]
    rw [stp3] at w
    exact cW.hi u2_uR (w _)
theorem f10 {x1 x2 x3 x4 x5 : Int32} (hp : R_pul hi) (w : ∀ f : Nat → Int32, Q (some (.int (pval hi (as5 x1 x2 x3 x4 x5)))) (mkH (uR hi 27 f) hl sw kp)) : cS (d + 3) 10 [.ref 25, .int x1, .int x2, .int x3, .int x4, .int x5] (mkH hi hl sw kp) Q := by
  obtain ⟨m, m1, m2, m3, m4, m5, m6⟩ := hp
  have em : (hi 279 18).toNatClampNeg = m := by rw [m3, nI_clamp (by omega)]
  rcases m5 with ⟨z1, rfl⟩ | ⟨z1, z2⟩
  · refine e_10 (cW.hi (uR_id (i := 27)).symm (k_10_6 (fun _ _ => ?_) (fun _ c => absurd (by decide) c) ?_ ?_ ?_ ?_ ?_ ?_ ?_ ?_ ?_ ?_ ?_ ?_ ?_ ?_ ?_ ?_ ?_ ?_))
    · have := w (hi 27)
      unfold pval at this
      rw [if_pos z1] at this
      exact this
    all_goals exact fun c => absurd (by show hi 25 2 ≤ (0 : Int32); rw [m2]; decide) c
  · refine e_10 (cW.hi uR_id.symm (lpu (σ := Unit) m (fun i _ => ∀ o8 : Option Value, cW cd_10 (d + 2) Q 6 [some (.ref 25), some (.int x1), some (.int x2), some (.int x3), some (.int x4), some (.int x5), some (.int (nI (evr (hi 284) (hi 285) (as5 x1 x2 x3 x4 x5) (hi 27) i).1)), some (.int (nI i)), o8] [] (mkH (uR hi 27 (evr (hi 284) (hi 285) (as5 x1 x2 x3 x4 x5) (hi 27) i).2) hl sw kp)) (fun _ _ => True) ?_ ?_ m 0 () (Nat.zero_add m) trivial none))
    · intro _ _ o8
      have e1 := evr_dep (as := as5 x1 x2 x3 x4 x5) (s := hi 27) z2 m (Nat.le_refl m) 1 z2
      have e2 := evr_ag (as := as5 x1 x2 x3 x4 x5) (s := hi 27) (s' := fun _ => 0) z2 m (Nat.le_refl m) 1 z2 0 (by decide)
      rw [e1]
      have c0 : (uR hi 27 (evr (hi 284) (hi 285) (as5 x1 x2 x3 x4 x5) (hi 27) m).2) 25 2 ≤ nI m := by
        show hi 25 2 ≤ nI m
        rw [m2]
        exact Int32.le_refl _
      refine k_10_6 (fun _ c => absurd c (by decide)) (fun _ _ => ?_) ?_ ?_ ?_ ?_ ?_ ?_ ?_ ?_ ?_ ?_ ?_ ?_ ?_ ?_ ?_ ?_ ?_ ?_
      · rw [uR_s, e2]
        have := w (evr (hi 284) (hi 285) (as5 x1 x2 x3 x4 x5) (hi 27) m).2
        unfold pval at this
        rw [if_neg (by rw [z1]; decide), em] at this
        exact this
      all_goals exact fun c => absurd c0 c
    · intro i _ him _ ih o8
      obtain ⟨a, b, a1, b1, h1, ha, hb⟩ := deps_s z2 him
      have e1 := evr_dep (as := as5 x1 x2 x3 x4 x5) (s := hi 27) z2 i (by omega) a a1
      have e2 := evr_dep (as := as5 x1 x2 x3 x4 x5) (s := hi 27) z2 (i + 1) (by omega) b b1
      have ih' := ih () trivial
      rw [e2] at ih'
      rw [e1]
      refine st10 (hi := uR hi 27 (evr (hi 284) (hi 285) (as5 x1 x2 x3 x4 x5) (hi 27) i).2) m1 him m2 (m6 i him) h1 ha (fun o => cW.hi ?_ (ih' o))
      rw [uR_uR, uR_s]
      show _ = uR hi 27 (stp (as5 x1 x2 x3 x4 x5) (hi 284 i) (hi 285 i) (evr (hi 284) (hi 285) (as5 x1 x2 x3 x4 x5) (hi 27) i).1 (evr (hi 284) (hi 285) (as5 x1 x2 x3 x4 x5) (hi 27) i).2).2
      rw [e1]
/-- one step of the reference's evaluation -/
theorem st196 {st ar : Int32} {m i k k' : Nat} (hm : m ≤ 269) (him : i < m) (h18 : hi 279 18 = nI m) (h284 : hi 284 i = st) (h285 : hi 285 i = ar) (hd : f_dep st ar k = some k') (hk : k ≤ 30) (w : cW cd_196 (d + 2) Q 4 [some (.ref 279), some (.int (nI k')), some (.int (nI (i + 1)))] [] (mkH (uR hi 287 (stp (hi 288) st ar k (hi 287)).2) hl sw kp)) : cW cd_196 (d + 2) Q 4 [some (.ref 279), some (.int (nI k)), some (.int (nI i))] [] (mkH hi hl sw kp) := by
  have z1 : ¬ hi 279 18 ≤ nI i := by rw [h18]; exact nI_ge him (by omega)
  have ei : (nI i).toNatClampNeg = i := nI_clamp (by omega)
  have ek : (nI k).toNatClampNeg = k := nI_clamp (by omega)
  rcases dep_cases hd with ⟨rfl, a1, a2, rfl⟩ | ⟨rfl, a1, a2, a3, rfl⟩ | ⟨rfl, a1, rfl⟩ | ⟨rfl, a1, a2, rfl⟩
  · have z2 : hi 284 (nI i).toNatClampNeg = 0 := by rw [ei, h284]
    refine k_196_4 (fun c => absurd c z1) (fun _ => vp_in_nI (by omega) (by decide)) (fun _ _ _ => vp_in_nI (by omega) (by decide)) (fun _ _ _ => ?_) (fun _ _ c => absurd z2 c) (fun _ _ c => absurd z2 c) (fun _ _ c => absurd z2 c) (fun _ c => absurd z2 c) (fun _ c => absurd z2 c) (fun _ c => absurd z2 c) (fun _ c => absurd z2 c) (fun _ c => absurd z2 c) (fun _ c => absurd z2 c) (fun _ c => absurd z2 c) (fun _ c => absurd z2 c) (fun _ c => absurd z2 c) (fun _ c => absurd z2 c) (fun _ c => absurd z2 c) (fun _ c => absurd z2 c) (fun _ c => absurd z2 c)
    rw [ei, ek, h285, nI_1, nI_1]
    rw [stp0] at w
    exact cW.hi u2_uR w
  · obtain ⟨-, -, -, -, c5⟩ := cnv1 (a := 0) (b := 0) (c := 0) (d := 0) (e := 0) a1 a2
    have z2 : hi 284 (nI i).toNatClampNeg = 1 := by rw [ei, h284]
    have z3 : ¬ hi 284 (nI i).toNatClampNeg = 0 := by rw [z2]; decide
    refine k_196_4 (fun c => absurd c z1) (fun _ => vp_in_nI (by omega) (by decide)) (fun _ c => absurd c z3) (fun _ c => absurd c z3) (fun _ c => absurd c z3) (fun _ c => absurd c z3) (fun _ c => absurd c z3) (fun _ _ _ c => absurd c z3) (fun _ _ _ c => absurd c z3) (fun _ _ _ _ => by rw [ei, h285]; exact c5) (fun _ _ _ _ => vp_in_nI (by omega) (by decide)) (fun _ _ _ _ => ?_) (fun _ _ c => absurd z2 c) (fun _ _ c => absurd z2 c) (fun _ _ c => absurd z2 c) (fun _ _ c => absurd z2 c) (fun _ _ c => absurd z2 c) (fun _ _ c => absurd z2 c) (fun _ _ c => absurd z2 c) (fun _ _ c => absurd z2 c)
    rw [ei, ek, h285, nI_1, nI_1]
    rw [stp1] at w
    exact cW.hi u2_uR w
  · have z2 : hi 284 (nI i).toNatClampNeg = 2 := by rw [ei, h284]
    have z3 : ¬ hi 284 (nI i).toNatClampNeg = 0 := by rw [z2]; decide
    have z4 : ¬ hi 284 (nI i).toNatClampNeg = 1 := by rw [z2]; decide
    have e1 : nI k' - 1 = nI (k' - 1) := pk_sub (a := k') (b := 1) a1
    have e2 : (nI k' - 1).toNatClampNeg = k' - 1 := by rw [e1, nI_clamp (by omega)]
    rw [stp2] at w
    refine k_196_4 (fun c => absurd c z1) (fun _ => vp_in_nI (by omega) (by decide)) (fun _ c => absurd c z3) (fun _ c => absurd c z3) (fun _ c => absurd c z3) (fun _ c => absurd c z3) (fun _ c => absurd c z3) (fun _ _ c => absurd c z4) (fun _ _ c => absurd c z4) (fun _ _ c => absurd c z4) (fun _ _ c => absurd c z4) (fun _ _ c => absurd c z4) (fun _ _ _ _ => by rw [e1]; exact vp_in_nI (by omega) (by decide)) (fun _ _ _ _ c => ?_) (fun _ _ _ _ c => ?_) (fun _ _ _ c => absurd z2 c) (fun _ _ _ c => absurd z2 c) (fun _ _ _ c => absurd z2 c) (fun _ _ _ c => absurd z2 c) (fun _ _ _ c => absurd z2 c)
    · rw [e2] at c ⊢
      rw [if_pos c] at w
      rw [nI_1]
      exact cW.hi u2_uR w
    · rw [e2] at c ⊢
      rw [if_neg c] at w
      rw [nI_1]
      exact cW.hi u2_uR w
  · have z2 : hi 284 (nI i).toNatClampNeg = 3 := by rw [ei, h284]
    have z3 : ¬ hi 284 (nI i).toNatClampNeg = 0 := by rw [z2]; decide
    have z4 : ¬ hi 284 (nI i).toNatClampNeg = 1 := by rw [z2]; decide
    have z5 : ¬ hi 284 (nI i).toNatClampNeg = 2 := by rw [z2]; decide
    have e1 : nI k + (-1) = nI (k - 1) := sb_m1 (by omega)
    have e2 : nI (k - 1) - 1 = nI (k - 2) := pk_sub (a := k - 1) (b := 1) (by omega)
    refine k_196_4 (fun c => absurd c z1) (fun _ => vp_in_nI (by omega) (by decide)) (fun _ c => absurd c z3) (fun _ c => absurd c z3) (fun _ c => absurd c z3) (fun _ c => absurd c z3) (fun _ c => absurd c z3) (fun _ _ c => absurd c z4) (fun _ _ c => absurd c z4) (fun _ _ c => absurd c z4) (fun _ _ c => absurd c z4) (fun _ _ c => absurd c z4) (fun _ _ _ c => absurd c z5) (fun _ _ _ c => absurd c z5) (fun _ _ _ c => absurd c z5) (fun _ _ _ _ => by rw [e1, e2]; exact vp_in_nI (by omega) (by decide)) (fun _ _ _ _ => by rw [e1]; exact vp_in_nI (by omega) (by decide)) (fun _ _ _ _ _ c => c) (fun _ _ _ _ _ _ _ _ _ _ _ _ _ _ _ c => c) (fun _ _ _ _ => ?_)
    rw [e1, e2, ei, h285, nI_clamp (by omega), nI_clamp (by omega), nI_1]
    rw [stp3] at w
    exact cW.hi u2_uR w
theorem f196 {m : Nat} (m1 : m ≤ 269) (m3 : hi 279 18 = nI m) (z2 : f_deps (hi 284) (hi 285) m = some 1) (w : ∀ f : Nat → Int32, Q (some (.int ((evr (hi 284) (hi 285) (hi 288) (fun _ => 0) m).2 0))) (mkH (uR hi 287 f) hl sw kp)) : cS (d + 3) 196 [.ref 279] (mkH hi hl sw kp) Q := by
  refine e_196 (cW.hi uR_id.symm (lpu (σ := Unit) m (fun i _ => cW cd_196 (d + 2) Q 4 [some (.ref 279), some (.int (nI (evr (hi 284) (hi 285) (hi 288) (hi 287) i).1)), some (.int (nI i))] [] (mkH (uR hi 287 (evr (hi 284) (hi 285) (hi 288) (hi 287) i).2) hl sw kp)) (fun _ _ => True) ?_ ?_ m 0 () (Nat.zero_add m) trivial))
  · intro _ _
    have e2 := evr_ag (as := hi 288) (s := hi 287) (s' := fun _ => 0) z2 m (Nat.le_refl m) 1 z2 0 (by decide)
    have c0 : (uR hi 287 (evr (hi 284) (hi 285) (hi 288) (hi 287) m).2) 279 18 ≤ nI m := by
      show hi 279 18 ≤ nI m
      rw [m3]
      exact Int32.le_refl _
    refine k_196_4 (fun _ => ?_) ?_ ?_ ?_ ?_ ?_ ?_ ?_ ?_ ?_ ?_ ?_ ?_ ?_ ?_ ?_ ?_ ?_ ?_ ?_
    · rw [uR_s, e2]
      exact w _
    all_goals exact fun c => absurd c0 c
  · intro i _ him _ ih
    obtain ⟨a, b, a1, b1, h1, ha, hb⟩ := deps_s z2 him
    have e1 := evr_dep (as := hi 288) (s := hi 287) z2 i (by omega) a a1
    have e2 := evr_dep (as := hi 288) (s := hi 287) z2 (i + 1) (by omega) b b1
    have ih' := ih () trivial
    rw [e2] at ih'
    rw [e1]
    refine st196 (hi := uR hi 287 (evr (hi 284) (hi 285) (hi 288) (hi 287) i).2) m1 him m3 rfl rfl h1 ha (cW.hi ?_ ih')
    rw [uR_uR, uR_s]
    show _ = uR hi 287 (stp (hi 288) (hi 284 i) (hi 285 i) (evr (hi 284) (hi 285) (hi 288) (hi 287) i).1 (evr (hi 284) (hi 285) (hi 288) (hi 287) i).2).2
    rw [e1]
    rfl
/-- the class's pull -/
theorem f121 {p b h e : Nat} (hv : R_vil V hi) (hpu : R_pul hi) (hp : p < vP V) (hh : h ≤ 5000) (w : ∀ f : Nat → Int32, Q (some (.int (nI (PU V hi p b h e)))) (mkH (uR hi 27 f) hl sw kp)) : cS (d + 4) 121 [.ref 19, .int (nI p), .int (nI b), .int (nI h), .int (nI e)] (mkH hi hl sw kp) Q := by
  have hb := hv.1
  have ep : (nI p).toNatClampNeg = p := nI_clamp (by omega)
  have q1 : ¬ g_108 hi (nI p) = 0 := by rw [g108_in hv.2.1.2.1 hb.2.1 hp]; decide
  have eh : g_117 hi (nI h) = nI (h % vDy V) := by
    unfold g_117
    rw [hv.2.1.2.2.2.2.1, if_neg (nI_nle (n := vDy V) (by omega) (by omega)), pk_rem (by omega) (by omega) (by omega)]
  refine e_121 (fun c => absurd c q1) (fun _ => vp_in_nI (by omega) (by decide)) (fun _ => ?_)
  rw [ep, eh, age_eq hv hh]
  refine f10 (d := d) hpu (fun f => k_121_36 ?_)
  rw [pk_cl99]
  exact w f
/-- the reference's pull -/
theorem f213 {p b h e : Nat} (hv : R_vil V hi) (hpu : R_pul hi) (hp : p < vP V) (hh : h ≤ 5000) (e61 : hi 279 61 = nI h) (e62 : hi 279 62 = nI (min 99 (vAg V + h / vDy V))) (eb : hi 300 p = nI b) (he : e = 0 ∨ e = 1) (w : ∀ f g : Nat → Int32, Q (some (.int (nI (PU V hi p b h e)))) (mkH (uR (uR hi 288 g) 287 f) hl sw kp)) : cS (d + 4) 213 [.ref 279, .int (nI p), .int (nI e)] (mkH hi hl sw kp) Q := by
  have hb := hv.1
  have ep : (nI p).toNatClampNeg = p := nI_clamp (by omega)
  obtain ⟨m, m1, m2, m3, m4, m5, m6⟩ := hpu
  have em : (hi 279 18).toNatClampNeg = m := by rw [m3, nI_clamp (by omega)]
  have e50 : hi 279 50 = nI (vDy V) := hv.2.2.1.2.2.2.2.1
  have e20 : hi 294 p = hi 20 p := ((hv.2.2.2.1 p hp).1).symm
  have e194 : g_194 (nI e) = nI e := by
    rcases he with rfl | rfl <;> rfl
  rcases m5 with ⟨z1, rfl⟩ | ⟨z1, z2⟩
  · refine e_213 (fun _ => ?_) (fun c => absurd z1 c) (fun c => absurd z1 c) (fun c => absurd z1 c)
    have e1 : nI (PU V hi p b h e) = 1 := by
      unfold PU pval
      rw [if_pos z1]
      rfl
    have := w (hi 287) (hi 288)
    have e0 : uR (uR hi 288 (hi 288)) 287 (hi 287) = hi := by rw [uR_id, uR_id]
    rw [e1, e0] at this
    exact this
  · refine e_213 (fun c => absurd (z1.symm.trans c) (by decide)) (fun _ => vp_in_nI (by omega) (by decide)) (fun _ => by rw [e50]; exact nI_ne0 (by omega) (by omega)) (fun _ => ?_)
    rw [ep, e20, eb, e61, e50, pk_rem (by omega) (by omega) (by omega), e62, e194]
    have eas : u2 (u2 (u2 (u2 (u2 hi 288 0 (hi 20 p)) 288 1 (nI b)) 288 2 (nI (h % vDy V))) 288 3 (nI (min 99 (vAg V + h / vDy V)))) 288 4 (nI e) = uR hi 288 (up1 (up1 (up1 (up1 (up1 (hi 288) 0 (hi 20 p)) 1 (nI b)) 2 (nI (h % vDy V))) 3 (nI (min 99 (vAg V + h / vDy V)))) 4 (nI e)) := by
      rw [u2_uR (f := hi), u2_in, u2_in, u2_in, u2_in]
    rw [eas]
    refine f196 (d := d) (m := m) m1 m3 z2 (fun f => k_213_72 ?_ ?_ ?_)
    all_goals
      have ev : (evr (hi 284) (hi 285) (up1 (up1 (up1 (up1 (up1 (hi 288) 0 (hi 20 p)) 1 (nI b)) 2 (nI (h % vDy V))) 3 (nI (min 99 (vAg V + h / vDy V)))) 4 (nI e)) (fun _ => 0) m).2 0 = pval hi (as5 (hi 20 p) (nI b) (nI (h % vDy V)) (nI (min 99 (vAg V + h / vDy V))) (nI e)) := by
        unfold pval
        rw [if_neg (by rw [z1]; decide), em]
        have key : ∀ i, i ≤ m → evr (hi 284) (hi 285) (up1 (up1 (up1 (up1 (up1 (hi 288) 0 (hi 20 p)) 1 (nI b)) 2 (nI (h % vDy V))) 3 (nI (min 99 (vAg V + h / vDy V)))) 4 (nI e)) (fun _ => 0) i = evr (hi 284) (hi 285) (as5 (hi 20 p) (nI b) (nI (h % vDy V)) (nI (min 99 (vAg V + h / vDy V))) (nI e)) (fun _ => 0) i := by
          intro i
          induction i with
          | zero => intro _; rfl
          | succ i ih =>
            intro hi'
            obtain ⟨a, b', a1, b1, h1, ha, hb'⟩ := deps_s z2 (show i < m by omega)
            show stp _ (hi 284 i) (hi 285 i) _ _ = stp _ (hi 284 i) (hi 285 i) _ _
            rw [ih (by omega)]
            rcases dep_cases h1 with ⟨q, -⟩ | ⟨q, q1, q2, -⟩ | ⟨q, -⟩ | ⟨q, -⟩
            · rw [q]; rfl
            · rw [q, stp1, stp1]
              rcases ar5 q1 q2 with q3 | q3 | q3 | q3 | q3 <;> rw [q3] <;> rfl
            · rw [q]; rfl
            · rw [q]; rfl
        rw [key m (Nat.le_refl m)]
      have w' := w f (up1 (up1 (up1 (up1 (up1 (hi 288) 0 (hi 20 p)) 1 (nI b)) 2 (nI (h % vDy V))) 3 (nI (min 99 (vAg V + h / vDy V)))) 4 (nI e))
      unfold PU at w'
      rw [← ev] at w'
      have w2 := pk_cl99r (P := fun z => Q (some (.int z)) _) w'
    · exact w2.1
    · exact w2.2.1
    · exact w2.2.2
end PULL
