/-! ===== village: a line leaves a draft that can be ===== -/
section VDA
def DPl (D : Dr) : Prop := ((dom D).testBit 5 = false ∧ dps D = [] ∧ dun D = 0) ∨ ((dom D).testBit 5 = true ∧ fdl (dps D) = some 1 ∧ (dps D).length ≤ 269)
def DA (D : Dr) : Prop := DW D ∧ DPl D
theorem DA.pu {D : Dr} (h : DA D) : DPu D := fun hb => by
  rcases h.2 with ⟨_, h1⟩ | ⟨h1, _⟩
  · exact h1
  · rw [hb] at h1
    cases h1
theorem dif_up {N : Nat → List Nat} {o m : Nat} {l : List Nat} (h : dif (fun i => N (o + i)) m) (hn : ∀ i, i < m → N (o + i) ≠ l) : dif (fun i => up1 N (o + m) l (o + i)) (m + 1) := fun i j hi hj e => by
  have e' : up1 N (o + m) l (o + i) = up1 N (o + m) l (o + j) := e
  by_cases ci : i = m
  · by_cases cj : j = m
    · omega
    · rw [ci, up1_s, up1_n (by omega)] at e'
      exact absurd e'.symm (hn j (by omega))
  · by_cases cj : j = m
    · rw [cj, up1_s, up1_n (by omega)] at e'
      exact absurd e' (hn i (by omega))
    · rw [up1_n (by omega), up1_n (by omega)] at e'
      exact h i j (by omega) (by omega) e'
theorem dif_sh {N : Nat → List Nat} {o m k : Nat} {l : List Nat} (h : dif (fun i => N (o + i)) m) (hk : ∀ i, i < m → o + i ≠ k) : dif (fun i => up1 N k l (o + i)) m := fun i j hi hj e => by
  have e' : up1 N k l (o + i) = up1 N k l (o + j) := e
  rw [up1_n (hk i hi), up1_n (hk j hj)] at e'
  exact h i j hi hj e'
theorem dif_0 {N : Nat → List Nat} {m : Nat} : dif (fun i => N (0 + i)) m ↔ dif N m := by
  have : (fun i => N (0 + i)) = N := by
    funext i
    rw [Nat.zero_add]
  rw [this]
abbrev okN (l : List Nat) : Prop := ltr l ∧ w5 l < 2 ^ 62 ∧ w8 l < 2 ^ 63
theorem DA.deed {D : Dr} {l : List Nat} (h : DA D) (hd : dD D < 4) (hl : okN l) (hn : ∀ i, i < dD D → dnm D i ≠ l) : DA (aDeed D l) := by
  obtain ⟨nd, np, nt, nc, nm, sm, dz, ld, br, tb, tm, om, vl, ps, un⟩ := D
  unfold DA DW DN DPl at h ⊢
  unfold aDeed
  dsimp only [dD, dP, dT, dC, dnm, dsm, ddz, dld, dbr, dtb, dtm, dom, dvl, dps, dun] at h hd hn ⊢
  obtain ⟨⟨⟨h1, h2, h3, h4⟩, ⟨⟨g1, g2, g3⟩, g4⟩, k1, k2, k3, k4, k5, k6, k7, k8, k9, k10⟩, hp⟩ := h
  refine ⟨⟨⟨by omega, h2, h3, h4⟩, ⟨⟨?_, dif_sh g2 (fun i hi => by omega), dif_sh g3 (fun i hi => by omega)⟩, fun i hi => ?_⟩, fun p hp => by have := k1 p hp; omega, k2, k3, k4, k5, k6, k7, fun k hk => by have := k8 k hk; omega, k9, k10⟩, hp⟩
  · have := dif_up (o := 0) (l := l) (dif_0.mpr g1) (fun i hi => by rw [Nat.zero_add]; exact hn i hi)
    rw [Nat.zero_add] at this
    exact dif_0.mp this
  · by_cases c : i = nd
    · rw [c, up1_s]; exact hl
    · rw [up1_n c]; exact g4 i (by omega)
theorem DA.place {D : Dr} {l : List Nat} {v e : Nat} (h : DA D) (hd : dP D < 8) (hl : okN l) (hn : ∀ i, i < dP D → dnm D (4 + i) ≠ l) (he : e < dD D) : DA (aPlace D l v e) := by
  obtain ⟨nd, np, nt, nc, nm, sm, dz, ld, br, tb, tm, om, vl, ps, un⟩ := D
  unfold DA DW DN DPl at h ⊢
  unfold aPlace
  dsimp only [dD, dP, dT, dC, dnm, dsm, ddz, dld, dbr, dtb, dtm, dom, dvl, dps, dun] at h hd hn he ⊢
  obtain ⟨⟨⟨h1, h2, h3, h4⟩, ⟨⟨g1, g2, g3⟩, g4⟩, k1, k2, k3, k4, k5, k6, k7, k8, k9, k10⟩, hp⟩ := h
  refine ⟨⟨⟨h1, by omega, h3, h4⟩, ⟨⟨?_, dif_up g2 hn, dif_sh g3 (fun i hi => by omega)⟩, fun i hi => ?_⟩, fun p hp => ?_, k2, fun p hp => k3 p (by omega), k4, k5, k6, k7, k8, k9, by omega⟩, hp⟩
  · exact dif_0.mp (dif_sh (dif_0.mpr g1) (fun i hi => by omega))
  · by_cases c : i = 4 + np
    · rw [c, up1_s]; exact hl
    · rw [up1_n c]; exact g4 i (by omega)
  · by_cases c : p = np
    · rw [c, up1_s]; exact he
    · rw [up1_n c]; exact k1 p (by omega)
theorem DA.case {D : Dr} {l : List Nat} {v : Nat} (h : DA D) (hd : dC D < 4) (hl : okN l) (hn : ∀ i, i < dC D → dnm D (12 + i) ≠ l) (hv : 1 ≤ v ∧ v ≤ 15) : DA (aCase D l v) := by
  obtain ⟨nd, np, nt, nc, nm, sm, dz, ld, br, tb, tm, om, vl, ps, un⟩ := D
  unfold DA DW DN DPl at h ⊢
  unfold aCase
  dsimp only [dD, dP, dT, dC, dnm, dsm, ddz, dld, dbr, dtb, dtm, dom, dvl, dps, dun] at h hd hn ⊢
  obtain ⟨⟨⟨h1, h2, h3, h4⟩, ⟨⟨g1, g2, g3⟩, g4⟩, k1, k2, k3, k4, k5, k6, k7, k8, k9, k10⟩, hp⟩ := h
  refine ⟨⟨⟨h1, h2, h3, by omega⟩, ⟨⟨?_, dif_sh g2 (fun i hi => by omega), dif_up g3 hn⟩, fun i hi => ?_⟩, k1, k2, k3, fun p hp => ?_, k5, k6, k7, fun k hk => by have := k8 k hk; omega, k9, k10⟩, hp⟩
  · exact dif_0.mp (dif_sh (dif_0.mpr g1) (fun i hi => by omega))
  · by_cases c : i = 12 + nc
    · rw [c, up1_s]; exact hl
    · rw [up1_n c]; exact g4 i (by omega)
  · by_cases c : p = nc
    · rw [c, up1_s]; exact hv
    · rw [up1_n c]; exact k4 p (by omega)
theorem DA.path {D : Dr} {p q : Nat} (h : DA D) (hd : dT D < 16) (hp' : p < dP D) (hq' : q < dP D) : DA (aPath D p q) := by
  obtain ⟨nd, np, nt, nc, nm, sm, dz, ld, br, tb, tm, om, vl, ps, un⟩ := D
  unfold DA DW DN DPl at h ⊢
  unfold aPath
  dsimp only [dD, dP, dT, dC, dnm, dsm, ddz, dld, dbr, dtb, dtm, dom, dvl, dps, dun] at h hd hp' hq' ⊢
  obtain ⟨⟨⟨h1, h2, h3, h4⟩, gN, k1, k2, k3, k4, k5, k6, k7, k8, k9, k10⟩, hp⟩ := h
  have or8 : ∀ x t, x < 256 → t < 8 → x ||| 2 ^ t < 256 := fun x t hx ht => Nat.or_lt_two_pow (n := 8) hx (Nat.pow_lt_pow_right (by decide) ht)
  refine ⟨⟨⟨h1, h2, by omega, h4⟩, gN, k1, fun j => ?_, fun j hj => ?_, k4, k5, k6, k7, k8, k9, k10⟩, hp⟩
  · by_cases c : j = q
    · rw [c, up1_s]; exact or8 _ _ (k2 q) (by omega)
    · rw [up1_n c]
      by_cases c2 : j = p
      · rw [c2, up1_s]; exact or8 _ _ (k2 p) (by omega)
      · rw [up1_n c2]; exact k2 j
  · rw [up1_n (by omega), up1_n (by omega)]; exact k3 j hj
theorem DA.when {D : Dr} {e c : Nat} {v : Int32} (h : DA D) (he : e < dD D) (hc : c < dC D) (hv : -3 ≤ v.toInt ∧ v.toInt ≤ 3) : DA (aWhen D (4 * e + c) v) := by
  obtain ⟨nd, np, nt, nc, nm, sm, dz, ld, br, tb, tm, om, vl, ps, un⟩ := D
  unfold DA DW DN DPl at h ⊢
  unfold aWhen
  dsimp only [dD, dP, dT, dC, dnm, dsm, ddz, dld, dbr, dtb, dtm, dom, dvl, dps, dun] at h he hc ⊢
  obtain ⟨⟨⟨h1, h2, h3, h4⟩, gN, k1, k2, k3, k4, k5, k6, k7, k8, k9, k10⟩, hp⟩ := h
  refine ⟨⟨⟨h1, h2, h3, h4⟩, gN, k1, k2, k3, k4, fun j => ?_, fun j hj => ?_, bt_lt k7 (by omega), fun j hj => ?_, k9, k10⟩, hp⟩
  · by_cases c1 : j = 4 * e + c
    · rw [c1, up1_s]; exact hv
    · rw [up1_n c1]; exact k5 j
  · rw [bt_u, Bool.or_eq_false_iff] at hj
    have c1 : ¬ 4 * e + c = j := of_decide_eq_false hj.2
    rw [up1_n (fun z => c1 z.symm)]
    exact k6 j hj.1
  · rw [bt_u, Bool.or_eq_true] at hj
    rcases hj with hj | hj
    · exact k8 j hj
    · have := of_decide_eq_true hj
      omega
theorem DA.once {D : Dr} {i k v : Nat} (h : DA D) (hi : i < 16) (h5 : i ≠ 5) (hv : (k = 4 ∧ 1 ≤ v ∧ v ≤ 24) ∨ (k = 5 ∧ 1 ≤ v ∧ v ≤ 24) ∨ (k = 6 ∧ v < dP D) ∨ (k = 7 ∧ v ≤ 99) ∨ (k = 8 ∧ v < 1000)) : DA (aOnce D i k v) := by
  obtain ⟨nd, np, nt, nc, nm, sm, dz, ld, br, tb, tm, om, vl, ps, un⟩ := D
  unfold DA DW DN DPl at h ⊢
  unfold aOnce
  dsimp only [dD, dP, dT, dC, dnm, dsm, ddz, dld, dbr, dtb, dtm, dom, dvl, dps, dun] at h hv ⊢
  obtain ⟨⟨⟨h1, h2, h3, h4⟩, gN, k1, k2, k3, k4, k5, k6, k7, k8, k9, k10⟩, hp⟩ := h
  refine ⟨⟨⟨h1, h2, h3, h4⟩, gN, k1, k2, k3, k4, k5, k6, k7, k8, bt_lt k9 hi, ?_⟩, ?_⟩
  · rcases hv with ⟨rfl, hv⟩ | ⟨rfl, hv⟩ | ⟨rfl, hv⟩ | ⟨rfl, hv⟩ | ⟨rfl, hv⟩
    · rw [up1_s, up1_n (by decide), up1_n (by decide), up1_n (by decide), up1_n (by decide)]; omega
    · rw [up1_s, up1_n (by decide), up1_n (by decide), up1_n (by decide), up1_n (by decide)]; omega
    · rw [up1_s, up1_n (by decide), up1_n (by decide), up1_n (by decide), up1_n (by decide)]; omega
    · rw [up1_s, up1_n (by decide), up1_n (by decide), up1_n (by decide), up1_n (by decide)]; omega
    · rw [up1_s, up1_n (by decide), up1_n (by decide), up1_n (by decide), up1_n (by decide)]; omega
  · rw [bt_u, decide_eq_false h5, Bool.or_false]
    exact hp
theorem DA.pull {D : Dr} {P : List (Nat × Nat)} {U : Nat} (h : DA D) (h1 : fdl P = some 1) (h2 : P.length ≤ 269) : DA (aPull D P U) := by
  obtain ⟨nd, np, nt, nc, nm, sm, dz, ld, br, tb, tm, om, vl, ps, un⟩ := D
  unfold DA DW DN DPl at h ⊢
  unfold aPull
  dsimp only [dD, dP, dT, dC, dnm, dsm, ddz, dld, dbr, dtb, dtm, dom, dvl, dps, dun] at h ⊢
  obtain ⟨⟨h0, gN, k1, k2, k3, k4, k5, k6, k7, k8, k9, k10⟩, hp⟩ := h
  refine ⟨⟨h0, gN, k1, k2, k3, k4, k5, k6, k7, k8, bt_lt k9 (by decide), k10⟩, Or.inr ⟨?_, h1, h2⟩⟩
  rw [bt_u, decide_eq_true rfl, Bool.or_true]
theorem DA.d0 : DA D0 := by
  unfold DA DW DN DPl D0
  dsimp only [dD, dP, dT, dC, dnm, dsm, ddz, dld, dbr, dtb, dtm, dom, dvl, dps, dun]
  refine ⟨⟨by omega, ⟨⟨fun i j h => absurd h (Nat.not_lt_zero i), fun i j h => absurd h (Nat.not_lt_zero i), fun i j h => absurd h (Nat.not_lt_zero i)⟩, fun i hi => by omega⟩, fun p h => absurd h (Nat.not_lt_zero p), fun _ => by decide, fun _ _ => rfl, fun p h => absurd h (Nat.not_lt_zero p), fun _ => by decide, fun _ _ => rfl, by decide, fun k hk => ?_, by decide, by decide⟩, Or.inl ⟨by decide, rfl, rfl⟩⟩
  rw [Nat.zero_testBit] at hk
  cases hk
variable {b : Nat → Int32} {D : Dr} {a : Nat}
theorem wlt {i : Nat} (h : isW (tk b a) i) : a < te (tk b a) := tk_e (by rw [h.1]; decide) (by rw [h.1]; decide)
theorem fin_i {D' : Dr} {x : Nat} {q : Dr × Nat} (h : (bnd (rdS b 59 x) fun _ y => Sum.inr (D', y)) = .inr q) : x < q.2 ∧ q.1 = D' := by
  obtain ⟨v, y, h1, h2⟩ := bnd_i h
  have := rdS_i (by decide) h1
  cases h2
  exact ⟨this, rfl⟩
theorem lDeed_i {q : Dr × Nat} (hA : DA D) (hw : isW (tk b a) 0) (h : lDeed b D a = .inr q) : DA q.1 ∧ a < q.2 := by
  unfold lDeed at h
  have h0 := wlt hw
  by_cases c : dD D < 4
  · rw [cI_1 c] at h
    obtain ⟨l, y, h1, h2⟩ := bnd_i h
    have r1 := rdA_i h1
    have r2 := fin_i h2
    dsimp only at r1
    exact ⟨by rw [r2.2]; exact hA.deed c r1.2.1 r1.2.2, by omega⟩
  · rw [cI_0 c] at h
    cases h
theorem lPlace_i {q : Dr × Nat} (hA : DA D) (hw : isW (tk b a) 1) (h : lPlace b D a = .inr q) : DA q.1 ∧ a < q.2 := by
  unfold lPlace at h
  have h0 := wlt hw
  by_cases c : dP D < 8
  · rw [cI_1 c] at h
    obtain ⟨l, y1, h1, h⟩ := bnd_i h
    obtain ⟨_, y2, h2, h⟩ := bnd_i h
    obtain ⟨v, y3, h3, h⟩ := bnd_i h
    obtain ⟨_, y4, h4, h⟩ := bnd_i h
    obtain ⟨e, y5, h5, h⟩ := bnd_i h
    have r1 := rdA_i h1
    have r2 := rdW_i h2
    have r3 := rdN_i h3
    have r4 := rdW_i h4
    have r5 := rdO_i h5
    have r6 := fin_i h
    dsimp only at r1 r2 r3 r4 r5
    have r7 : y4 < te (tk b y5) := by rw [← r5.1]; exact r5.2.2
    exact ⟨by rw [r6.2]; exact hA.place c r1.2.1 r1.2.2 r5.2.1, by omega⟩
  · rw [cI_0 c] at h
    cases h
theorem lCase_i {q : Dr × Nat} (hA : DA D) (hw : isW (tk b a) 3) (h : lCase b D a = .inr q) : DA q.1 ∧ a < q.2 := by
  unfold lCase at h
  have h0 := wlt hw
  by_cases c : dC D < 4
  · rw [cI_1 c] at h
    obtain ⟨l, y1, h1, h⟩ := bnd_i h
    obtain ⟨_, y2, h2, h⟩ := bnd_i h
    obtain ⟨v, y3, h3, h⟩ := bnd_i h
    have r1 := rdA_i h1
    have r2 := rdW_i h2
    have r3 := rdN_i h3
    have r6 := fin_i h
    dsimp only at r1 r2 r3
    exact ⟨by rw [r6.2]; exact hA.case c r1.2.1 r1.2.2 r3.2, by omega⟩
  · rw [cI_0 c] at h
    cases h
theorem lPath_i {q : Dr × Nat} (hA : DA D) (hw : isW (tk b a) 2) (h : lPath b D a = .inr q) : DA q.1 ∧ a < q.2 := by
  unfold lPath at h
  have h0 := wlt hw
  by_cases c : dT D < 16
  · rw [cI_1 c] at h
    obtain ⟨p, y1, h1, h⟩ := bnd_i h
    obtain ⟨_, y2, h2, h⟩ := bnd_i h
    obtain ⟨p', y3, h3, h⟩ := bnd_i h
    have r1 := rdO_i h1
    have r2 := rdW_i h2
    have r3 := rdO_i h3
    dsimp only at r1 r2 r3
    by_cases c2 : p = p' ∨ (dld D p).testBit p' = true
    · rw [cI_1 c2] at h
      cases h
    · rw [cI_0 c2] at h
      have r6 := fin_i h
      have r7 : te (tk b a) < te (tk b y1) := by rw [← r1.1]; exact r1.2.2
      have r8 : y2 < te (tk b y3) := by rw [← r3.1]; exact r3.2.2
      exact ⟨by rw [r6.2]; exact hA.path c r1.2.1 r3.2.1, by omega⟩
  · rw [cI_0 c] at h
    cases h
theorem lWhen_i {q : Dr × Nat} (hA : DA D) (hw : isW (tk b a) 4) (h : lWhen b D a = .inr q) : DA q.1 ∧ a < q.2 := by
  unfold lWhen at h
  have h0 := wlt hw
  by_cases c : bc (dtm D) 16 < 16
  · rw [cI_1 c] at h
    obtain ⟨p, y1, h1, h⟩ := bnd_i h
    obtain ⟨p', y3, h3, h⟩ := bnd_i h
    have r1 := rdO_i h1
    have r3 := rdO_i h3
    dsimp only at r1 r3
    by_cases c2 : (dtm D).testBit (4 * p + p') = true
    · rw [cI_1 c2] at h
      cases h
    · rw [cI_0 c2] at h
      obtain ⟨v, y4, h4, h⟩ := bnd_i h
      have r4 := rdV_i h4
      have r6 := fin_i h
      dsimp only at r4
      have r7 : te (tk b a) < te (tk b y1) := by rw [← r1.1]; exact r1.2.2
      have r8 : te (tk b y1) < te (tk b y3) := by rw [← r3.1]; exact r3.2.2
      exact ⟨by rw [r6.2]; exact hA.when r1.2.1 r3.2.1 r4.2, by omega⟩
  · rw [cI_0 c] at h
    cases h
theorem lStart_i {q : Dr × Nat} (hA : DA D) (hw : isW (tk b a) 8) (h : lStart b D a = .inr q) : DA q.1 ∧ a < q.2 := by
  unfold lStart at h
  have h0 := wlt hw
  by_cases c : (dom D).testBit 8 = false
  · rw [cI_1 c] at h
    obtain ⟨p, y1, h1, h⟩ := bnd_i h
    have r1 := rdO_i h1
    have r6 := fin_i h
    dsimp only at r1
    have r7 : te (tk b a) < te (tk b y1) := by rw [← r1.1]; exact r1.2.2
    exact ⟨by rw [r6.2]; exact hA.once (by decide) (by decide) (Or.inr (Or.inr (Or.inl ⟨rfl, r1.2.1⟩))), by omega⟩
  · rw [cI_0 c] at h
    cases h
theorem lNum_i {i k lo up : Nat} {q : Dr × Nat} (hA : DA D) (hi : i < 16) (h5 : i ≠ 5) (hv : ∀ v, lo ≤ v → v ≤ up → (k = 4 ∧ 1 ≤ v ∧ v ≤ 24) ∨ (k = 5 ∧ 1 ≤ v ∧ v ≤ 24) ∨ (k = 6 ∧ v < dP D) ∨ (k = 7 ∧ v ≤ 99) ∨ (k = 8 ∧ v < 1000)) (hw : isW (tk b a) i) (h : lNum b D i k lo up a = .inr q) : DA q.1 ∧ a < q.2 := by
  unfold lNum at h
  have h0 := wlt hw
  by_cases c : (dom D).testBit i = false
  · rw [cI_1 c] at h
    obtain ⟨v, y1, h1, h⟩ := bnd_i h
    have r1 := rdN_i h1
    have r6 := fin_i h
    dsimp only at r1
    exact ⟨by rw [r6.2]; exact hA.once hi h5 (hv v r1.2.1 r1.2.2), by omega⟩
  · rw [cI_0 c] at h
    cases h
theorem lPull_i {q : Dr × Nat} (hA : DA D) (hw : isW (tk b a) 5) (h : lPull b D a (.inr q)) : DA q.1 ∧ a < q.2 := by
  have h0 := wlt hw
  rcases h with ⟨_, h⟩ | ⟨_, po, ⟨k, hk⟩, h⟩
  · cases h
  · obtain ⟨v, y, h1, h2⟩ := bnd_i h.symm
    have r6 := fin_i h2
    rw [h1] at hk
    have I0 : PIV false [] [] 0 := PIV.mw (fun s hs => absurd hs List.not_mem_nil) (by decide) (by decide) ⟨rfl, Nat.le_refl 0, by decide⟩
    have r := pm_ok (P' := v.1) (U' := v.2) (a' := y) k false [] [] 0 _ I0 hk
    exact ⟨by rw [r6.2]; exact hA.pull r.1 r.2.1, by omega⟩
/-- a line that was told -/
theorem LN_i {q : Dr × Nat} (hA : DA D) (h : LN b D a (.inr q)) : DA q.1 ∧ a < q.2 := by
  rcases h with ⟨w, E⟩ | ⟨w, E⟩ | ⟨w, E⟩ | ⟨w, E⟩ | ⟨w, E⟩ | ⟨w, E⟩ | ⟨w, E⟩ | ⟨w, E⟩ | ⟨w, E⟩ | ⟨w, E⟩ | ⟨w, E⟩ | ⟨w, E⟩
  · exact lDeed_i hA w E.symm
  · exact lPlace_i hA w E.symm
  · exact lPath_i hA w E.symm
  · exact lCase_i hA w E.symm
  · exact lWhen_i hA w E.symm
  · exact lPull_i hA w E
  · exact lNum_i hA (by decide) (by decide) (fun v v1 v2 => Or.inl ⟨rfl, v1, v2⟩) w E.symm
  · exact lNum_i hA (by decide) (by decide) (fun v v1 v2 => Or.inr (Or.inl ⟨rfl, v1, v2⟩)) w E.symm
  · exact lStart_i hA w E.symm
  · exact lNum_i hA (by decide) (by decide) (fun v v1 v2 => Or.inr (Or.inr (Or.inr (Or.inl ⟨rfl, v2⟩)))) w E.symm
  · exact lNum_i hA (by decide) (by decide) (fun v v1 v2 => Or.inr (Or.inr (Or.inr (Or.inr ⟨rfl, by omega⟩)))) w E.symm
  · cases E
end VDA
