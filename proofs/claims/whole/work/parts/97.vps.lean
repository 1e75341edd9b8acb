/-! ===== village: the reference tells the pull: units and signs ===== -/
section VPS
variable {d : Nat} {Q : am_Q} {hi hi' : Nat → Nat → Int32} {hl hl' : Nat → Nat → Int64} {sw : Bool} {kp : Nat → Nat} {n a : Nat} {f : Nat → Int32} {S : List Nat} {P : List (Nat × Nat)} {U : Nat}
/-- is a bracket open -/
theorem f192 (h : RPS n f S P U a hi hl) (hv : VSg S) (hL : S.length ≤ 100) (w1 : 20 ∈ S → Q (some (.int 1)) (mkH hi hl sw kp)) (w0 : ¬ 20 ∈ S → Q (some (.int 0)) (mkH hi hl sw kp)) : cS (d + 1) 192 [.ref 279] (mkH hi hl sw kp) Q := by
  have e19 : hi 279 19 = nI S.length := h.2.2.2.1
  have hm := OPN.mem S hv h.2.2.2.2.2
  refine e_192 (lpu (σ := Int32) S.length (fun i x => cW cd_192 d Q 4 [some (.ref 279), some (.int x), some (.int (nI i))] [] (mkH hi hl sw kp)) (fun i x => (x = 0 ∧ ∀ j, j < i → ¬ hi 286 j = 20) ∨ (x = 1 ∧ ∃ j, j < i ∧ hi 286 j = 20)) ?_ ?_ S.length 0 0 (Nat.zero_add _) (Or.inl ⟨rfl, fun j hj => absurd hj (Nat.not_lt_zero j)⟩))
  · intro x hx
    have le : hi 279 19 ≤ nI S.length := by rw [e19]; exact Int32.le_refl _
    rcases hx with ⟨rfl, h0⟩ | ⟨rfl, h1⟩
    · exact k_192_4 (fun _ => Or.inl rfl) (fun _ => w0 (fun z => by obtain ⟨j, j1, j2⟩ := hm.mpr z; exact h0 j j1 j2)) (fun z => absurd le z) (fun z => absurd le z) (fun z => absurd le z) (fun z => absurd le z)
    · exact k_192_4 (fun _ => Or.inr rfl) (fun _ => w1 (hm.mp h1)) (fun z => absurd le z) (fun z => absurd le z) (fun z => absurd le z) (fun z => absurd le z)
  · intro i x hi' hx ih
    have nle : ¬ hi 279 19 ≤ nI i := by rw [e19]; exact nI_ge hi' (by omega)
    refine k_192_4 (fun z => absurd z nle) (fun z => absurd z nle) (fun _ _ => vp_in_nI (by omega) (by decide)) (fun _ z1 z2 => ?_) (fun _ z1 z2 => ?_) (fun _ z1 => ?_) <;> rw [← nI_succ]
    · rw [nI_clamp (by omega)] at z2
      exact ih 1 (Or.inr ⟨rfl, i, Nat.lt_succ_self i, z2⟩)
    · rw [nI_clamp (by omega)] at z2
      rcases hx with ⟨rfl, h0⟩ | ⟨rfl, h1⟩
      · refine ih 0 (Or.inl ⟨rfl, fun j hj => ?_⟩)
        by_cases c : j = i
        · rw [c]; exact z2
        · exact h0 j (by omega)
      · exact absurd z1 (by decide)
    · rcases hx with ⟨rfl, h0⟩ | ⟨rfl, j, h1, h2⟩
      · exact absurd rfl z1
      · exact ih 1 (Or.inr ⟨rfl, j, by omega, h2⟩)
theorem nI0m : nI 0 - 1 < 0 := by decide
/-- does a comparison stand open -/
theorem c184 : ∀ (S : List Nat), OPN S (hi 286) → VSg S → S.length ≤ 100 → (hr S → Q (some (.int 1)) (mkH hi hl sw kp)) → (¬ hr S → Q (some (.int 0)) (mkH hi hl sw kp)) → cW cd_184 (d + 1) Q 7 [some (.ref 279), some (.int (nI S.length - 1))] [] (mkH hi hl sw kp)
  | [], _, _, _, _, w0 => by
    have hw := w0 id
    exact k_184_7 (fun _ _ => hw) (fun _ z => absurd nI0m z) (fun _ z => absurd nI0m z) (fun _ z => absurd nI0m z) (fun _ z => absurd nI0m z) (fun z => absurd nI0m z) (fun z => absurd nI0m z) (fun z => absurd nI0m z) (fun z => absurd nI0m z) (fun z => absurd nI0m z) (fun z => absurd nI0m z) (fun z => absurd nI0m z) (fun z => absurd nI0m z) (fun z => absurd nI0m z) (fun z => absurd nI0m z)
  | s :: S, ho, hv, hL, w1, w0 => by
    have hL2 : S.length + 1 ≤ 100 := hL
    have ei : nI (s :: S).length - 1 = nI S.length := nIm1 S.length
    have np : ¬ nI S.length < 0 := nI_pos (by omega)
    have hs := hv.h
    have i20 : nI s = 20 ↔ s = 20 := nI_eq (b := 20) (by omega) (by decide)
    have ht := tg_le s
    have e182 := g182 s (by omega)
    have i4 : g_182 (nI s) = 4 ↔ tg s = 4 := by rw [e182]; exact nI_eq (b := 4) (by omega) (by decide)
    have il : g_182 (nI s) ≤ 4 ↔ tg s ≤ 4 := by rw [e182]; exact nI_leI (b := 4) (by omega) (by decide)
    have hdef : hr (s :: S) ↔ (if s = 20 then False else if 4 < tg s then hr S else tg s = 4) := Iff.rfl
    rw [ei]
    have es : hi 286 (nI S.length).toNatClampNeg = nI s := by rw [nI_clamp (by omega)]; exact ho.1
    refine k_184_7 (fun z => absurd z np) (fun z => absurd z np) (fun z => absurd z np) (fun z => absurd z np) (fun z => absurd z np) (fun _ => vp_in_nI (by omega) (by decide)) (fun _ _ z => absurd z np) (fun _ z _ _ => ?_) (fun _ z _ z2 => absurd z z2) (fun _ z _ z2 => absurd z z2) (fun _ _ _ z => absurd z np) (fun _ z _ _ z2 => absurd z2 z) (fun _ z1 z2 _ _ z3 => ?_) (fun _ z1 z2 _ _ z3 => ?_) (fun _ z1 z2 => ?_)
    · rw [es] at z
      exact w0 (fun q => by rw [hdef, if_pos (i20.mp z)] at q; exact q)
    · rw [es] at z1 z3
      refine w1 ?_
      rw [hdef, if_neg (fun q => z1 (i20.mpr q)), if_neg (by have := i4.mp z3; omega)]
      exact i4.mp z3
    · rw [es] at z1 z2 z3
      have := il.mp z2
      refine w0 (fun q => ?_)
      rw [hdef, if_neg (fun q => z1 (i20.mpr q)), if_neg (by omega)] at q
      exact z3 (i4.mpr q)
    · rw [es] at z1 z2
      have h4 : 4 < tg s := Nat.lt_of_not_le (fun q => z2 (il.mpr q))
      have e2 : nI S.length + (-1) = nI S.length - 1 := (Int32.sub_eq_add_neg _ _).symm
      rw [e2]
      refine c184 S ho.2 hv.t (by omega) (fun q => w1 ?_) (fun q => w0 (fun y => q ?_))
      · rw [hdef, if_neg (fun q => z1 (i20.mpr q)), if_pos h4]
        exact q
      · rw [hdef, if_neg (fun q => z1 (i20.mpr q)), if_pos h4] at y
        exact y
theorem f184 (h : RPS n f S P U a hi hl) (hv : VSg S) (hL : S.length ≤ 100) (w1 : hr S → Q (some (.int 1)) (mkH hi hl sw kp)) (w0 : ¬ hr S → Q (some (.int 0)) (mkH hi hl sw kp)) : cS (d + 2) 184 [.ref 279] (mkH hi hl sw kp) Q := by
  refine e_184 (d := d) ?_
  rw [h.2.2.2.1]
  exact c184 S h.2.2.2.2.2 hv hL w1 w0
/-- may a not stand here -/
theorem g185 (h : RPS n f S P U a hi hl) (hv : VSg S) (hL : S.length ≤ 100) : (¬ g_185 hi = 0 ↔ PB 4 S) ∧ (¬ hi 279 19 = 0 → vp_in (hi 279 19 - 1) 160) := by
  have e19 : hi 279 19 = nI S.length := h.2.2.2.1
  cases S with
  | nil =>
    have e0 : hi 279 19 = 0 := e19
    unfold g_185
    rw [if_pos e0]
    exact ⟨⟨fun _ => trivial, fun _ => by decide⟩, fun z => absurd e0 z⟩
  | cons s S =>
    have hL2 : S.length + 1 ≤ 100 := hL
    have ne : ¬ hi 279 19 = 0 := by rw [e19]; exact nI_ne0 (by show 0 < S.length + 1; omega) (by omega)
    have ei : hi 279 19 - 1 = nI S.length := by rw [e19]; exact nIm1 S.length
    have es : hi 286 S.length = nI s := h.2.2.2.2.2.1
    have hs := hv.h
    have i20 : nI s = 20 ↔ s = 20 := nI_eq (b := 20) (by omega) (by decide)
    have ht := tg_le s
    have il : (4 : Int32) ≤ g_182 (nI s) ↔ 4 ≤ tg s := by rw [g182 s (by omega)]; exact nI_leI (a := 4) (by decide) (by omega)
    unfold g_185
    rw [if_neg ne, ei, nI_clamp (by omega), es]
    refine ⟨?_, fun _ => vp_in_nI (by omega) (by decide)⟩
    show _ ↔ (s = 20 ∨ tg s < 4)
    by_cases c : nI s = 20
    · rw [if_pos c]
      exact ⟨fun _ => Or.inl (i20.mp c), fun _ => by decide⟩
    · rw [if_neg c]
      by_cases c2 : (4 : Int32) ≤ g_182 (nI s)
      · rw [if_pos c2]
        have := il.mp c2
        exact ⟨fun z => absurd rfl z, fun z => by
          rcases z with z | z
          · exact absurd (i20.mpr z) c
          · omega⟩
      · rw [if_neg c2]
        have : ¬ 4 ≤ tg s := fun z => c2 (il.mpr z)
        exact ⟨fun _ => Or.inr (by omega), fun _ => by decide⟩
theorem g187 (h : RPS n f S P U a hi hl) (hU : U ≤ 30) : g_187 hi = 0 ↔ U < 30 := by
  have e20 : hi 279 20 = nI U := h.2.1.2.1
  have e22 : hi 279 22 = nI U := h.2.2.1
  have i60 : ¬ nI U = 60 := fun z => by
    have := (nI_eq (b := 60) (by omega) (by decide)).mp z
    omega
  have i30 : nI U = 30 ↔ U = 30 := nI_eq (b := 30) (by omega) (by decide)
  unfold g_187
  rw [e20, if_neg i60, e22]
  by_cases c : nI U = 30
  · rw [if_pos c]
    have := i30.mp c
    exact ⟨fun z => absurd z (by decide), fun z => by omega⟩
  · rw [if_neg c]
    exact ⟨fun _ => by have : ¬ U = 30 := fun z => c (i30.mpr z); omega, fun _ => rfl⟩
theorem MS.lg (h : MS n f a hi hl) (h1 : hi 279 6 = 1) {i : Nat} (hi21 : i < 21) : lg_cmp (hl 279 9) (lN (w8 (OW i))) = 0 ↔ isW (tk (byt n f) a) i := by
  have := h.wd hi21
  unfold g_172 at this
  rw [if_pos h1] at this
  refine Iff.trans ?_ this
  by_cases c : lg_cmp (hl 279 9) (lN (w8 (OW i))) = 0
  · rw [if_pos c]
    exact ⟨fun _ => by decide, fun _ => c⟩
  · rw [if_neg c]
    exact ⟨fun z => absurd z c, fun z => absurd rfl z⟩
theorem g186 (h : MS n f a hi hl) : (ask (tk (byt n f) a) = none ∧ g_186 hi hl = -1) ∨ ∃ k, ask (tk (byt n f) a) = some k ∧ g_186 hi hl = nI k := by
  have h1 : hi 279 6 = 1 ↔ ts (tk (byt n f) a) = 1 := h.so (k := 1) (by decide)
  unfold g_186 ask
  by_cases c : hi 279 6 = 1
  · rw [if_pos c]
    have i11 : lg_cmp (hl 279 9) (495756602476 : Int64) = 0 ↔ isW (tk (byt n f) a) 11 := h.lg c (i := 11) (by decide)
    have i18 : lg_cmp (hl 279 9) (422776300915 : Int64) = 0 ↔ isW (tk (byt n f) a) 18 := h.lg c (i := 18) (by decide)
    have i19 : lg_cmp (hl 279 9) (1752135026 : Int64) = 0 ↔ isW (tk (byt n f) a) 19 := h.lg c (i := 19) (by decide)
    have i9 : lg_cmp (hl 279 9) (6383461 : Int64) = 0 ↔ isW (tk (byt n f) a) 9 := h.lg c (i := 9) (by decide)
    have i20 : lg_cmp (hl 279 9) (1751478885 : Int64) = 0 ↔ isW (tk (byt n f) a) 20 := h.lg c (i := 20) (by decide)
    by_cases c1 : lg_cmp (hl 279 9) (495756602476 : Int64) = 0
    · rw [if_pos c1, cI_1 (i11.mp c1)]
      exact Or.inr ⟨0, rfl, rfl⟩
    rw [if_neg c1, cI_0 (fun z => c1 (i11.mpr z))]
    by_cases c2 : lg_cmp (hl 279 9) (422776300915 : Int64) = 0
    · rw [if_pos c2, cI_1 (i18.mp c2)]
      exact Or.inr ⟨1, rfl, rfl⟩
    rw [if_neg c2, cI_0 (fun z => c2 (i18.mpr z))]
    by_cases c3 : lg_cmp (hl 279 9) (1752135026 : Int64) = 0
    · rw [if_pos c3, cI_1 (i19.mp c3)]
      exact Or.inr ⟨2, rfl, rfl⟩
    rw [if_neg c3, cI_0 (fun z => c3 (i19.mpr z))]
    by_cases c4 : lg_cmp (hl 279 9) (6383461 : Int64) = 0
    · rw [if_pos c4, cI_1 (i9.mp c4)]
      exact Or.inr ⟨3, rfl, rfl⟩
    rw [if_neg c4, cI_0 (fun z => c4 (i9.mpr z))]
    by_cases c5 : lg_cmp (hl 279 9) (1751478885 : Int64) = 0
    · rw [if_pos c5, cI_1 (i20.mp c5)]
      exact Or.inr ⟨4, rfl, rfl⟩
    rw [if_neg c5, cI_0 (fun z => c5 (i20.mpr z))]
    exact Or.inl ⟨rfl, rfl⟩
  · have nw : ∀ i, ¬ isW (tk (byt n f) a) i := fun i z => c (h1.mpr z.1)
    rw [if_neg c, cI_0 (nw 11), cI_0 (nw 18), cI_0 (nw 19), cI_0 (nw 9), cI_0 (nw 20)]
    exact Or.inl ⟨rfl, rfl⟩
theorem g191 (h : MS n f a hi hl) : g_191 hi hl = nI (sgt (tk (byt n f) a)) := by
  have i16 : ¬ g_172 hi hl (6385252 : Int64) = 0 ↔ isW (tk (byt n f) a) 16 := h.wd (i := 16) (by decide)
  have i15 : ¬ g_172 hi hl (28530 : Int64) = 0 ↔ isW (tk (byt n f) a) 15 := h.wd (i := 15) (by decide)
  have is : hi 279 6 = nI (ts (tk (byt n f) a)) := h.2.2.2.2.2.1.2.1
  have iq : ∀ k, k < 200 → (hi 279 6 = nI k ↔ ts (tk (byt n f) a) = k) := fun k hk => h.so hk
  unfold g_191
  by_cases c1 : g_172 hi hl (6385252 : Int64) = 0
  · rw [if_pos c1]
    by_cases c2 : g_172 hi hl (28530 : Int64) = 0
    · rw [if_pos c2]
      have n16 : ¬ isW (tk (byt n f) a) 16 := fun z => i16.mpr z c1
      have n15 : ¬ isW (tk (byt n f) a) 15 := fun z => i15.mpr z c2
      by_cases c3 : tmT (tk (byt n f) a) ∨ pnT (tk (byt n f) a) ∨ rlT (tk (byt n f) a)
      · rw [sgt_sg c3, ← is]
        have o60 : (hi 279 6 = 60 ∨ hi 279 6 = 62 ∨ hi 279 6 = 61 ∨ hi 279 6 = 43 ∨ hi 279 6 = 45 ∨ hi 279 6 = 42 ∨ hi 279 6 = 47 ∨ hi 279 6 = 37) → (if hi 279 6 = 60 then hi 279 6 else if hi 279 6 = 62 then hi 279 6 else if hi 279 6 = 61 then hi 279 6 else if hi 279 6 = 43 then hi 279 6 else if hi 279 6 = 45 then hi 279 6 else if hi 279 6 = 42 then hi 279 6 else if hi 279 6 = 47 then hi 279 6 else if hi 279 6 = 37 then hi 279 6 else 0) = hi 279 6 := fun q => by
          rcases q with q | q | q | q | q | q | q | q <;> rw [q] <;> decide
        refine o60 ?_
        rcases c3 with (q | q | q) | (q | q) | (q | q | q) <;> rw [is, q] <;> decide
      · rw [sgt_0 n16 n15 c3]
        have nn : ∀ k, k < 200 → ts (tk (byt n f) a) ≠ k → ¬ hi 279 6 = nI k := fun k hk q z => q ((iq k hk).mp z)
        rw [if_neg (show ¬ hi 279 6 = (60 : Int32) from nn 60 (by decide) (by omega)), if_neg (show ¬ hi 279 6 = (62 : Int32) from nn 62 (by decide) (by omega)), if_neg (show ¬ hi 279 6 = (61 : Int32) from nn 61 (by decide) (by omega)), if_neg (show ¬ hi 279 6 = (43 : Int32) from nn 43 (by decide) (by omega)), if_neg (show ¬ hi 279 6 = (45 : Int32) from nn 45 (by decide) (by omega)), if_neg (show ¬ hi 279 6 = (42 : Int32) from nn 42 (by decide) (by omega)), if_neg (show ¬ hi 279 6 = (47 : Int32) from nn 47 (by decide) (by omega)), if_neg (show ¬ hi 279 6 = (37 : Int32) from nn 37 (by decide) (by omega))]
        rfl
    · rw [if_neg c2, sgt_or (i15.mp c2)]
      rfl
  · rw [if_neg c1, sgt_and (i16.mp c1)]
    rfl
end VPS
