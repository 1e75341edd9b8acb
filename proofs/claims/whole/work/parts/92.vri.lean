/-! ===== village: the reference's draft, changed ===== -/
section VRI
variable {hi hi' : Nat → Nat → Int32} {hl hl' : Nat → Nat → Int64} {D : Dr}
theorem RI.sc {k j : Nat} {x : Int32} (h : RI D hi) (hk : ((k = 289 ∨ k = 290 ∨ k = 291) ∧ j = dP D) ∨ (k = 292 ∧ j = dC D)) : RI D (u2 hi k j x) := by
  obtain ⟨⟨h0, h1, h2, h3, h4, h5⟩, h6, h7, h8, h9, h10⟩ := h
  have e1 : ∀ i, u2 hi k j x 279 i = hi 279 i := fun i => u2_nn (by omega)
  refine ⟨⟨?_, ?_, ?_, ?_, ?_, fun i k1 k2 => ?_⟩, fun p hp => ?_, fun c hc => ?_, ?_, fun i i1 i2 => ?_, h10.cg (e1 17) (e1 20) (u2_row_ne (by omega)) (u2_row_ne (by omega))⟩
  · rw [e1]; exact h0
  · rw [e1]; exact h1
  · rw [e1]; exact h2
  · rw [e1]; exact h3
  · rw [e1]; exact h4
  · rw [e1]; exact h5 i k1 k2
  · rw [u2_nn (by omega), u2_nn (by omega), u2_nn (by omega)]; exact h6 p hp
  · rw [u2_nn (by omega)]; exact h7 c hc
  · rw [u2_row_ne (by omega)]; exact h8
  · rw [e1]; exact h9 i i1 i2
theorem RI.deed {l : List Nat} {Y : Nat → Nat → Int32} (ht : ∀ k, (dtm D).testBit k = true → k / 4 < dD D ∧ k % 4 < dC D) (h : RI D hi) (y1 : ∀ c j, c ≠ 293 → Y c j = hi c j) (y2 : ∀ j, Y 293 j = if 4 * dD D ≤ j ∧ j < 4 * dD D + 4 then -1000000 else hi 293 j) : RI (aDeed D l) (u2 Y 279 35 (Y 279 35 + 1)) := by
  obtain ⟨⟨h0, h1, h2, h3, h4, h5⟩, h6, h7, h8, h9, h10⟩ := h
  have r : ∀ c, c ≠ 279 → c ≠ 293 → u2 Y 279 35 (Y 279 35 + 1) c = hi c := fun c a1 a2 => by
    rw [u2_row_ne a1]
    funext j
    exact y1 c j a2
  have e1 : ∀ i, i ≠ 35 → u2 Y 279 35 (Y 279 35 + 1) 279 i = hi 279 i := fun i q => by
    rw [u2_nn (by omega)]
    exact y1 279 i (by decide)
  refine ⟨⟨?_, ?_, ?_, ?_, ?_, fun i k1 k2 => ?_⟩, ?_, ?_, fun e c he hc => ?_, fun i i1 i2 => ?_, h10.cg (e1 17 (by decide)) (e1 20 (by decide)) (r 282 (by decide) (by decide)) (r 283 (by decide) (by decide))⟩
  · rw [u2_s, y1 279 35 (by decide), h0]
    exact (nI_succ _).symm
  · rw [e1 36 (by decide)]; exact h1
  · rw [e1 37 (by decide)]; exact h2
  · rw [e1 38 (by decide)]; exact h3
  · rw [e1 39 (by decide)]; exact h4
  · rw [e1 (36 + i) (by omega)]; exact h5 i k1 k2
  · rw [r 289 (by decide) (by decide), r 290 (by decide) (by decide), r 291 (by decide) (by decide)]; exact h6
  · rw [r 292 (by decide) (by decide)]; exact h7
  · have he2 : e < dD D + 1 := he
    rw [u2_row_ne (by decide), y2]
    by_cases c1 : e = dD D
    · rw [if_pos (by omega)]
      show _ = tbv D (4 * e + c)
      unfold tbv
      rw [if_neg (fun z => by have := ht _ z; omega)]
    · rw [if_neg (by omega)]
      exact h8 e c (by omega) hc
  · rw [e1 (47 + i) (by omega)]; exact h9 i i1 i2
/-- a field of the reference's object -/
theorem RI.place {l : List Nat} {v e : Nat} (h0' : dld D (dP D) = 0) (h : RI D hi) (g1 : hi 289 (dP D) = nI v) (g2 : hi 290 (dP D) = nI e) (g3 : hi 291 (dP D) = 0) : RI (aPlace D l v e) (u2 hi 279 36 (hi 279 36 + 1)) := by
  obtain ⟨⟨h0, h1, h2, h3, h4, h5⟩, h6, h7, h8, h9, h10⟩ := h
  have e1 : ∀ i, i ≠ 36 → u2 hi 279 36 (hi 279 36 + 1) 279 i = hi 279 i := fun i q => u2_nn (by omega)
  refine ⟨⟨?_, ?_, ?_, ?_, ?_, fun i k1 k2 => ?_⟩, fun p hp => ?_, ?_, ?_, fun i i1 i2 => ?_, h10.cg (e1 17 (by decide)) (e1 20 (by decide)) (u2_row_ne (by decide)) (u2_row_ne (by decide))⟩
  · rw [e1 35 (by decide)]; exact h0
  · rw [u2_s, h1]
    exact (nI_succ _).symm
  · rw [e1 37 (by decide)]; exact h2
  · rw [e1 38 (by decide)]; exact h3
  · rw [e1 39 (by decide)]; exact h4
  · rw [e1 (36 + i) (by omega)]; exact h5 i k1 k2
  · have hp2 : p < dP D + 1 := hp
    rw [u2_row_ne (by decide), u2_row_ne (by decide), u2_row_ne (by decide)]
    show _ = nI (up1 (dsm D) (dP D) v p) ∧ _ = nI (up1 (ddz D) (dP D) e p) ∧ _ = nI (dld D p)
    by_cases c : p = dP D
    · rw [c, up1_s, up1_s, h0']
      exact ⟨g1, g2, g3⟩
    · rw [up1_n c, up1_n c]
      exact h6 p (by omega)
  · rw [u2_row_ne (by decide)]; exact h7
  · rw [u2_row_ne (by decide)]; exact h8
  · rw [e1 (47 + i) (by omega)]; exact h9 i i1 i2
theorem RI.case {l : List Nat} {v : Nat} (h : RI D hi) (g1 : hi 292 (dC D) = nI v) : RI (aCase D l v) (u2 hi 279 38 (hi 279 38 + 1)) := by
  obtain ⟨⟨h0, h1, h2, h3, h4, h5⟩, h6, h7, h8, h9, h10⟩ := h
  have e1 : ∀ i, i ≠ 38 → u2 hi 279 38 (hi 279 38 + 1) 279 i = hi 279 i := fun i q => u2_nn (by omega)
  refine ⟨⟨?_, ?_, ?_, ?_, ?_, fun i k1 k2 => ?_⟩, ?_, fun p hp => ?_, ?_, fun i i1 i2 => ?_, h10.cg (e1 17 (by decide)) (e1 20 (by decide)) (u2_row_ne (by decide)) (u2_row_ne (by decide))⟩
  · rw [e1 35 (by decide)]; exact h0
  · rw [e1 36 (by decide)]; exact h1
  · rw [e1 37 (by decide)]; exact h2
  · rw [u2_s, h3]
    exact (nI_succ _).symm
  · rw [e1 39 (by decide)]; exact h4
  · rw [e1 (36 + i) (by omega)]; exact h5 i k1 k2
  · rw [u2_row_ne (by decide), u2_row_ne (by decide), u2_row_ne (by decide)]; exact h6
  · have hp2 : p < dC D + 1 := hp
    rw [u2_row_ne (by decide)]
    show _ = nI (up1 (dbr D) (dC D) v p)
    by_cases c : p = dC D
    · rw [c, up1_s]
      exact g1
    · rw [up1_n c]
      exact h7 p (by omega)
  · rw [u2_row_ne (by decide)]; exact h8
  · rw [e1 (47 + i) (by omega)]; exact h9 i i1 i2
theorem RI.path {p q : Nat} (h : RI D hi) : RI (aPath D p q) (u2 (u2 (u2 hi 291 p (nI (dld D p ||| 2 ^ q))) 291 q (nI (dld D q ||| 2 ^ p))) 279 37 (hi 279 37 + 1)) := by
  obtain ⟨⟨h0, h1, h2, h3, h4, h5⟩, h6, h7, h8, h9, h10⟩ := h
  have e1 : ∀ i, i ≠ 37 → u2 (u2 (u2 hi 291 p (nI (dld D p ||| 2 ^ q))) 291 q (nI (dld D q ||| 2 ^ p))) 279 37 (hi 279 37 + 1) 279 i = hi 279 i := fun i z => by rw [u2_nn (by omega), u2_nn (by omega), u2_nn (by omega)]
  have r : ∀ c, c ≠ 279 → c ≠ 291 → u2 (u2 (u2 hi 291 p (nI (dld D p ||| 2 ^ q))) 291 q (nI (dld D q ||| 2 ^ p))) 279 37 (hi 279 37 + 1) c = hi c := fun c a1 a2 => by rw [u2_row_ne a1, u2_row_ne a2, u2_row_ne a2]
  refine ⟨⟨?_, ?_, ?_, ?_, ?_, fun i k1 k2 => ?_⟩, fun j hj => ?_, ?_, ?_, fun i i1 i2 => ?_, h10.cg (e1 17 (by decide)) (e1 20 (by decide)) (r 282 (by decide) (by decide)) (r 283 (by decide) (by decide))⟩
  · rw [e1 35 (by decide)]; exact h0
  · rw [e1 36 (by decide)]; exact h1
  · rw [u2_s, h2]
    exact (nI_succ _).symm
  · rw [e1 38 (by decide)]; exact h3
  · rw [e1 39 (by decide)]; exact h4
  · rw [e1 (36 + i) (by omega)]; exact h5 i k1 k2
  · have h6' := h6 j hj
    rw [r 289 (by decide) (by decide), r 290 (by decide) (by decide), u2_row_ne (by decide)]
    refine ⟨h6'.1, h6'.2.1, ?_⟩
    show _ = nI (up1 (up1 (dld D) p (dld D p ||| 2 ^ q)) q (dld D q ||| 2 ^ p) j)
    by_cases c : j = q
    · rw [c, u2_s, up1_s]
    · rw [u2_nn (fun z => c z.2), up1_n c]
      by_cases c2 : j = p
      · rw [c2, u2_s, up1_s]
      · rw [u2_nn (fun z => c2 z.2), up1_n c2]
        exact h6'.2.2
  · rw [r 292 (by decide) (by decide)]; exact h7
  · rw [r 293 (by decide) (by decide)]; exact h8
  · rw [e1 (47 + i) (by omega)]; exact h9 i i1 i2
theorem RI.when {k : Nat} {v : Int32} (hk : k < 16) (hb : (dtm D).testBit k = false) (h : RI D hi) : RI (aWhen D k v) (u2 (u2 hi 293 k v) 279 39 (hi 279 39 + 1)) := by
  obtain ⟨⟨h0, h1, h2, h3, h4, h5⟩, h6, h7, h8, h9, h10⟩ := h
  have e1 : ∀ i, i ≠ 39 → u2 (u2 hi 293 k v) 279 39 (hi 279 39 + 1) 279 i = hi 279 i := fun i z => by rw [u2_nn (by omega), u2_nn (by omega)]
  have r : ∀ c, c ≠ 279 → c ≠ 293 → u2 (u2 hi 293 k v) 279 39 (hi 279 39 + 1) c = hi c := fun c a1 a2 => by rw [u2_row_ne a1, u2_row_ne a2]
  refine ⟨⟨?_, ?_, ?_, ?_, ?_, fun i k1 k2 => ?_⟩, ?_, ?_, fun e c he hc => ?_, fun i i1 i2 => ?_, h10.cg (e1 17 (by decide)) (e1 20 (by decide)) (r 282 (by decide) (by decide)) (r 283 (by decide) (by decide))⟩
  · rw [e1 35 (by decide)]; exact h0
  · rw [e1 36 (by decide)]; exact h1
  · rw [e1 37 (by decide)]; exact h2
  · rw [e1 38 (by decide)]; exact h3
  · show _ = nI (bc (dtm D ||| 2 ^ k) 16)
    rw [u2_s, h4, bc_u hb, if_pos hk]
    exact (nI_succ _).symm
  · rw [e1 (36 + i) (by omega)]; exact h5 i k1 k2
  · rw [r 289 (by decide) (by decide), r 290 (by decide) (by decide), r 291 (by decide) (by decide)]; exact h6
  · rw [r 292 (by decide) (by decide)]; exact h7
  · rw [u2_row_ne (by decide)]
    have h8' := h8 e c he hc
    show _ = (if (dtm D ||| 2 ^ k).testBit (4 * e + c) = true then up1 (dtb D) k v (4 * e + c) else -1000000)
    rw [bt_u]
    by_cases c1 : 4 * e + c = k
    · rw [c1, u2_s, decide_eq_true rfl, Bool.or_true, if_pos rfl, up1_s]
    · rw [u2_nn (fun z => c1 z.2), decide_eq_false (fun z => c1 z.symm), Bool.or_false, up1_n c1]
      exact h8'
  · rw [e1 (47 + i) (by omega)]; exact h9 i i1 i2
theorem RI.once {i k v : Nat} (hi5 : 5 ≤ i ∧ i ≤ 10) (hk : 4 ≤ k ∧ k ≤ 8) (h : RI D hi) (g1 : ∀ j, ¬ (j = 36 + k) → ¬ (j = 47 + i) → (j = 17 ∨ j = 20 ∨ (35 ≤ j ∧ j ≤ 44) ∨ (52 ≤ j ∧ j ≤ 57)) → hi' 279 j = hi 279 j) (g2 : hi' 279 (36 + k) = nI v) (g3 : hi' 279 (47 + i) = 1) (g4 : ∀ c, c = 282 ∨ c = 283 ∨ (289 ≤ c ∧ c ≤ 293) → hi' c = hi c) : RI (aOnce D i k v) hi' := by
  obtain ⟨⟨h0, h1, h2, h3, h4, h5⟩, h6, h7, h8, h9, h10⟩ := h
  refine ⟨⟨?_, ?_, ?_, ?_, ?_, fun j k1 k2 => ?_⟩, ?_, ?_, ?_, fun j i1 i2 => ?_, h10.cg (g1 17 (by omega) (by omega) (by omega)) (g1 20 (by omega) (by omega) (by omega)) (g4 282 (by omega)) (g4 283 (by omega))⟩
  · rw [g1 35 (by omega) (by omega) (by omega)]; exact h0
  · rw [g1 36 (by omega) (by omega) (by omega)]; exact h1
  · rw [g1 37 (by omega) (by omega) (by omega)]; exact h2
  · rw [g1 38 (by omega) (by omega) (by omega)]; exact h3
  · rw [g1 39 (by omega) (by omega) (by omega)]; exact h4
  · show _ = nI (up1 (dvl D) k v j)
    by_cases c : j = k
    · rw [c, up1_s]
      exact g2
    · rw [up1_n c, g1 (36 + j) (by omega) (by omega) (by omega)]
      exact h5 j k1 k2
  · rw [g4 289 (by omega), g4 290 (by omega), g4 291 (by omega)]; exact h6
  · rw [g4 292 (by omega)]; exact h7
  · rw [g4 293 (by omega)]; exact h8
  · show _ = (if (dom D ||| 2 ^ i).testBit j = true then 1 else 0)
    rw [bt_u]
    by_cases c : j = i
    · rw [c, decide_eq_true rfl, Bool.or_true, if_pos rfl]
      exact g3
    · rw [decide_eq_false (fun z => c z.symm), Bool.or_false, g1 (47 + j) (by omega) (by omega) (by omega)]
      exact h9 j i1 i2
theorem RI.pull {P : List (Nat × Nat)} {U : Nat} (h : RI D hi) (g1 : ∀ j, ¬ (j = 52) → ((35 ≤ j ∧ j ≤ 44) ∨ (52 ≤ j ∧ j ≤ 57)) → hi' 279 j = hi 279 j) (g3 : hi' 279 52 = 1) (g4 : ∀ c, 289 ≤ c ∧ c ≤ 293 → hi' c = hi c) (g5 : RP P U hi') : RI (aPull D P U) hi' := by
  obtain ⟨⟨h0, h1, h2, h3, h4, h5⟩, h6, h7, h8, h9, h10⟩ := h
  refine ⟨⟨?_, ?_, ?_, ?_, ?_, fun j k1 k2 => ?_⟩, ?_, ?_, ?_, fun j i1 i2 => ?_, g5⟩
  · rw [g1 35 (by omega) (by omega)]; exact h0
  · rw [g1 36 (by omega) (by omega)]; exact h1
  · rw [g1 37 (by omega) (by omega)]; exact h2
  · rw [g1 38 (by omega) (by omega)]; exact h3
  · rw [g1 39 (by omega) (by omega)]; exact h4
  · rw [g1 (36 + j) (by omega) (by omega)]; exact h5 j k1 k2
  · rw [g4 289 (by omega), g4 290 (by omega), g4 291 (by omega)]; exact h6
  · rw [g4 292 (by omega)]; exact h7
  · rw [g4 293 (by omega)]; exact h8
  · unfold onv aPull
    dsimp only [dom]
    rw [bt_u]
    by_cases c : j = 5
    · rw [c, decide_eq_true rfl, Bool.or_true, if_pos rfl]
      exact g3
    · rw [decide_eq_false (fun z => c z.symm), Bool.or_false, g1 (47 + j) (by omega) (by omega)]
      exact h9 j i1 i2
end VRI
