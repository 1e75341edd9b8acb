/-! ===== names ===== -/
section NAMES
variable {d : Nat} {Q : am_Q} {hi : Nat → Nat → Int32} {hl : Nat → Nat → Int64} {sw : Bool} {kp : Nat → Nat} {n a : Nat} {f : Nat → Int32}
theorem rnd_all {P : Int32 → Int32} {b : Nat → Int32} : ∀ (k a j : Nat), a ≤ j → j < rnd P b k a → ¬ P (b j) = 0
  | 0, a, j, h1, h2 => absurd h2 (by show ¬ j < a; omega)
  | k + 1, a, j, h1, h2 => by
    have h3 : j < (if P (b a) = 0 then a else rnd P b k (a + 1)) := h2
    by_cases c : P (b a) = 0
    · rw [if_pos c] at h3
      omega
    · rw [if_neg c] at h3
      by_cases e : j = a
      · subst e; exact c
      · exact rnd_all k (a + 1) j (by omega) h3
theorem tk_w {b : Nat → Int32} {a : Nat} (h : ts (tk b a) = 1) : ltr (tl (tk b a)) ∧ w5 (tl (tk b a)) < 2 ^ 62 := by
  unfold tk at h ⊢
  obtain ⟨p, hp⟩ : ∃ p, p = rnd g_74 b 1601 a := ⟨_, rfl⟩
  rw [← hp] at h ⊢
  unfold tkp at h ⊢
  by_cases c0 : b p = -1
  · rw [if_pos c0] at h
    exact absurd (show 0 = 1 from h) (by decide)
  · rw [if_neg c0] at h ⊢
    by_cases c1 : g_75 (b p) = 0
    · rw [if_pos c1] at h
      by_cases c2 : g_76 (b p) = 0
      · rw [if_pos c2] at h
        by_cases c3 : g_77 (b p) = 0
        · rw [if_pos c3] at h
          exact absurd (show 3 = 1 from h) (by decide)
        · rw [if_neg c3] at h
          obtain ⟨s, s1, s2, s3⟩ := sgn_v c3
          have h2 : (b p).toNatClampNeg = 1 := h
          rw [s3, nI_clamp (by omega)] at h2
          omega
      · rw [if_neg c2] at h
        by_cases c3 : 4 < rnd g_76 b 1601 p - p ∨ ¬ g_75 (b (rnd g_76 b 1601 p)) = 0
        · rw [if_pos c3] at h
          exact absurd (show 3 = 1 from h) (by decide)
        · rw [if_neg c3] at h
          exact absurd (show 2 = 1 from h) (by decide)
    · rw [if_neg c1] at h ⊢
      by_cases c3 : 8 < rnd g_75 b 1601 p - p
      · rw [if_pos c3] at h
        exact absurd (show 3 = 1 from h) (by decide)
      · rw [if_neg c3]
        obtain ⟨l1, l2⟩ := lts_ok (b := b) (p := p) (rnd g_75 b 1601 p - p) (fun j a1 a2 => rnd_all 1601 p j a1 (by omega))
        have hw := w5_lt _ l1
        rw [l2] at hw
        have h8 : 32 ^ (rnd g_75 b 1601 p - p) ≤ 32 ^ 8 := Nat.pow_le_pow_right (by decide) (by omega)
        exact ⟨l1, Nat.lt_of_lt_of_le hw (Nat.le_trans h8 (by decide))⟩
/-- indexOfName over cell 15 -/
theorem f104a {m : Nat} {N : Nat → List Nat} {l : List Nat} (hm : m ≤ 4) (hN : ∀ i, i < m → hl 15 i = lN (w5 (N i)) ∧ ltr (N i) ∧ w5 (N i) < 2 ^ 62) (e5 : hl 3 5 = lN (w5 l)) (hl1 : ltr l) (hl2 : w5 l < 2 ^ 62) (w1 : ∀ i, i < m → N i = l → Q (some (.int (nI i))) (mkH hi hl sw kp)) (w0 : (∀ i, i < m → N i ≠ l) → Q (some (.int (-1))) (mkH hi hl sw kp)) : cS (d + 1) 104 [.ref 14, .ref 15, .int (nI m)] (mkH hi hl sw kp) Q := by
  refine e_104a (lpu (σ := Unit) m (fun i _ => cW cd_104 d Q 2 [some (.ref 14), some (.ref 15), some (.int (nI m)), some (.int (nI i))] [] (mkH hi hl sw kp)) (fun i _ => ∀ j, j < i → N j ≠ l) ?_ ?_ m 0 () (Nat.zero_add m) (fun j hj => absurd hj (Nat.not_lt_zero j)))
  · intro _ h
    exact k_104a_2 (fun _ => w0 h) (fun c => absurd (Int32.le_refl _) c) (fun c => absurd (Int32.le_refl _) c) (fun c => absurd (Int32.le_refl _) c) (fun c => absurd (Int32.le_refl _) c)
  · intro i _ him h ih
    have hg : ¬ nI m ≤ nI i := nI_ge him (by omega)
    have h8 : ¬ (Int32.ofNat 4) ≤ nI i := nI_ge (a := i) (b := 4) (by omega) (by decide)
    obtain ⟨n1, n2, n3⟩ := hN i him
    have ec : (nI i).toNatClampNeg = i := nI_clamp (by omega)
    refine k_104a_2 (fun c => absurd c hg) (fun _ c => absurd c h8) (fun _ _ => vp_in_nI (by omega) (by decide)) (fun _ _ c => ?_) (fun _ _ c => ?_)
    · rw [ec, n1, e5, lg_eq (by omega) (by omega)] at c
      exact w1 i him (w5_in _ _ n2 hl1 c)
    · rw [ec, n1, e5, lg_eq (by omega) (by omega)] at c
      rw [nI_1]
      refine ih () (fun j hj => ?_)
      by_cases hji : j = i
      · subst hji
        exact fun z => c (by rw [z])
      · exact h j (by omega)
/-- knownName over cell 15 -/
theorem f103a {m : Nat} {N : Nat → List Nat} (hm : m ≤ 4) (h : RS n f a hi hl) (hN : ∀ i, i < m → hl 15 i = lN (w5 (N i)) ∧ ltr (N i) ∧ w5 (N i) < 2 ^ 62) (w1 : isNm (tk (byt n f) a) → ∀ i, i < m → N i = tl (tk (byt n f) a) → Q (some (.int (nI i))) (mkH hi hl sw kp)) (w0 : ∀ w, (¬ isNm (tk (byt n f) a) ∧ w = 2) ∨ (isNm (tk (byt n f) a) ∧ (∀ i, i < m → N i ≠ tl (tk (byt n f) a)) ∧ w = 5) → Q (some (.int (-1))) (mkH (u2 (u2 hi 3 7 (nI (ftw (tk (byt n f) a) w))) 3 8 (nI (tp (tk (byt n f) a)))) hl sw kp)) : cS (d + 4) 103 [.ref 14, .ref 15, .int (nI m)] (mkH hi hl sw kp) Q := by
  refine e_103a ?_ ?_ <;> rw [h.nm] <;> intro c
  · obtain ⟨q1, q2⟩ := tk_w (b := byt n f) (a := a) c.1
    refine f104a (d := d + 2) hm hN (h.2.2.1.2.2.1 c.1).2 q1 q2 (fun i him e => k_103a_28 (fun z => ?_) (fun _ => w1 c i him e)) (fun hno => k_103a_28 (fun _ => f72 (d := d + 1) (w := 5) h (k_103a_42 (w0 5 (Or.inr ⟨c, hno, rfl⟩)))) (fun z => absurd rfl z))
    have z2 : nI i < 0 := by rw [z]; decide
    exact absurd z2 (nI_pos (by omega))
  · exact f72 (d := d + 1) (w := 2) h (k_103a_19 (w0 2 (Or.inl ⟨c, rfl⟩)))
/-- newName over cell 15 -/
theorem f102a {m : Nat} {N : Nat → List Nat} (hm : m < 4) (h : RS n f a hi hl) (hN : ∀ i, i < m → hl 15 i = lN (w5 (N i)) ∧ ltr (N i) ∧ w5 (N i) < 2 ^ 62) (w1 : isNm (tk (byt n f) a) → (∀ i, i < m → N i ≠ tl (tk (byt n f) a)) → ∀ (hi' : Nat → Nat → Int32) (hl' : Nat → Nat → Int64), RS n f (te (tk (byt n f) a)) hi' hl' → FT hi' hi hl' (u2 hl 15 m (lN (w5 (tl (tk (byt n f) a))))) → Q (some (.int 1)) (mkH hi' hl' sw kp)) (w0 : ∀ w, (¬ isNm (tk (byt n f) a) ∧ w = 2) ∨ (isNm (tk (byt n f) a) ∧ (∃ i, i < m ∧ N i = tl (tk (byt n f) a)) ∧ w = 3) → Q (some (.int 0)) (mkH (u2 (u2 hi 3 7 (nI (ftw (tk (byt n f) a) w))) 3 8 (nI (tp (tk (byt n f) a)))) hl sw kp)) : cS (d + 5) 102 [.ref 14, .ref 15, .int (nI m)] (mkH hi hl sw kp) Q := by
  have h0 : ¬ nI m < (0 : Int32) := nI_pos (by omega)
  have hK : nI m < (Int32.ofNat 4) := nI_lt (b := 4) hm (by decide)
  refine e_102a (fun _ c => absurd c h0) ?_ (fun _ _ c => absurd hK c) ?_ <;> rw [h.nm] <;> intro c
  · intro _ _
    obtain ⟨q1, q2⟩ := tk_w (b := byt n f) (a := a) c.1
    have e5 := (h.2.2.1.2.2.1 c.1).2
    refine f104a (d := d + 3) (by omega) hN e5 q1 q2 (fun i him e => k_102a_36 (fun z => ?_) (fun z => ?_) (fun _ => f72 (d := d + 2) (w := 3) h (k_102a_48 (Or.inl rfl) (w0 3 (Or.inr ⟨c, ⟨i, him, e⟩, rfl⟩))))) (fun hno => k_102a_36 (fun _ => vp_in_nI (by omega) (by decide)) (fun _ => ?_) (fun z => absurd rfl z))
    · have z2 : nI i < 0 := by rw [z]; decide
      exact absurd z2 (nI_pos (by omega))
    · have z2 : nI i < 0 := by rw [z]; decide
      exact absurd z2 (nI_pos (by omega))
    · rw [nI_clamp (by omega), e5]
      have h' : RS n f a hi (u2 hl 15 m (lN (w5 (tl (tk (byt n f) a))))) := by
        obtain ⟨r1, r2, r3, r4⟩ := h
        refine ⟨r1, fun j hj => by rw [u2_row_ne (by decide)]; exact r2 j hj, ?_, r4⟩
        obtain ⟨c1, c2, c3, c4, c5, c6, c7⟩ := r3
        exact ⟨c1, c2, fun z => ⟨(c3 z).1, by rw [u2_row_ne (by decide)]; exact (c3 z).2⟩, c4, c5, c6, c7⟩
      exact f67r (d := d) h' (by rw [c.1]; decide) (fun hi' hl' r1 r2 => k_102a_66 (w1 c hno hi' hl' r1 r2))
  · exact f72 (d := d + 2) (w := 2) h (k_102a_29 (Or.inl rfl) (w0 2 (Or.inl ⟨c, rfl⟩)))
/-- indexOfName over cell 16 -/
theorem f104b {m : Nat} {N : Nat → List Nat} {l : List Nat} (hm : m ≤ 8) (hN : ∀ i, i < m → hl 16 i = lN (w5 (N i)) ∧ ltr (N i) ∧ w5 (N i) < 2 ^ 62) (e5 : hl 3 5 = lN (w5 l)) (hl1 : ltr l) (hl2 : w5 l < 2 ^ 62) (w1 : ∀ i, i < m → N i = l → Q (some (.int (nI i))) (mkH hi hl sw kp)) (w0 : (∀ i, i < m → N i ≠ l) → Q (some (.int (-1))) (mkH hi hl sw kp)) : cS (d + 1) 104 [.ref 14, .ref 16, .int (nI m)] (mkH hi hl sw kp) Q := by
  refine e_104b (lpu (σ := Unit) m (fun i _ => cW cd_104 d Q 2 [some (.ref 14), some (.ref 16), some (.int (nI m)), some (.int (nI i))] [] (mkH hi hl sw kp)) (fun i _ => ∀ j, j < i → N j ≠ l) ?_ ?_ m 0 () (Nat.zero_add m) (fun j hj => absurd hj (Nat.not_lt_zero j)))
  · intro _ h
    exact k_104b_2 (fun _ => w0 h) (fun c => absurd (Int32.le_refl _) c) (fun c => absurd (Int32.le_refl _) c) (fun c => absurd (Int32.le_refl _) c) (fun c => absurd (Int32.le_refl _) c)
  · intro i _ him h ih
    have hg : ¬ nI m ≤ nI i := nI_ge him (by omega)
    have h8 : ¬ (Int32.ofNat 8) ≤ nI i := nI_ge (a := i) (b := 8) (by omega) (by decide)
    obtain ⟨n1, n2, n3⟩ := hN i him
    have ec : (nI i).toNatClampNeg = i := nI_clamp (by omega)
    refine k_104b_2 (fun c => absurd c hg) (fun _ c => absurd c h8) (fun _ _ => vp_in_nI (by omega) (by decide)) (fun _ _ c => ?_) (fun _ _ c => ?_)
    · rw [ec, n1, e5, lg_eq (by omega) (by omega)] at c
      exact w1 i him (w5_in _ _ n2 hl1 c)
    · rw [ec, n1, e5, lg_eq (by omega) (by omega)] at c
      rw [nI_1]
      refine ih () (fun j hj => ?_)
      by_cases hji : j = i
      · subst hji
        exact fun z => c (by rw [z])
      · exact h j (by omega)
/-- knownName over cell 16 -/
theorem f103b {m : Nat} {N : Nat → List Nat} (hm : m ≤ 8) (h : RS n f a hi hl) (hN : ∀ i, i < m → hl 16 i = lN (w5 (N i)) ∧ ltr (N i) ∧ w5 (N i) < 2 ^ 62) (w1 : isNm (tk (byt n f) a) → ∀ i, i < m → N i = tl (tk (byt n f) a) → Q (some (.int (nI i))) (mkH hi hl sw kp)) (w0 : ∀ w, (¬ isNm (tk (byt n f) a) ∧ w = 2) ∨ (isNm (tk (byt n f) a) ∧ (∀ i, i < m → N i ≠ tl (tk (byt n f) a)) ∧ w = 5) → Q (some (.int (-1))) (mkH (u2 (u2 hi 3 7 (nI (ftw (tk (byt n f) a) w))) 3 8 (nI (tp (tk (byt n f) a)))) hl sw kp)) : cS (d + 4) 103 [.ref 14, .ref 16, .int (nI m)] (mkH hi hl sw kp) Q := by
  refine e_103b ?_ ?_ <;> rw [h.nm] <;> intro c
  · obtain ⟨q1, q2⟩ := tk_w (b := byt n f) (a := a) c.1
    refine f104b (d := d + 2) hm hN (h.2.2.1.2.2.1 c.1).2 q1 q2 (fun i him e => k_103b_28 (fun z => ?_) (fun _ => w1 c i him e)) (fun hno => k_103b_28 (fun _ => f72 (d := d + 1) (w := 5) h (k_103b_42 (w0 5 (Or.inr ⟨c, hno, rfl⟩)))) (fun z => absurd rfl z))
    have z2 : nI i < 0 := by rw [z]; decide
    exact absurd z2 (nI_pos (by omega))
  · exact f72 (d := d + 1) (w := 2) h (k_103b_19 (w0 2 (Or.inl ⟨c, rfl⟩)))
/-- newName over cell 16 -/
theorem f102b {m : Nat} {N : Nat → List Nat} (hm : m < 8) (h : RS n f a hi hl) (hN : ∀ i, i < m → hl 16 i = lN (w5 (N i)) ∧ ltr (N i) ∧ w5 (N i) < 2 ^ 62) (w1 : isNm (tk (byt n f) a) → (∀ i, i < m → N i ≠ tl (tk (byt n f) a)) → ∀ (hi' : Nat → Nat → Int32) (hl' : Nat → Nat → Int64), RS n f (te (tk (byt n f) a)) hi' hl' → FT hi' hi hl' (u2 hl 16 m (lN (w5 (tl (tk (byt n f) a))))) → Q (some (.int 1)) (mkH hi' hl' sw kp)) (w0 : ∀ w, (¬ isNm (tk (byt n f) a) ∧ w = 2) ∨ (isNm (tk (byt n f) a) ∧ (∃ i, i < m ∧ N i = tl (tk (byt n f) a)) ∧ w = 3) → Q (some (.int 0)) (mkH (u2 (u2 hi 3 7 (nI (ftw (tk (byt n f) a) w))) 3 8 (nI (tp (tk (byt n f) a)))) hl sw kp)) : cS (d + 5) 102 [.ref 14, .ref 16, .int (nI m)] (mkH hi hl sw kp) Q := by
  have h0 : ¬ nI m < (0 : Int32) := nI_pos (by omega)
  have hK : nI m < (Int32.ofNat 8) := nI_lt (b := 8) hm (by decide)
  refine e_102b (fun _ c => absurd c h0) ?_ (fun _ _ c => absurd hK c) ?_ <;> rw [h.nm] <;> intro c
  · intro _ _
    obtain ⟨q1, q2⟩ := tk_w (b := byt n f) (a := a) c.1
    have e5 := (h.2.2.1.2.2.1 c.1).2
    refine f104b (d := d + 3) (by omega) hN e5 q1 q2 (fun i him e => k_102b_36 (fun z => ?_) (fun z => ?_) (fun _ => f72 (d := d + 2) (w := 3) h (k_102b_48 (Or.inl rfl) (w0 3 (Or.inr ⟨c, ⟨i, him, e⟩, rfl⟩))))) (fun hno => k_102b_36 (fun _ => vp_in_nI (by omega) (by decide)) (fun _ => ?_) (fun z => absurd rfl z))
    · have z2 : nI i < 0 := by rw [z]; decide
      exact absurd z2 (nI_pos (by omega))
    · have z2 : nI i < 0 := by rw [z]; decide
      exact absurd z2 (nI_pos (by omega))
    · rw [nI_clamp (by omega), e5]
      have h' : RS n f a hi (u2 hl 16 m (lN (w5 (tl (tk (byt n f) a))))) := by
        obtain ⟨r1, r2, r3, r4⟩ := h
        refine ⟨r1, fun j hj => by rw [u2_row_ne (by decide)]; exact r2 j hj, ?_, r4⟩
        obtain ⟨c1, c2, c3, c4, c5, c6, c7⟩ := r3
        exact ⟨c1, c2, fun z => ⟨(c3 z).1, by rw [u2_row_ne (by decide)]; exact (c3 z).2⟩, c4, c5, c6, c7⟩
      exact f67r (d := d) h' (by rw [c.1]; decide) (fun hi' hl' r1 r2 => k_102b_66 (w1 c hno hi' hl' r1 r2))
  · exact f72 (d := d + 2) (w := 2) h (k_102b_29 (Or.inl rfl) (w0 2 (Or.inl ⟨c, rfl⟩)))
/-- indexOfName over cell 17 -/
theorem f104c {m : Nat} {N : Nat → List Nat} {l : List Nat} (hm : m ≤ 4) (hN : ∀ i, i < m → hl 17 i = lN (w5 (N i)) ∧ ltr (N i) ∧ w5 (N i) < 2 ^ 62) (e5 : hl 3 5 = lN (w5 l)) (hl1 : ltr l) (hl2 : w5 l < 2 ^ 62) (w1 : ∀ i, i < m → N i = l → Q (some (.int (nI i))) (mkH hi hl sw kp)) (w0 : (∀ i, i < m → N i ≠ l) → Q (some (.int (-1))) (mkH hi hl sw kp)) : cS (d + 1) 104 [.ref 14, .ref 17, .int (nI m)] (mkH hi hl sw kp) Q := by
  refine e_104c (lpu (σ := Unit) m (fun i _ => cW cd_104 d Q 2 [some (.ref 14), some (.ref 17), some (.int (nI m)), some (.int (nI i))] [] (mkH hi hl sw kp)) (fun i _ => ∀ j, j < i → N j ≠ l) ?_ ?_ m 0 () (Nat.zero_add m) (fun j hj => absurd hj (Nat.not_lt_zero j)))
  · intro _ h
    exact k_104c_2 (fun _ => w0 h) (fun c => absurd (Int32.le_refl _) c) (fun c => absurd (Int32.le_refl _) c) (fun c => absurd (Int32.le_refl _) c) (fun c => absurd (Int32.le_refl _) c)
  · intro i _ him h ih
    have hg : ¬ nI m ≤ nI i := nI_ge him (by omega)
    have h8 : ¬ (Int32.ofNat 4) ≤ nI i := nI_ge (a := i) (b := 4) (by omega) (by decide)
    obtain ⟨n1, n2, n3⟩ := hN i him
    have ec : (nI i).toNatClampNeg = i := nI_clamp (by omega)
    refine k_104c_2 (fun c => absurd c hg) (fun _ c => absurd c h8) (fun _ _ => vp_in_nI (by omega) (by decide)) (fun _ _ c => ?_) (fun _ _ c => ?_)
    · rw [ec, n1, e5, lg_eq (by omega) (by omega)] at c
      exact w1 i him (w5_in _ _ n2 hl1 c)
    · rw [ec, n1, e5, lg_eq (by omega) (by omega)] at c
      rw [nI_1]
      refine ih () (fun j hj => ?_)
      by_cases hji : j = i
      · subst hji
        exact fun z => c (by rw [z])
      · exact h j (by omega)
/-- knownName over cell 17 -/
theorem f103c {m : Nat} {N : Nat → List Nat} (hm : m ≤ 4) (h : RS n f a hi hl) (hN : ∀ i, i < m → hl 17 i = lN (w5 (N i)) ∧ ltr (N i) ∧ w5 (N i) < 2 ^ 62) (w1 : isNm (tk (byt n f) a) → ∀ i, i < m → N i = tl (tk (byt n f) a) → Q (some (.int (nI i))) (mkH hi hl sw kp)) (w0 : ∀ w, (¬ isNm (tk (byt n f) a) ∧ w = 2) ∨ (isNm (tk (byt n f) a) ∧ (∀ i, i < m → N i ≠ tl (tk (byt n f) a)) ∧ w = 5) → Q (some (.int (-1))) (mkH (u2 (u2 hi 3 7 (nI (ftw (tk (byt n f) a) w))) 3 8 (nI (tp (tk (byt n f) a)))) hl sw kp)) : cS (d + 4) 103 [.ref 14, .ref 17, .int (nI m)] (mkH hi hl sw kp) Q := by
  refine e_103c ?_ ?_ <;> rw [h.nm] <;> intro c
  · obtain ⟨q1, q2⟩ := tk_w (b := byt n f) (a := a) c.1
    refine f104c (d := d + 2) hm hN (h.2.2.1.2.2.1 c.1).2 q1 q2 (fun i him e => k_103c_28 (fun z => ?_) (fun _ => w1 c i him e)) (fun hno => k_103c_28 (fun _ => f72 (d := d + 1) (w := 5) h (k_103c_42 (w0 5 (Or.inr ⟨c, hno, rfl⟩)))) (fun z => absurd rfl z))
    have z2 : nI i < 0 := by rw [z]; decide
    exact absurd z2 (nI_pos (by omega))
  · exact f72 (d := d + 1) (w := 2) h (k_103c_19 (w0 2 (Or.inl ⟨c, rfl⟩)))
/-- newName over cell 17 -/
theorem f102c {m : Nat} {N : Nat → List Nat} (hm : m < 4) (h : RS n f a hi hl) (hN : ∀ i, i < m → hl 17 i = lN (w5 (N i)) ∧ ltr (N i) ∧ w5 (N i) < 2 ^ 62) (w1 : isNm (tk (byt n f) a) → (∀ i, i < m → N i ≠ tl (tk (byt n f) a)) → ∀ (hi' : Nat → Nat → Int32) (hl' : Nat → Nat → Int64), RS n f (te (tk (byt n f) a)) hi' hl' → FT hi' hi hl' (u2 hl 17 m (lN (w5 (tl (tk (byt n f) a))))) → Q (some (.int 1)) (mkH hi' hl' sw kp)) (w0 : ∀ w, (¬ isNm (tk (byt n f) a) ∧ w = 2) ∨ (isNm (tk (byt n f) a) ∧ (∃ i, i < m ∧ N i = tl (tk (byt n f) a)) ∧ w = 3) → Q (some (.int 0)) (mkH (u2 (u2 hi 3 7 (nI (ftw (tk (byt n f) a) w))) 3 8 (nI (tp (tk (byt n f) a)))) hl sw kp)) : cS (d + 5) 102 [.ref 14, .ref 17, .int (nI m)] (mkH hi hl sw kp) Q := by
  have h0 : ¬ nI m < (0 : Int32) := nI_pos (by omega)
  have hK : nI m < (Int32.ofNat 4) := nI_lt (b := 4) hm (by decide)
  refine e_102c (fun _ c => absurd c h0) ?_ (fun _ _ c => absurd hK c) ?_ <;> rw [h.nm] <;> intro c
  · intro _ _
    obtain ⟨q1, q2⟩ := tk_w (b := byt n f) (a := a) c.1
    have e5 := (h.2.2.1.2.2.1 c.1).2
    refine f104c (d := d + 3) (by omega) hN e5 q1 q2 (fun i him e => k_102c_36 (fun z => ?_) (fun z => ?_) (fun _ => f72 (d := d + 2) (w := 3) h (k_102c_48 (Or.inl rfl) (w0 3 (Or.inr ⟨c, ⟨i, him, e⟩, rfl⟩))))) (fun hno => k_102c_36 (fun _ => vp_in_nI (by omega) (by decide)) (fun _ => ?_) (fun z => absurd rfl z))
    · have z2 : nI i < 0 := by rw [z]; decide
      exact absurd z2 (nI_pos (by omega))
    · have z2 : nI i < 0 := by rw [z]; decide
      exact absurd z2 (nI_pos (by omega))
    · rw [nI_clamp (by omega), e5]
      have h' : RS n f a hi (u2 hl 17 m (lN (w5 (tl (tk (byt n f) a))))) := by
        obtain ⟨r1, r2, r3, r4⟩ := h
        refine ⟨r1, fun j hj => by rw [u2_row_ne (by decide)]; exact r2 j hj, ?_, r4⟩
        obtain ⟨c1, c2, c3, c4, c5, c6, c7⟩ := r3
        exact ⟨c1, c2, fun z => ⟨(c3 z).1, by rw [u2_row_ne (by decide)]; exact (c3 z).2⟩, c4, c5, c6, c7⟩
      exact f67r (d := d) h' (by rw [c.1]; decide) (fun hi' hl' r1 r2 => k_102c_66 (w1 c hno hi' hl' r1 r2))
  · exact f72 (d := d + 2) (w := 2) h (k_102c_29 (Or.inl rfl) (w0 2 (Or.inl ⟨c, rfl⟩)))
end NAMES
