/-! ===== the reference's reader, over tokens ===== -/
section RDM
variable {d : Nat} {Q : am_Q} {hi : Nat → Nat → Int32} {hl : Nat → Nat → Int64} {sw : Bool} {kp : Nat → Nat} {n a : Nat}
theorem OW_8 : ∀ i, i < 21 → w8 (OW i) < 2 ^ 62 := by decide +kernel
theorem own_1 : ∀ i, i < 21 → ¬ g_173 (fun _ _ => lN (w8 (OW i))) = 0 := by decide +kernel
theorem g173 {l : List Nat} (e : hl 279 9 = lN (w8 l)) (h1 : ltr l) (h2 : w8 l < 2 ^ 63) : g_173 hl = 0 ↔ ∀ i, i < 21 → OW i ≠ l := by
  constructor
  · intro q i hi z
    refine own_1 i hi ?_
    rw [z]
    have : g_173 (fun _ _ => lN (w8 l)) = g_173 hl := by
      unfold g_173
      rw [e]
    rw [this]
    exact q
  · intro q
    have hc : ∀ i, i < 21 → ¬ lg_cmp (lN (w8 l)) (lN (w8 (OW i))) = 0 := fun i hi z => by
      have hb := OW_8 i hi
      rw [lg_eq h2 (by omega)] at z
      exact q i hi (w8_in _ _ (OW_r hi) h1 z.symm)
    unfold g_173
    rw [e, if_neg (show ¬ lg_cmp (lN (w8 l)) (1684366692 : Int64) = 0 from hc 0 (by decide)), if_neg (show ¬ lg_cmp (lN (w8 l)) (482854658917 : Int64) = 0 from hc 1 (by decide)), if_neg (show ¬ lg_cmp (lN (w8 l)) (495756602476 : Int64) = 0 from hc 11 (by decide)), if_neg (show ¬ lg_cmp (lN (w8 l)) (1685022067 : Int64) = 0 from hc 12 (by decide)), if_neg (show ¬ lg_cmp (lN (w8 l)) (1885434984 : Int64) = 0 from hc 2 (by decide)), if_neg (show ¬ lg_cmp (lN (w8 l)) (29807 : Int64) = 0 from hc 13 (by decide)), if_neg (show ¬ lg_cmp (lN (w8 l)) (1667330917 : Int64) = 0 from hc 3 (by decide)), if_neg (show ¬ lg_cmp (lN (w8 l)) (6447474 : Int64) = 0 from hc 14 (by decide)), if_neg (show ¬ lg_cmp (lN (w8 l)) (2003330414 : Int64) = 0 from hc 4 (by decide)), if_neg (show ¬ lg_cmp (lN (w8 l)) (1886743660 : Int64) = 0 from hc 5 (by decide)), if_neg (show ¬ lg_cmp (lN (w8 l)) (6578553 : Int64) = 0 from hc 6 (by decide)), if_neg (show ¬ lg_cmp (lN (w8 l)) (448377483891 : Int64) = 0 from hc 7 (by decide)), if_neg (show ¬ lg_cmp (lN (w8 l)) (495873782388 : Int64) = 0 from hc 8 (by decide)), if_neg (show ¬ lg_cmp (lN (w8 l)) (6383461 : Int64) = 0 from hc 9 (by decide)), if_neg (show ¬ lg_cmp (lN (w8 l)) (1685217655 : Int64) = 0 from hc 10 (by decide)), if_neg (show ¬ lg_cmp (lN (w8 l)) (422776300915 : Int64) = 0 from hc 18 (by decide)), if_neg (show ¬ lg_cmp (lN (w8 l)) (1752135026 : Int64) = 0 from hc 19 (by decide)), if_neg (show ¬ lg_cmp (lN (w8 l)) (1751478885 : Int64) = 0 from hc 20 (by decide)), if_neg (show ¬ lg_cmp (lN (w8 l)) (6385252 : Int64) = 0 from hc 16 (by decide)), if_neg (show ¬ lg_cmp (lN (w8 l)) (28530 : Int64) = 0 from hc 15 (by decide)), if_neg (show ¬ lg_cmp (lN (w8 l)) (7237492 : Int64) = 0 from hc 17 (by decide))]
theorem tk_8 {b : Nat → Int32} {a : Nat} (h : ts (tk b a) = 1) : w8 (tl (tk b a)) < 2 ^ 63 := by
  unfold tk at h ⊢
  obtain ⟨p, hp⟩ : ∃ p, p = rnd g_74 b 1601 a := ⟨_, rfl⟩
  rw [← hp] at h ⊢
  unfold tkp at h ⊢
  by_cases c0 : b p = -1
  · rw [if_pos c0] at h
    exact absurd (show 0 = 1 from h) (by decide)
  · rw [if_neg c0] at h ⊢
    by_cases c1 : g_75 (b p) = 0
    · rw [if_pos c1] at h
      by_cases c2 : g_76 (b p) = 0
      · rw [if_pos c2] at h
        by_cases c3 : g_77 (b p) = 0
        · rw [if_pos c3] at h
          exact absurd (show 3 = 1 from h) (by decide)
        · rw [if_neg c3] at h
          obtain ⟨s, s1, s2, s3⟩ := sgn_v c3
          have h2 : (b p).toNatClampNeg = 1 := h
          rw [s3, nI_clamp (by omega)] at h2
          omega
      · rw [if_neg c2] at h
        by_cases c3 : 4 < rnd g_76 b 1601 p - p ∨ ¬ g_75 (b (rnd g_76 b 1601 p)) = 0
        · rw [if_pos c3] at h
          exact absurd (show 3 = 1 from h) (by decide)
        · rw [if_neg c3] at h
          exact absurd (show 2 = 1 from h) (by decide)
    · rw [if_neg c1] at h ⊢
      by_cases c3 : 8 < rnd g_75 b 1601 p - p
      · rw [if_pos c3] at h
        exact absurd (show 3 = 1 from h) (by decide)
      · rw [if_neg c3]
        obtain ⟨l1, l2⟩ := lts_ok (b := b) (p := p) (rnd g_75 b 1601 p - p) (fun j a1 a2 => rnd_all 1601 p j a1 (by omega))
        rcases w8_lt _ l1 with q | q
        · rw [l2] at q
          have h8 : 256 ^ (rnd g_75 b 1601 p - p - 1) ≤ 256 ^ 7 := Nat.pow_le_pow_right (by decide) (by omega)
          show w8 (lts b p (rnd g_75 b 1601 p - p)) < 2 ^ 63
          omega
        · show w8 (lts b p (rnd g_75 b 1601 p - p)) < 2 ^ 63
          rw [q]
          decide
/-- the reference stands at the token from a on, no FAULT yet -/
def MS (n : Nat) (f : Nat → Int32) (a : Nat) (hi : Nat → Nat → Int32) (hl : Nat → Nat → Int64) : Prop := n ≤ 1600 ∧ hi 280 = f ∧ (∀ j, j < n → ¬ f j < 0) ∧ hi 279 5 = nI n ∧ hi 279 2 = 0 ∧ RTk hi hl (tk (byt n f) a) ∧ (ts (tk (byt n f) a) ≠ 3 → te (tk (byt n f) a) ≤ n)
variable {f : Nat → Int32}
theorem MS.so (h : MS n f a hi hl) {k : Nat} (hk : k < 200) : hi 279 6 = nI k ↔ ts (tk (byt n f) a) = k := by
  have e := h.2.2.2.2.2.1.2.1
  rw [e]
  rcases tk_s (byt n f) a with q | q
  · exact nI_eq (by omega) (by omega)
  · exact nI_eq (by omega) (by omega)
theorem MS.wd (h : MS n f a hi hl) {i : Nat} (hi21 : i < 21) : ¬ g_172 hi hl (lN (w8 (OW i))) = 0 ↔ (ts (tk (byt n f) a) = 1 ∧ tl (tk (byt n f) a) = OW i) := by
  have h6 := h.so (k := 1) (by decide)
  have hb := OW_8 i hi21
  unfold g_172
  by_cases c : ts (tk (byt n f) a) = 1
  · rw [if_pos (show hi 279 6 = 1 from h6.mpr c), h.2.2.2.2.2.1.2.2.1 c]
    have h8 := tk_8 c
    by_cases c2 : w8 (tl (tk (byt n f) a)) = w8 (OW i)
    · rw [if_pos ((lg_eq h8 (by omega)).mpr c2)]
      exact ⟨fun _ => ⟨c, w8_in _ _ (tk_w c).1 (OW_r hi21) c2⟩, fun _ => by decide⟩
    · rw [if_neg (fun z => c2 ((lg_eq h8 (by omega)).mp z))]
      exact ⟨fun z => absurd rfl z, fun z => absurd (by rw [z.2]) c2⟩
  · rw [if_neg (show ¬ hi 279 6 = 1 from fun z => c (h6.mp z))]
    exact ⟨fun z => absurd rfl z, fun z => absurd z.1 c⟩
theorem MS.nm (h : MS n f a hi hl) : ¬ g_174 hi hl = 0 ↔ isNm (tk (byt n f) a) := by
  have h6 := h.so (k := 1) (by decide)
  unfold g_174 isNm
  by_cases c : ts (tk (byt n f) a) = 1
  · rw [if_pos (show hi 279 6 = 1 from h6.mpr c)]
    have g := g173 (hl := hl) (h.2.2.2.2.2.1.2.2.1 c) (tk_w c).1 (tk_8 c)
    by_cases c2 : g_173 hl = 0
    · rw [if_pos c2]
      exact ⟨fun _ => ⟨c, g.mp c2⟩, fun _ => by decide⟩
    · rw [if_neg c2]
      exact ⟨fun z => absurd rfl z, fun z => absurd (g.mpr z.2) c2⟩
  · rw [if_neg (show ¬ hi 279 6 = 1 from fun z => c (h6.mp z))]
    exact ⟨fun z => absurd rfl z, fun z => absurd z.1 c⟩
/-- on to the next token -/
theorem f170r (h : MS n f a hi hl) (hs : ts (tk (byt n f) a) ≠ 3) (w' : ∀ (hi' : Nat → Nat → Int32) (hl' : Nat → Nat → Int64), MS n f (te (tk (byt n f) a)) hi' hl' → FR hi' hi hl' hl → Q none (mkH hi' hl' sw kp)) : cS (d + 2) 170 [.ref 279] (mkH hi hl sw kp) Q := by
  obtain ⟨h1, h2, h3, h4, h5, h6, h7⟩ := id h
  subst h2
  refine f170t (d := d) h3 h1 h4 (h6.2.2.2.2 hs) (h7 hs) (fun hi' hl' q1 q2 q3 => w' hi' hl' ⟨h1, ?_, h3, ?_, ?_, q1, q2⟩ q3)
  · funext j
    exact q3.1 280 j (by omega)
  · rw [q3.1 279 5 (by omega)]; exact h4
  · rw [q3.1 279 2 (by omega)]; exact h5
/-- a FAULT at this token -/
theorem f171 {w : Nat} (h : MS n f a hi hl) (w' : Q none (mkH (u2 (u2 hi 279 2 (nI (ftw (tk (byt n f) a) w))) 279 3 (nI (tp (tk (byt n f) a)))) hl sw kp)) : cS (d + 1) 171 [.ref 279, .int (nI w)] (mkH hi hl sw kp) Q := by
  have e2 : hi 279 2 = 0 := h.2.2.2.2.1
  have e7 : hi 279 7 = nI (tp (tk (byt n f) a)) := h.2.2.2.2.2.1.1
  have h6 := h.so (k := 3) (by decide)
  have hle : hi 279 2 ≤ 0 := by rw [e2]; decide
  unfold ftw at w'
  refine e_171 ?_ ?_ (fun c => absurd hle c) <;> rw [e7] <;> intro _ c
  · rw [if_pos (h6.mp c)] at w'
    exact w'
  · rw [if_neg (fun z => c (h6.mpr z))] at w'
    exact w'
/-- this word, or a FAULT -/
theorem f175 {i : Nat} (hi21 : i < 21) (h : MS n f a hi hl) (w1 : ts (tk (byt n f) a) = 1 → tl (tk (byt n f) a) = OW i → ∀ (hi' : Nat → Nat → Int32) (hl' : Nat → Nat → Int64), MS n f (te (tk (byt n f) a)) hi' hl' → FR hi' hi hl' hl → Q none (mkH hi' hl' sw kp)) (w0 : ¬ (ts (tk (byt n f) a) = 1 ∧ tl (tk (byt n f) a) = OW i) → Q none (mkH (u2 (u2 hi 279 2 (nI (ftw (tk (byt n f) a) 2))) 279 3 (nI (tp (tk (byt n f) a)))) hl sw kp)) : cS (d + 3) 175 [.ref 279, .long (lN (w8 (OW i)))] (mkH hi hl sw kp) Q := by
  have hle : hi 279 2 ≤ 0 := by rw [h.2.2.2.2.1]; decide
  have hw := h.wd hi21
  refine e_175 (fun _ c => f171 (d := d + 1) (w := 2) h (k_175_21 (k_175_28 (w0 (fun z => hw.mpr z c))))) (fun _ c => ?_) (fun c => absurd hle c)
  have q := hw.mp c
  exact f170r (d := d) h (by rw [q.1]; decide) (fun hi' hl' r1 r2 => k_175_28 (w1 q.1 q.2 hi' hl' r1 r2))
end RDM
