/-! ===== the class's reader, over tokens ===== -/
section RDR
variable {d : Nat} {Q : am_Q} {hi : Nat → Nat → Int32} {hl : Nat → Nat → Int64} {sw : Bool} {kp : Nat → Nat} {n a : Nat} {f : Nat → Int32}
theorem tk_s (b : Nat → Int32) (a : Nat) : ts (tk b a) ≤ 3 ∨ (32 < ts (tk b a) ∧ ts (tk b a) < 64) := by
  unfold tk
  obtain ⟨p, hp⟩ : ∃ p, p = rnd g_74 b 1601 a := ⟨_, rfl⟩
  rw [← hp]
  unfold tkp
  by_cases c0 : b p = -1
  · rw [if_pos c0]; exact Or.inl (show 0 ≤ 3 from by decide)
  · rw [if_neg c0]
    by_cases c1 : g_75 (b p) = 0
    · rw [if_pos c1]
      by_cases c2 : g_76 (b p) = 0
      · rw [if_pos c2]
        by_cases c3 : g_77 (b p) = 0
        · rw [if_pos c3]; exact Or.inl (show 3 ≤ 3 from by decide)
        · rw [if_neg c3]
          obtain ⟨s, s1, s2, s3⟩ := sgn_v c3
          right
          show 32 < (b p).toNatClampNeg ∧ (b p).toNatClampNeg < 64
          rw [s3, nI_clamp (by omega)]
          exact ⟨s1, s2⟩
      · rw [if_neg c2]
        by_cases c3 : 4 < rnd g_76 b 1601 p - p ∨ ¬ g_75 (b (rnd g_76 b 1601 p)) = 0
        · rw [if_pos c3]; exact Or.inl (show 3 ≤ 3 from by decide)
        · rw [if_neg c3]; exact Or.inl (show 2 ≤ 3 from by decide)
    · rw [if_neg c1]
      by_cases c3 : 8 < rnd g_75 b 1601 p - p
      · rw [if_pos c3]; exact Or.inl (show 3 ≤ 3 from by decide)
      · rw [if_neg c3]; exact Or.inl (show 1 ≤ 3 from by decide)
/-- the reader stands at the token that begins at a or behind blanks -/
def RS (n : Nat) (f : Nat → Int32) (a : Nat) (hi : Nat → Nat → Int32) (hl : Nat → Nat → Int64) : Prop := TP n f hi ∧ (∀ j, j < 21 → hl 4 j = rd_W j) ∧ CTk hi hl (tk (byt n f) a) ∧ (ts (tk (byt n f) a) ≠ 3 → te (tk (byt n f) a) ≤ n)
/-- the kind that the class keeps, by the token's sort -/
theorem RS.kd (h : RS n f a hi hl) : (ts (tk (byt n f) a) = 0 ∧ hi 3 2 = nI 0) ∨ (ts (tk (byt n f) a) = 1 ∧ KW (tl (tk (byt n f) a)) (hi 3 2)) ∨ (ts (tk (byt n f) a) = 2 ∧ hi 3 2 = nI 3) ∨ (ts (tk (byt n f) a) = 3 ∧ hi 3 2 = nI 1) ∨ (32 < ts (tk (byt n f) a) ∧ ts (tk (byt n f) a) < 64 ∧ hi 3 2 = nI (ts (tk (byt n f) a))) := by
  obtain ⟨c1, c2, c3, c4, c5, c6, c7⟩ := h.2.2.1
  rcases tk_s (byt n f) a with q | q
  · rcases (show ts (tk (byt n f) a) = 0 ∨ ts (tk (byt n f) a) = 1 ∨ ts (tk (byt n f) a) = 2 ∨ ts (tk (byt n f) a) = 3 by omega) with z | z | z | z
    · exact Or.inl ⟨z, c2 z⟩
    · exact Or.inr (Or.inl ⟨z, (c3 z).1⟩)
    · exact Or.inr (Or.inr (Or.inl ⟨z, (c4 z).1⟩))
    · exact Or.inr (Or.inr (Or.inr (Or.inl ⟨z, c5 z⟩)))
  · exact Or.inr (Or.inr (Or.inr (Or.inr ⟨q.1, q.2, c6 (by omega)⟩)))
/-- a kind below 200, not 2: no word -/
theorem RS.lo (h : RS n f a hi hl) {k : Nat} (hk : k < 200) (h2 : k ≠ 2) : hi 3 2 = nI k ↔ ((ts (tk (byt n f) a) = 0 ∧ k = 0) ∨ (ts (tk (byt n f) a) = 2 ∧ k = 3) ∨ (ts (tk (byt n f) a) = 3 ∧ k = 1) ∨ (32 < ts (tk (byt n f) a) ∧ ts (tk (byt n f) a) = k)) := by
  rcases h.kd with ⟨z, e⟩ | ⟨z, e⟩ | ⟨z, e⟩ | ⟨z, e⟩ | ⟨z1, z2, e⟩
  · rw [e, nI_eq (by omega) (by omega)]; omega
  · rcases e with ⟨i, i1, i2, e⟩ | ⟨i1, e⟩
    · rw [e, nI_eq (by omega) (by omega)]; omega
    · rw [e, show (2 : Int32) = nI 2 from rfl, nI_eq (by omega) (by omega)]; omega
  · rw [e, nI_eq (by omega) (by omega)]; omega
  · rw [e, nI_eq (by omega) (by omega)]; omega
  · rw [e, nI_eq (by omega) (by omega)]; omega
theorem RS.bad (h : RS n f a hi hl) : hi 3 2 = 1 ↔ ts (tk (byt n f) a) = 3 := by
  have := h.lo (k := 1) (by decide) (by decide)
  rw [show (1 : Int32) = nI 1 from rfl, this]
  omega
theorem RS.num (h : RS n f a hi hl) : hi 3 2 = 3 ↔ ts (tk (byt n f) a) = 2 := by
  have := h.lo (k := 3) (by decide) (by decide)
  rw [show (3 : Int32) = nI 3 from rfl, this]
  omega
theorem RS.fin (h : RS n f a hi hl) : hi 3 2 = 0 ↔ ts (tk (byt n f) a) = 0 := by
  have := h.lo (k := 0) (by decide) (by decide)
  rw [show (0 : Int32) = nI 0 from rfl, this]
  omega
theorem RS.sg (h : RS n f a hi hl) {k : Nat} (h1 : 32 < k) (h2 : k < 200) : hi 3 2 = nI k ↔ ts (tk (byt n f) a) = k := by
  have := h.lo (k := k) h2 (by omega)
  rw [this]
  omega
theorem RS.wd (h : RS n f a hi hl) {i : Nat} (hi21 : i < 21) : hi 3 2 = nI (200 + i) ↔ (ts (tk (byt n f) a) = 1 ∧ tl (tk (byt n f) a) = OW i) := by
  rcases h.kd with ⟨z, e⟩ | ⟨z, e⟩ | ⟨z, e⟩ | ⟨z, e⟩ | ⟨z1, z2, e⟩
  · rw [e, nI_eq (by omega) (by omega)]; constructor <;> intro q <;> omega
  · rcases e with ⟨j, i1, i2, e⟩ | ⟨i1, e⟩
    · rw [e, nI_eq (by omega) (by omega)]
      constructor
      · intro q
        rw [show i = j by omega]
        exact ⟨z, i2.symm⟩
      · intro q
        have := OW_in i hi21 j i1 (q.2.symm.trans i2.symm)
        omega
    · rw [e, show (2 : Int32) = nI 2 from rfl, nI_eq (by omega) (by omega)]
      constructor
      · intro q; omega
      · intro q; exact absurd q.2.symm (i1 i hi21)
  · rw [e, nI_eq (by omega) (by omega)]; constructor <;> intro q <;> omega
  · rw [e, nI_eq (by omega) (by omega)]; constructor <;> intro q <;> omega
  · rw [e, nI_eq (by omega) (by omega)]; constructor <;> intro q <;> omega
/-- a word that is none of the language's -/
def isNm (t : Tk) : Prop := ts t = 1 ∧ ∀ i, i < 21 → OW i ≠ tl t
theorem RS.nm (h : RS n f a hi hl) : hi 3 2 = 2 ↔ isNm (tk (byt n f) a) := by
  unfold isNm
  rcases h.kd with ⟨z, e⟩ | ⟨z, e⟩ | ⟨z, e⟩ | ⟨z, e⟩ | ⟨z1, z2, e⟩
  · rw [e, show (2 : Int32) = nI 2 from rfl, nI_eq (by omega) (by omega)]; constructor <;> intro q <;> omega
  · rcases e with ⟨j, i1, i2, e⟩ | ⟨i1, e⟩
    · rw [e, show (2 : Int32) = nI 2 from rfl, nI_eq (by omega) (by omega)]
      constructor
      · intro q; omega
      · intro q; exact absurd i2 (q.2 j i1)
    · rw [e]
      exact ⟨fun _ => ⟨z, i1⟩, fun _ => rfl⟩
  · rw [e, show (2 : Int32) = nI 2 from rfl, nI_eq (by omega) (by omega)]; constructor <;> intro q <;> omega
  · rw [e, show (2 : Int32) = nI 2 from rfl, nI_eq (by omega) (by omega)]; constructor <;> intro q <;> omega
  · rw [e, show (2 : Int32) = nI 2 from rfl, nI_eq (by omega) (by omega)]; constructor <;> intro q <;> omega
/-- on to the next token -/
theorem f67r (h : RS n f a hi hl) (hs : ts (tk (byt n f) a) ≠ 3) (w' : ∀ (hi' : Nat → Nat → Int32) (hl' : Nat → Nat → Int64), RS n f (te (tk (byt n f) a)) hi' hl' → FT hi' hi hl' hl → Q none (mkH hi' hl' sw kp)) : cS (d + 4) 67 [.ref 3] (mkH hi hl sw kp) Q := by
  obtain ⟨h1, h2, h3, h4⟩ := id h
  refine f67t (d := d) h1 h2 (h4 hs) (h3.2.2.2.2.2.2 hs) (fun hi' hl' q1 q2 q3 => w' hi' hl' ⟨q3.tp h1, fun j hj => ?_, q1, q2⟩ q3)
  rw [q3.2 4 (by decide)]
  exact h2 j hj
/-- a FAULT at this token -/
def ftw (t : Tk) (w : Nat) : Nat := if ts t = 3 then 1 else w
theorem f72 {w : Nat} (h : RS n f a hi hl) (w' : Q (some (.int 0)) (mkH (u2 (u2 hi 3 7 (nI (ftw (tk (byt n f) a) w))) 3 8 (nI (tp (tk (byt n f) a)))) hl sw kp)) : cS (d + 2) 72 [.ref 3, .int (nI w)] (mkH hi hl sw kp) Q := by
  have e3 : hi 3 3 = nI (tp (tk (byt n f) a)) := h.2.2.1.1
  unfold ftw at w'
  refine e_72 ?_ ?_ <;> rw [h.bad, e3] <;> intro c
  · rw [if_pos c] at w'
    exact e_73 (k_72_21 (Or.inl rfl) w')
  · rw [if_neg c] at w'
    exact e_73 (k_72_21 (Or.inl rfl) w')
/-- a token of this kind, or a FAULT -/
theorem f71 {k : Int32} (h : RS n f a hi hl) (hk : k ≠ 1) (w1 : hi 3 2 = k → ∀ (hi' : Nat → Nat → Int32) (hl' : Nat → Nat → Int64), RS n f (te (tk (byt n f) a)) hi' hl' → FT hi' hi hl' hl → Q (some (.int 1)) (mkH hi' hl' sw kp)) (w0 : ¬ hi 3 2 = k → Q (some (.int 0)) (mkH (u2 (u2 hi 3 7 (nI (ftw (tk (byt n f) a) 2))) 3 8 (nI (tp (tk (byt n f) a)))) hl sw kp)) : cS (d + 5) 71 [.ref 3, .int k] (mkH hi hl sw kp) Q := by
  refine e_71 (fun c => f67r (d := d) h (fun z => hk (by rw [← c]; exact h.bad.mpr z)) (fun hi' hl' q1 q2 => k_71_18 (w1 c hi' hl' q1 q2))) (fun c => f72 (d := d + 2) (w := 2) h (k_71_13 (Or.inl rfl) (w0 c)))
/-- the number that stands here -/
theorem f101 {lo up : Nat} (hlo : lo < 2 ^ 20) (hup : up < 2 ^ 20) (h : RS n f a hi hl) (w1 : ts (tk (byt n f) a) = 2 → lo ≤ tv (tk (byt n f) a) → tv (tk (byt n f) a) ≤ up → ∀ (hi' : Nat → Nat → Int32) (hl' : Nat → Nat → Int64), RS n f (te (tk (byt n f) a)) hi' hl' → FT hi' hi hl' hl → Q (some (.int (nI (tv (tk (byt n f) a))))) (mkH hi' hl' sw kp)) (w0 : ∀ w, (ts (tk (byt n f) a) = 2 ∧ ¬ (lo ≤ tv (tk (byt n f) a) ∧ tv (tk (byt n f) a) ≤ up) ∧ w = 4) ∨ (¬ ts (tk (byt n f) a) = 2 ∧ w = 2) → Q (some (.int (-1))) (mkH (u2 (u2 hi 3 7 (nI (ftw (tk (byt n f) a) w))) 3 8 (nI (tp (tk (byt n f) a)))) hl sw kp)) (hv : tv (tk (byt n f) a) < 2 ^ 20) : cS (d + 6) 101 [.ref 14, .int (nI lo), .int (nI up)] (mkH hi hl sw kp) Q := by
  have e4 : ts (tk (byt n f) a) = 2 → hi 3 4 = nI (tv (tk (byt n f) a)) := fun z => (h.2.2.1.2.2.2.1 z).2
  have gw : g_158 (nI (tv (tk (byt n f) a))) (nI lo) (nI up) = 0 ↔ ¬ (lo ≤ tv (tk (byt n f) a) ∧ tv (tk (byt n f) a) ≤ up) := by
    unfold g_158
    by_cases c1 : tv (tk (byt n f) a) < lo
    · rw [if_pos (nI_lt c1 (by omega))]
      exact ⟨fun _ => by omega, fun _ => rfl⟩
    · rw [if_neg (nI_nlt (by omega) (by omega))]
      by_cases c2 : up < tv (tk (byt n f) a)
      · rw [if_pos (nI_lt c2 (by omega))]
        exact ⟨fun _ => by omega, fun _ => rfl⟩
      · rw [if_neg (nI_nlt (by omega) (by omega))]
        exact ⟨fun z => absurd z (by decide), fun z => absurd ⟨by omega, by omega⟩ z⟩
  refine e_101 ?_ ?_ ?_ <;> rw [h.num]
  · intro c
    rw [e4 c, gw]
    intro c2
    exact f72 (d := d + 3) (w := 4) h (k_101_47 (w0 4 (Or.inl ⟨c, c2, rfl⟩)))
  · intro c
    rw [e4 c, gw]
    intro c2
    have c3 : lo ≤ tv (tk (byt n f) a) ∧ tv (tk (byt n f) a) ≤ up := by
      rcases Nat.lt_or_ge (tv (tk (byt n f) a)) lo with z | z
      · exact absurd (fun q => by omega) c2
      · rcases Nat.lt_or_ge up (tv (tk (byt n f) a)) with y | y
        · exact absurd (fun q => by omega) c2
        · exact ⟨z, y⟩
    exact f67r (d := d + 1) h (by omega) (fun hi' hl' q1 q2 => k_101_57 (w1 c c3.1 c3.2 hi' hl' q1 q2))
  · intro c
    exact f72 (d := d + 3) (w := 2) h (k_101_19 (w0 2 (Or.inr ⟨c, rfl⟩)))
end RDR
