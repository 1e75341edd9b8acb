/-! ===== tokens, as a function ===== -/
section TOKX
variable {d : Nat} {Q : am_Q} {hi : Nat → Nat → Int32} {hl : Nat → Nat → Int64} {sw : Bool} {kp : Nat → Nat}
def rnd (P : Int32 → Int32) (b : Nat → Int32) : Nat → Nat → Nat
  | 0, a => a
  | k + 1, a => if P (b a) = 0 then a else rnd P b k (a + 1)
theorem rnd_u {P : Int32 → Int32} {b : Nat → Int32} : ∀ (k a e : Nat), RUN P b a e → e ≤ a + k → rnd P b k a = e
  | 0, a, e, h, hk => by
    have := h.1
    show a = e
    omega
  | k + 1, a, e, h, hk => by
    show (if P (b a) = 0 then a else rnd P b k (a + 1)) = e
    by_cases c : P (b a) = 0
    · rw [if_pos c]
      rcases Nat.lt_or_ge a e with z | z
      · exact absurd c (h.2.1 a (Nat.le_refl a) z)
      · have := h.1
        omega
    · rw [if_neg c]
      have hne : a ≠ e := fun z => c (by rw [z]; exact h.2.2)
      have := h.1
      exact rnd_u k (a + 1) e ⟨by omega, fun j a1 a2 => h.2.1 j (by omega) a2, h.2.2⟩ (by omega)
abbrev Tk : Type := Nat × Nat × List Nat × Nat × Nat
abbrev tp (t : Tk) : Nat := t.1
abbrev ts (t : Tk) : Nat := t.2.1
abbrev tl (t : Tk) : List Nat := t.2.2.1
abbrev tv (t : Tk) : Nat := t.2.2.2.1
abbrev te (t : Tk) : Nat := t.2.2.2.2
/-- the token behind the blanks, from p on -/
def tkp (b : Nat → Int32) (p : Nat) : Tk :=
  if b p = -1 then (p, 0, [], 0, p)
  else if g_75 (b p) = 0 then
    (if g_76 (b p) = 0 then (if g_77 (b p) = 0 then (p, 3, [], 0, 0) else (p, (b p).toNatClampNeg, [], 0, p + 1))
     else (if 4 < rnd g_76 b 1601 p - p ∨ ¬ g_75 (b (rnd g_76 b 1601 p)) = 0 then (p, 3, [], 0, 0) else (p, 2, [], dgs b p (rnd g_76 b 1601 p - p), rnd g_76 b 1601 p)))
  else (if 8 < rnd g_75 b 1601 p - p then (p, 3, [], 0, 0) else (p, 1, lts b p (rnd g_75 b 1601 p - p), 0, rnd g_75 b 1601 p))
/-- the token at a -/
def tk (b : Nat → Int32) (a : Nat) : Tk := tkp b (rnd g_74 b 1601 a)
theorem run_n {P : Int32 → Int32} {n a e : Nat} {f : Nat → Int32} (hP : P (-1) = 0) (h : RUN P (byt n f) a e) (ha : a ≤ n) : e ≤ n := by
  rcases Nat.lt_or_ge n e with z | z
  · exact absurd (by rw [byt_z (Nat.le_refl n)]; exact hP) (h.2.1 n ha z)
  · exact z
theorem TKN.fn {n a p s v e : Nat} {l : List Nat} {f : Nat → Int32} (hn : n ≤ 1600) (ha : a ≤ n) (h : TKN (byt n f) a p s l v e) : tp (tk (byt n f) a) = p ∧ ts (tk (byt n f) a) = s ∧ (s = 1 → tl (tk (byt n f) a) = l) ∧ (s = 2 → tv (tk (byt n f) a) = v) ∧ (s ≠ 3 → te (tk (byt n f) a) = e) := by
  obtain ⟨h1, h2⟩ := h
  have hp := run_n (by decide) h1 ha
  have e1 : rnd g_74 (byt n f) 1601 a = p := rnd_u 1601 a p h1 (by omega)
  unfold tk
  rw [e1]
  unfold tkp
  have m75 : g_75 (-1) = 0 := by decide
  have m76 : g_76 (-1) = 0 := by decide
  rcases h2 with ⟨rfl, hb, rfl⟩ | ⟨c1, q, hr, h3⟩ | ⟨c1, c2, q, hr, h3⟩ | ⟨c0, c1, c2, c3, rfl⟩ | ⟨c0, c1, c2, c3, c4, c5, c6, rfl⟩
  · rw [if_pos hb]
    exact ⟨rfl, rfl, fun z => absurd z (by decide), fun z => absurd z (by decide), fun _ => rfl⟩
  · have hq := run_n m75 hr hp
    have e2 : rnd g_75 (byt n f) 1601 p = q := rnd_u 1601 p q hr (by omega)
    rw [if_neg (fun z => c1 (by rw [z]; exact m75)), if_neg c1, e2]
    rcases h3 with ⟨h4, rfl⟩ | ⟨h4, rfl, rfl, rfl⟩
    · rw [if_pos h4]
      exact ⟨rfl, rfl, fun z => absurd z (by decide), fun z => absurd z (by decide), fun z => absurd rfl z⟩
    · rw [if_neg (by omega)]
      exact ⟨rfl, rfl, fun _ => rfl, fun z => absurd z (by decide), fun _ => rfl⟩
  · have hq := run_n m76 hr hp
    have e2 : rnd g_76 (byt n f) 1601 p = q := rnd_u 1601 p q hr (by omega)
    rw [if_neg (fun z => c2 (by rw [z]; exact m76)), if_pos c1, if_neg c2, e2]
    rcases h3 with ⟨h4, rfl⟩ | ⟨h4, h5, rfl, rfl, rfl⟩
    · rw [if_pos h4]
      exact ⟨rfl, rfl, fun z => absurd z (by decide), fun z => absurd z (by decide), fun z => absurd rfl z⟩
    · rw [if_neg (fun z => by
        rcases z with z | z
        · omega
        · exact z h5)]
      exact ⟨rfl, rfl, fun z => absurd z (by decide), fun _ => rfl, fun _ => rfl⟩
  · rw [if_neg c0, if_pos c1, if_pos c2, if_pos c3]
    exact ⟨rfl, rfl, fun z => absurd z (by decide), fun z => absurd z (by decide), fun z => absurd rfl z⟩
  · rw [if_neg c0, if_pos c1, if_pos c2, if_neg c3]
    have es : (byt n f p).toNatClampNeg = s := by rw [c4, nI_clamp (by omega)]
    refine ⟨rfl, es, fun z => by omega, fun z => by omega, fun _ => rfl⟩
/-- the class holds the token t -/
def CTk (hi : Nat → Nat → Int32) (hl : Nat → Nat → Int64) (t : Tk) : Prop := CT hi hl (tp t) (ts t) (tl t) (tv t) (te t)
def RTk (hi : Nat → Nat → Int32) (hl : Nat → Nat → Int64) (t : Tk) : Prop := RT hi hl (tp t) (ts t) (tl t) (tv t) (te t)
theorem f67t {n a : Nat} {f : Nat → Int32} (ht : TP n f hi) (h4 : ∀ j, j < 21 → hl 4 j = rd_W j) (ha : a ≤ n) (e6 : hi 3 6 = nI a) (w' : ∀ (hi' : Nat → Nat → Int32) (hl' : Nat → Nat → Int64), CTk hi' hl' (tk (byt n f) a) → (ts (tk (byt n f) a) ≠ 3 → te (tk (byt n f) a) ≤ n) → FT hi' hi hl' hl → Q none (mkH hi' hl' sw kp)) : cS (d + 4) 67 [.ref 3] (mkH hi hl sw kp) Q := by
  refine f67 (d := d) ht h4 ha e6 (fun hi' hl' p s l v e h1 h2 h3 h5 => w' hi' hl' ?_ ?_ h5)
  · obtain ⟨q1, q2, q3, q4, q5⟩ := h1.fn ht.1 ha
    obtain ⟨c1, c2, c3, c4, c5, c6, c7⟩ := h3
    unfold CTk CT
    rw [q1, q2]
    exact ⟨c1, c2, fun z => by rw [q3 z]; exact c3 z, fun z => by rw [q4 z]; exact c4 z, c5, c6, fun z => by rw [q5 z]; exact c7 z⟩
  · obtain ⟨q1, q2, q3, q4, q5⟩ := h1.fn ht.1 ha
    rw [q2]
    exact fun z => by rw [q5 z]; exact h2 z
theorem f170t {n a : Nat} (hbt : ∀ j, j < n → ¬ hi 280 j < 0) (hn : n ≤ 1600) (e5 : hi 279 5 = nI n) (e4 : hi 279 4 = nI a) (ha : a ≤ n) (w' : ∀ (hi' : Nat → Nat → Int32) (hl' : Nat → Nat → Int64), RTk hi' hl' (tk (byt n (hi 280)) a) → (ts (tk (byt n (hi 280)) a) ≠ 3 → te (tk (byt n (hi 280)) a) ≤ n) → FR hi' hi hl' hl → Q none (mkH hi' hl' sw kp)) : cS (d + 2) 170 [.ref 279] (mkH hi hl sw kp) Q := by
  refine f170 (d := d) hbt hn e5 e4 ha (fun hi' hl' p s l v e h1 h2 h3 h5 => w' hi' hl' ?_ ?_ h5)
  · obtain ⟨q1, q2, q3, q4, q5⟩ := h1.fn hn ha
    obtain ⟨c1, c2, c3, c4, c5⟩ := h3
    unfold RTk RT
    rw [q1, q2]
    exact ⟨c1, c2, fun z => by rw [q3 z]; exact c3 z, fun z => by rw [q4 z]; exact c4 z, fun z => by rw [q5 z]; exact c5 z⟩
  · obtain ⟨q1, q2, q3, q4, q5⟩ := h1.fn hn ha
    rw [q2]
    exact fun z => by rw [q5 z]; exact h2 z
end TOKX
