/-! ===== village: what a line comes to, and the whole text ===== -/
section VLN
variable {b : Nat → Int32} {D : Dr} {a : Nat}
theorem bnd_i {α β : Type} {x : Out α} {k : α → Nat → Out β} {q : β × Nat} (h : bnd x k = .inr q) : ∃ v y, x = .inr (v, y) ∧ k v y = .inr q := by
  cases x with
  | inl e => cases h
  | inr z => exact ⟨z.1, z.2, rfl, h⟩
theorem flt_i {α : Type} {w x : Nat} {q : α × Nat} (h : flt b w x = .inr q) : False := by cases h
theorem te_lt (h1 : ts (tk b a) ≠ 0) (h3 : ts (tk b a) ≠ 3) : a < te (tk b a) := tk_e h1 h3
theorem rdS_i {k x : Nat} {q : Unit × Nat} (hk : 32 < k) (h : rdS b k x = .inr q) : x < q.2 := by
  unfold rdS at h
  by_cases c : ts (tk b x) = k
  · rw [cI_1 c] at h
    cases h
    exact tk_e (by omega) (by omega)
  · rw [cI_0 c] at h
    cases h
theorem rdW_i {i x : Nat} {q : Unit × Nat} (h : rdW b i x = .inr q) : x < q.2 := by
  unfold rdW at h
  by_cases c : isW (tk b x) i
  · rw [cI_1 c] at h
    cases h
    exact tk_e (by rw [c.1]; decide) (by rw [c.1]; decide)
  · rw [cI_0 c] at h
    cases h
theorem rdN_i {lo up x : Nat} {q : Nat × Nat} (h : rdN b lo up x = .inr q) : x < q.2 ∧ lo ≤ q.1 ∧ q.1 ≤ up := by
  unfold rdN at h
  by_cases c : ts (tk b x) = 2
  · rw [cI_1 c] at h
    by_cases c2 : lo ≤ tv (tk b x) ∧ tv (tk b x) ≤ up
    · rw [cI_1 c2] at h
      cases h
      exact ⟨tk_e (by rw [c]; decide) (by rw [c]; decide), c2⟩
    · rw [cI_0 c2] at h
      cases h
  · rw [cI_0 c] at h
    cases h
theorem rdA_i {N : Nat → List Nat} {m x : Nat} {q : List Nat × Nat} (h : rdA b N m x = .inr q) : x < q.2 ∧ (ltr q.1 ∧ w5 q.1 < 2 ^ 62 ∧ w8 q.1 < 2 ^ 63) ∧ ∀ i, i < m → N i ≠ q.1 := by
  unfold rdA at h
  by_cases c : isNm (tk b x)
  · rw [cI_1 c] at h
    by_cases c2 : ∃ i, i < m ∧ N i = tl (tk b x)
    · rw [cI_1 c2] at h
      cases h
    · rw [cI_0 c2] at h
      cases h
      exact ⟨tk_e (by rw [c.1]; decide) (by rw [c.1]; decide), ⟨(tk_w c.1).1, (tk_w c.1).2, tk_8 c.1⟩, fun i hi e => c2 ⟨i, hi, e⟩⟩
  · rw [cI_0 c] at h
    cases h
theorem fnd_i {N : Nat → List Nat} {l : List Nat} {i : Nat} : ∀ m, fnd N l m = some i → i < m
  | 0, h => by cases h
  | m + 1, h => by
    have h1 : (if N m = l then some m else fnd N l m) = some i := h
    by_cases c : N m = l
    · rw [if_pos c] at h1
      cases h1
      omega
    · rw [if_neg c] at h1
      have := fnd_i m h1
      omega
theorem rdO_i {N : Nat → List Nat} {m x : Nat} {q : Nat × Nat} (h : rdO b N m x = .inr q) : x = q.2 ∧ q.1 < m ∧ x < te (tk b x) := by
  unfold rdO at h
  by_cases c : isNm (tk b x)
  · rw [cI_1 c] at h
    cases hf : fnd N (tl (tk b x)) m with
    | none =>
      rw [hf] at h
      cases h
    | some i =>
      rw [hf] at h
      cases h
      exact ⟨rfl, fnd_i m hf, tk_e (by rw [c.1]; decide) (by rw [c.1]; decide)⟩
  · rw [cI_0 c] at h
    cases h
theorem rdV_i {x : Nat} {q : Int32 × Nat} (h : rdV b x = .inr q) : x < q.2 ∧ -3 ≤ q.1.toInt ∧ q.1.toInt ≤ 3 := by
  have v3 : ∀ v, v ≤ 3 → (-3 ≤ (nI v).toInt ∧ (nI v).toInt ≤ 3) ∧ -3 ≤ (-(nI v)).toInt ∧ (-(nI v)).toInt ≤ 3 := by decide
  unfold rdV at h
  by_cases c : ts (tk b x) = 45
  · rw [cI_1 c] at h
    by_cases c2 : ts (tk b (te (tk b x))) = 2
    · rw [cI_1 c2] at h
      by_cases c3 : tv (tk b (te (tk b x))) ≤ 3
      · rw [cI_1 c3] at h
        cases h
        have h1 := tk_e (b := b) (a := x) (by omega) (by omega)
        have h2 := tk_e (b := b) (a := te (tk b x)) (by omega) (by omega)
        exact ⟨Nat.lt_trans h1 h2, (v3 _ c3).2⟩
      · rw [cI_0 c3] at h
        cases h
    · rw [cI_0 c2] at h
      cases h
  · rw [cI_0 c] at h
    by_cases c2 : ts (tk b x) = 2
    · rw [cI_1 c2] at h
      by_cases c3 : tv (tk b x) ≤ 3
      · rw [cI_1 c3] at h
        cases h
        exact ⟨tk_e (by omega) (by omega), (v3 _ c3).1⟩
      · rw [cI_0 c3] at h
        cases h
    · rw [cI_0 c2] at h
      cases h
/-- which lines -/
def lPull (b : Nat → Int32) (D : Dr) (a : Nat) (o : Out Dr) : Prop := ((dom D).testBit 5 = true ∧ o = flt b 2 a) ∨ ((dom D).testBit 5 = false ∧ ∃ po : PO, PM b (false, [], [], 0, te (tk b a)) po ∧ o = bnd po fun q x => bnd (rdS b 59 x) fun _ y => .inr (aPull D q.1 q.2, y))
def LN (b : Nat → Int32) (D : Dr) (a : Nat) (o : Out Dr) : Prop :=
  (isW (tk b a) 0 ∧ o = lDeed b D a) ∨ (isW (tk b a) 1 ∧ o = lPlace b D a) ∨ (isW (tk b a) 2 ∧ o = lPath b D a) ∨ (isW (tk b a) 3 ∧ o = lCase b D a) ∨ (isW (tk b a) 4 ∧ o = lWhen b D a) ∨ (isW (tk b a) 5 ∧ lPull b D a o) ∨ (isW (tk b a) 6 ∧ o = lNum b D 6 4 1 24 a) ∨ (isW (tk b a) 7 ∧ o = lNum b D 7 5 1 24 a) ∨ (isW (tk b a) 8 ∧ o = lStart b D a) ∨ (isW (tk b a) 9 ∧ o = lNum b D 9 7 0 99 a) ∨ (isW (tk b a) 10 ∧ o = lNum b D 10 8 0 999 a) ∨ ((∀ i, i ≤ 10 → ¬ isW (tk b a) i) ∧ o = flt b 2 a)
def TA (b : Nat → Int32) : Nat → Dr → Nat → Out Dr → Prop
  | 0, _, _, _ => False
  | k + 1, D, a, o => (ts (tk b a) = 0 ∧ o = .inr (D, a)) ∨ (ts (tk b a) ≠ 0 ∧ ∃ o1, LN b D a o1 ∧ ((∃ e, o1 = .inl e ∧ o = .inl e) ∨ ∃ q, o1 = .inr q ∧ TA b k q.1 q.2 o))
end VLN
