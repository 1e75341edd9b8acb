/-! ===== tokens ===== -/
section TOK
variable {d : Nat} {Q : am_Q} {hi : Nat → Nat → Int32} {hl : Nat → Nat → Int64} {sw : Bool} {kp : Nat → Nat}
/-- the bytes: none behind the n-th -/
def byt (n : Nat) (f : Nat → Int32) (j : Nat) : Int32 := if j < n then f j else -1
/-- from a on all are P, e is not -/
def RUN (P : Int32 → Int32) (b : Nat → Int32) (a e : Nat) : Prop := a ≤ e ∧ (∀ j, a ≤ j → j < e → ¬ P (b j) = 0) ∧ P (b e) = 0
theorem RUN_u {P : Int32 → Int32} {b : Nat → Int32} {a e e' : Nat} (h : RUN P b a e) (h' : RUN P b a e') : e = e' := by
  rcases Nat.lt_trichotomy e e' with z | z | z
  · exact absurd h.2.2 (h'.2.1 e h.1 z)
  · exact z
  · exact absurd h'.2.2 (h.2.1 e' h'.1 z)
/-- a word, its last letter first (a is 1) -/
def w5 : List Nat → Nat
  | [] => 0
  | x :: l => w5 l * 32 + x
def w8 : List Nat → Nat
  | [] => 0
  | x :: l => w8 l * 256 + (x + 96)
def ltr (l : List Nat) : Prop := ∀ x, x ∈ l → 1 ≤ x ∧ x ≤ 26
theorem w5_in : ∀ (l m : List Nat), ltr l → ltr m → w5 l = w5 m → l = m
  | [], [], _, _, _ => rfl
  | [], y :: m, _, hm, h => by
    have := hm y (List.mem_cons_self ..)
    have h2 : 0 = w5 m * 32 + y := h
    omega
  | x :: l, [], hl, _, h => by
    have := hl x (List.mem_cons_self ..)
    have h2 : w5 l * 32 + x = 0 := h
    omega
  | x :: l, y :: m, hl, hm, h => by
    have h1 := hl x (List.mem_cons_self ..)
    have h2 := hm y (List.mem_cons_self ..)
    have h3 : w5 l * 32 + x = w5 m * 32 + y := h
    have e1 : x = y := by omega
    have e2 : w5 l = w5 m := by omega
    rw [e1, w5_in l m (fun z hz => hl z (List.mem_cons_of_mem _ hz)) (fun z hz => hm z (List.mem_cons_of_mem _ hz)) e2]
theorem w8_in : ∀ (l m : List Nat), ltr l → ltr m → w8 l = w8 m → l = m
  | [], [], _, _, _ => rfl
  | [], y :: m, _, hm, h => by
    have h2 : 0 = w8 m * 256 + (y + 96) := h
    omega
  | x :: l, [], hl, _, h => by
    have h2 : w8 l * 256 + (x + 96) = 0 := h
    omega
  | x :: l, y :: m, hl, hm, h => by
    have h1 := hl x (List.mem_cons_self ..)
    have h2 := hm y (List.mem_cons_self ..)
    have h3 : w8 l * 256 + (x + 96) = w8 m * 256 + (y + 96) := h
    have e1 : x = y := by omega
    have e2 : w8 l = w8 m := by omega
    rw [e1, w8_in l m (fun z hz => hl z (List.mem_cons_of_mem _ hz)) (fun z hz => hm z (List.mem_cons_of_mem _ hz)) e2]
theorem w5_lt : ∀ (l : List Nat), ltr l → w5 l < 32 ^ l.length
  | [], _ => by decide
  | x :: l, h => by
    have h1 := h x (List.mem_cons_self ..)
    have h2 := w5_lt l (fun z hz => h z (List.mem_cons_of_mem _ hz))
    show w5 l * 32 + x < 32 ^ (l.length + 1)
    rw [Nat.pow_succ]
    omega
theorem w8_lt : ∀ (l : List Nat), ltr l → w8 l < 123 * 256 ^ (l.length - 1) ∨ l = []
  | [], _ => Or.inr rfl
  | x :: [], h => by
    have h1 := h x (List.mem_cons_self ..)
    left
    show 0 * 256 + (x + 96) < 123 * 256 ^ 0
    omega
  | x :: y :: l, h => by
    have h1 := h x (List.mem_cons_self ..)
    have h2 := w8_lt (y :: l) (fun z hz => h z (List.mem_cons_of_mem _ hz))
    rcases h2 with h2 | h2
    · left
      show w8 (y :: l) * 256 + (x + 96) < 123 * 256 ^ (l.length + 1)
      have h3 : w8 (y :: l) < 123 * 256 ^ l.length := h2
      rw [Nat.pow_succ]
      omega
    · simp at h2
/-- the letters from p on, k of them, the last first -/
def lts (b : Nat → Int32) (p : Nat) : Nat → List Nat
  | 0 => []
  | k + 1 => ((b (p + k)).toNatClampNeg - 96) :: lts b p k
/-- the number of k digits from p on -/
def dgs (b : Nat → Int32) (p : Nat) : Nat → Nat
  | 0 => 0
  | k + 1 => 10 * dgs b p k + ((b (p + k)).toNatClampNeg - 48)
theorem let_v {c : Int32} (h : ¬ g_75 c = 0) : ∃ x : Nat, 1 ≤ x ∧ x ≤ 26 ∧ c = nI (x + 96) := by
  unfold g_75 at h
  by_cases h1 : c < 97
  · rw [if_pos h1] at h; exact absurd rfl h
  · rw [if_neg h1] at h
    by_cases h2 : 122 < c
    · rw [if_pos h2] at h; exact absurd rfl h
    · have q0 : ¬ c < 0 := fun z => h1 (Int32.lt_trans z (by decide))
      obtain ⟨m, hm, rfl⟩ := nI_of q0
      have a1 : 97 ≤ m := by
        rcases Nat.lt_or_ge m 97 with z | z
        · exact absurd (nI_lt (b := 97) z (by decide)) h1
        · exact z
      have a2 : m ≤ 122 := by
        rcases Nat.lt_or_ge 122 m with z | z
        · exact absurd (nI_lt (a := 122) z hm) h2
        · exact z
      exact ⟨m - 96, by omega, by omega, by congr 1; omega⟩
theorem dig_v {c : Int32} (h : ¬ g_76 c = 0) : ∃ x : Nat, x ≤ 9 ∧ c = nI (x + 48) := by
  unfold g_76 at h
  by_cases h1 : c < 48
  · rw [if_pos h1] at h; exact absurd rfl h
  · rw [if_neg h1] at h
    by_cases h2 : 57 < c
    · rw [if_pos h2] at h; exact absurd rfl h
    · have q0 : ¬ c < 0 := fun z => h1 (Int32.lt_trans z (by decide))
      obtain ⟨m, hm, rfl⟩ := nI_of q0
      have a1 : 48 ≤ m := by
        rcases Nat.lt_or_ge m 48 with z | z
        · exact absurd (nI_lt (b := 48) z (by decide)) h1
        · exact z
      have a2 : m ≤ 57 := by
        rcases Nat.lt_or_ge 57 m with z | z
        · exact absurd (nI_lt (a := 57) z hm) h2
        · exact z
      exact ⟨m - 48, by omega, by congr 1; omega⟩
theorem lts_ok {b : Nat → Int32} {p : Nat} : ∀ k, (∀ j, p ≤ j → j < p + k → ¬ g_75 (b j) = 0) → ltr (lts b p k) ∧ (lts b p k).length = k
  | 0, _ => ⟨fun x hx => absurd hx (List.not_mem_nil), rfl⟩
  | k + 1, h => by
    obtain ⟨h1, h2⟩ := lts_ok (b := b) (p := p) k (fun j a1 a2 => h j a1 (by omega))
    obtain ⟨x, x1, x2, x3⟩ := let_v (h (p + k) (by omega) (by omega))
    refine ⟨fun y hy => ?_, by show (lts b p k).length + 1 = k + 1; rw [h2]⟩
    rcases List.mem_cons.mp hy with z | z
    · rw [z, x3, nI_clamp (by omega)]
      omega
    · exact h1 y z
theorem dgs_lt {b : Nat → Int32} {p : Nat} : ∀ k, (∀ j, p ≤ j → j < p + k → ¬ g_76 (b j) = 0) → dgs b p k < 10 ^ k
  | 0, _ => (show 0 < 10 ^ 0 from by decide)
  | k + 1, h => by
    have h1 := dgs_lt (b := b) (p := p) k (fun j a1 a2 => h j a1 (by omega))
    obtain ⟨x, x1, x3⟩ := dig_v (h (p + k) (by omega) (by omega))
    show 10 * dgs b p k + ((b (p + k)).toNatClampNeg - 48) < 10 ^ (k + 1)
    rw [x3, nI_clamp (by omega), Nat.pow_succ]
    omega
/-- the reference's signs are the class's -/
theorem sgn_eq (c : Int32) : g_169 c = g_77 c := by
  unfold g_169 g_77
  by_cases h1 : c = 37
  · subst h1; decide
  by_cases h2 : c = 40
  · subst h2; decide
  by_cases h3 : c = 41
  · subst h3; decide
  by_cases h4 : c = 42
  · subst h4; decide
  by_cases h5 : c = 43
  · subst h5; decide
  by_cases h6 : c = 45
  · subst h6; decide
  by_cases h7 : c = 47
  · subst h7; decide
  by_cases h8 : c = 59
  · subst h8; decide
  by_cases h9 : c = 60
  · subst h9; decide
  by_cases h10 : c = 61
  · subst h10; decide
  by_cases h11 : c = 62
  · subst h11; decide
  rw [if_neg h8, if_neg h2, if_neg h3, if_neg h9, if_neg h11, if_neg h10, if_neg h5, if_neg h6, if_neg h4, if_neg h7, if_neg h1]
  rw [if_neg h1]
  simp only [h2, h3, h4, h5, h6, h7, h8, h9, h10, h11, if_false, ite_self]
/-- the class's byte -/
theorem g88 {n j : Nat} {f : Nat → Int32} (hn : n ≤ 1600) (e1 : hi 1 1 = nI n) (ef : ∀ j, j < n → hi 2 j &&& 255 = f j) (hj : j ≤ 5000) : g_88 hi (nI j) = byt n f j := by
  unfold g_88 byt
  rw [e1, if_neg (nI_pos (by omega))]
  by_cases c : j < n
  · rw [if_neg (nI_ge c (by omega)), if_pos (show nI j < 1600 from nI_lt (b := 1600) (by omega) (by decide)), nI_clamp (by omega), if_pos c]
    exact ef j c
  · rw [if_pos (nI_le (by omega) (by omega)), if_neg c]
/-- the reference's -/
theorem g166 {n a k : Nat} (hn : n ≤ 1600) (e5 : hi 279 5 = nI n) (e4 : hi 279 4 = nI a) (hj : a + k ≤ 5000) : g_166 hi (nI k) = byt n (hi 280) (a + k) ∧ (¬ hi 279 5 ≤ hi 279 4 + nI k → vp_in (hi 279 4 + nI k) 1600) := by
  unfold g_166 byt
  rw [e5, e4, nI_add]
  by_cases c : a + k < n
  · rw [if_neg (nI_ge c (by omega)), nI_clamp (by omega), if_pos c]
    exact ⟨rfl, fun _ => vp_in_nI (by omega) (by decide)⟩
  · rw [if_pos (nI_le (by omega) (by omega)), if_neg c]
    exact ⟨rfl, fun z => absurd (nI_le (by omega) (by omega)) z⟩
end TOK
