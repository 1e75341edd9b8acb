/-! ===== village: the pull's formula, as a machine with a row of open signs ===== -/
section VPM
/-- how tight a sign binds (20: a bracket, 21: not, 38: and, 124: or) -/
def tg (s : Nat) : Nat := if s = 124 then 1 else if s = 38 then 2 else if s = 21 then 3 else if s = 60 ∨ s = 61 ∨ s = 62 then 4 else if s = 43 ∨ s = 45 then 5 else 6
theorem tg_le (s : Nat) : 1 ≤ tg s ∧ tg s ≤ 6 := by
  unfold tg
  by_cases c1 : s = 124
  · rw [if_pos c1]; decide
  rw [if_neg c1]
  by_cases c2 : s = 38
  · rw [if_pos c2]; decide
  rw [if_neg c2]
  by_cases c3 : s = 21
  · rw [if_pos c3]; decide
  rw [if_neg c3]
  by_cases c4 : s = 60 ∨ s = 61 ∨ s = 62
  · rw [if_pos c4]; decide
  rw [if_neg c4]
  by_cases c5 : s = 43 ∨ s = 45
  · rw [if_pos c5]; decide
  rw [if_neg c5]
  decide
def sp (s : Nat) : Nat × Nat := if s = 21 then (2, 0) else (3, s)
/-- the open signs that bind at least so tight are closed: what stays open, the steps -/
def cls (k : Nat) : List Nat → List Nat × List (Nat × Nat)
  | [] => ([], [])
  | s :: S => if s ≠ 20 ∧ k ≤ tg s then ((cls k S).1, sp s :: (cls k S).2) else (s :: S, [])
def hr : List Nat → Prop
  | [] => False
  | s :: S => if s = 20 then False else if 4 < tg s then hr S else tg s = 4
/-- the last open sign is a bracket or binds less than k -/
def PB (k : Nat) : List Nat → Prop
  | [] => True
  | s :: _ => s = 20 ∨ tg s < k
def dp : List Nat → Nat
  | [] => 0
  | s :: S => dp S + (if s = 20 ∨ s = 21 then 1 else 0)
def nt : List Nat → Nat
  | [] => 0
  | s :: S => if s = 21 then nt S + 1 else 0
theorem nt_le : ∀ S : List Nat, nt S ≤ dp S
  | [] => Nat.le_refl 0
  | s :: S => by
    have := nt_le S
    show (if s = 21 then nt S + 1 else 0) ≤ dp S + (if s = 20 ∨ s = 21 then 1 else 0)
    by_cases c : s = 21
    · rw [if_pos c, if_pos (Or.inr c)]; omega
    · rw [if_neg c]; omega
theorem cls_ap {k : Nat} {S : List Nat} (hS : PB k S) : ∀ (T : List Nat), (∀ s, s ∈ T → s ≠ 20 ∧ k ≤ tg s) → cls k (T ++ S) = (S, T.map sp)
  | [], _ => by
    cases S with
    | nil => rfl
    | cons s S =>
      show (if s ≠ 20 ∧ k ≤ tg s then ((cls k S).1, sp s :: (cls k S).2) else (s :: S, [])) = (s :: S, [])
      rw [if_neg (fun q => by
        rcases (show s = 20 ∨ tg s < k from hS) with z | z
        · exact q.1 z
        · omega)]
  | t :: T, h => by
    have ih := cls_ap hS T (fun s hs => h s (List.mem_cons_of_mem _ hs))
    show (if t ≠ 20 ∧ k ≤ tg t then ((cls k (T ++ S)).1, sp t :: (cls k (T ++ S)).2) else (t :: (T ++ S), [])) = (S, sp t :: T.map sp)
    rw [if_pos (h t (List.mem_cons_self ..)), ih]
theorem hr_ap {S : List Nat} : ∀ (T : List Nat), (∀ s, s ∈ T → s ≠ 20 ∧ 5 ≤ tg s) → (hr (T ++ S) ↔ hr S)
  | [], _ => Iff.rfl
  | t :: T, h => by
    have h1 := h t (List.mem_cons_self ..)
    show (if t = 20 then False else if 4 < tg t then hr (T ++ S) else tg t = 4) ↔ hr S
    rw [if_neg h1.1, if_pos (by omega)]
    exact hr_ap T (fun s hs => h s (List.mem_cons_of_mem _ hs))
theorem hr_no {S : List Nat} (h : PB 4 S) : ¬ hr S := by
  cases S with
  | nil => exact id
  | cons s S =>
    intro q
    have q2 : (if s = 20 then False else if 4 < tg s then hr S else tg s = 4) := q
    by_cases c : s = 20
    · rw [if_pos c] at q2
      exact q2
    · rw [if_neg c] at q2
      rcases (show s = 20 ∨ tg s < 4 from h) with z | z
      · exact c z
      · rw [if_neg (by omega)] at q2
        omega
theorem hr_yes {s : Nat} {S : List Nat} (h1 : s ≠ 20) (h : tg s = 4) : hr (s :: S) := by
  show (if s = 20 then False else if 4 < tg s then hr S else tg s = 4)
  rw [if_neg h1, if_neg (by omega)]
  exact h
abbrev tmT (t : Tk) : Prop := ts t = 42 ∨ ts t = 47 ∨ ts t = 37
abbrev pnT (t : Tk) : Prop := ts t = 43 ∨ ts t = 45
abbrev rlT (t : Tk) : Prop := ts t = 60 ∨ ts t = 62 ∨ ts t = 61
/-- the sign that a token is; 0: none -/
noncomputable def sgt (t : Tk) : Nat := cI (isW t 16) 38 (cI (isW t 15) 124 (cI (tmT t ∨ pnT t ∨ rlT t) (ts t) 0))
theorem sgt_and {t : Tk} (h : isW t 16) : sgt t = 38 := cI_1 h
theorem OW_ne {i j : Nat} (hi : i < 21) (hj : j < 21) (hne : i ≠ j) {t : Tk} (h : isW t i) : ¬ isW t j := fun q => hne (OW_in i hi j hj (h.2.symm.trans q.2))
theorem sgt_or {t : Tk} (h : isW t 15) : sgt t = 124 := by
  unfold sgt
  rw [cI_0 (OW_ne (by decide) (by decide) (by decide) h), cI_1 h]
theorem sgt_sg {t : Tk} (h : tmT t ∨ pnT t ∨ rlT t) : sgt t = ts t := by
  have h1 : ts t ≠ 1 := by omega
  unfold sgt
  rw [cI_0 (fun q => h1 q.1), cI_0 (fun q => h1 q.1), cI_1 h]
theorem sgt_0 {t : Tk} (h1 : ¬ isW t 16) (h2 : ¬ isW t 15) (h3 : ¬ (tmT t ∨ pnT t ∨ rlT t)) : sgt t = 0 := by
  unfold sgt
  rw [cI_0 h1, cI_0 h2, cI_0 h3]
noncomputable def ask (t : Tk) : Option Nat := cI (isW t 11) (some 0) (cI (isW t 18) (some 1) (cI (isW t 19) (some 2) (cI (isW t 9) (some 3) (cI (isW t 20) (some 4) none))))
abbrev PS : Type := Bool × List Nat × List (Nat × Nat) × Nat × Nat
abbrev PO : Type := Out (List (Nat × Nat) × Nat)
noncomputable def stW (b : Nat → Int32) (S : List Nat) (P : List (Nat × Nat)) (U a : Nat) : PS ⊕ PO :=
  cI (isW (tk b a) 17 ∧ PB 4 S) (cI (dp S ≤ 6) (.inl (false, 21 :: S, P, U, te (tk b a))) (.inr (flt b 2 a)))
  (cI (ts (tk b a) = 40) (cI (U < 30 ∧ dp S ≤ 6) (.inl (false, 20 :: S, P, U + 1, te (tk b a))) (.inr (flt b 2 a)))
  (cI (U < 30) (cI (ts (tk b a) = 2) (.inl (true, S, P ++ [(0, tv (tk b a))], U + 1, te (tk b a))) (match ask (tk b a) with
    | some k => .inl (true, S, P ++ [(1, k)], U + 1, te (tk b a))
    | none => .inr (flt b 2 a))) (.inr (flt b 2 a))))
noncomputable def stH (b : Nat → Int32) (S : List Nat) (P : List (Nat × Nat)) (U a : Nat) : PS ⊕ PO :=
  cI (ts (tk b a) = 41 ∧ 20 ∈ S) (.inl (true, (cls 0 S).1.tail, P ++ (cls 0 S).2, U, te (tk b a)))
  (cI (sgt (tk b a) ≠ 0 ∧ ¬ (tg (sgt (tk b a)) = 4 ∧ hr S)) (.inl (false, sgt (tk b a) :: (cls (tg (sgt (tk b a))) S).1, P ++ (cls (tg (sgt (tk b a))) S).2, U, te (tk b a)))
  (cI (20 ∈ S) (.inr (flt b 2 a)) (.inr (.inr ((P ++ (cls 0 S).2, U), a)))))
noncomputable def stP (b : Nat → Int32) (s : PS) : PS ⊕ PO := match s with
  | (false, S, P, U, a) => stW b S P U a
  | (true, S, P, U, a) => stH b S P U a
noncomputable def pm (b : Nat → Int32) : Nat → PS → Option PO
  | 0, _ => none
  | k + 1, s => match stP b s with
    | .inl s' => pm b k s'
    | .inr o => some o
def PM (b : Nat → Int32) (s : PS) (o : PO) : Prop := ∃ k, pm b k s = some o
theorem PM.s {b : Nat → Int32} {s s' : PS} {o : PO} (h : stP b s = .inl s') (q : PM b s' o) : PM b s o := by
  obtain ⟨k, q⟩ := q
  refine ⟨k + 1, ?_⟩
  show (match stP b s with
    | .inl s' => pm b k s'
    | .inr o => some o) = some o
  rw [h]
  exact q
theorem PM.o {b : Nat → Int32} {s : PS} {o : PO} (h : stP b s = .inr o) : PM b s o := by
  refine ⟨1, ?_⟩
  show (match stP b s with
    | .inl s' => pm b 0 s'
    | .inr o => some o) = some o
  rw [h]
variable {b : Nat → Int32} {S : List Nat} {P : List (Nat × Nat)} {U a : Nat}
theorem st_not (h : isW (tk b a) 17) (h2 : PB 4 S) (h3 : dp S ≤ 6) : stP b (false, S, P, U, a) = .inl (false, 21 :: S, P, U, te (tk b a)) := by
  show stW b S P U a = _
  unfold stW
  rw [cI_1 ⟨h, h2⟩, cI_1 h3]
theorem st_notf (h : isW (tk b a) 17) (h2 : PB 4 S) (h3 : ¬ dp S ≤ 6) : stP b (false, S, P, U, a) = .inr (flt b 2 a) := by
  show stW b S P U a = _
  unfold stW
  rw [cI_1 ⟨h, h2⟩, cI_0 h3]
theorem st_br (h : ts (tk b a) = 40) (hU : U < 30) (h3 : dp S ≤ 6) : stP b (false, S, P, U, a) = .inl (false, 20 :: S, P, U + 1, te (tk b a)) := by
  show stW b S P U a = _
  unfold stW
  rw [cI_0 (fun q => by have := q.1.1; omega), cI_1 h, cI_1 ⟨hU, h3⟩]
theorem st_brf (h : ts (tk b a) = 40) (h3 : ¬ (U < 30 ∧ dp S ≤ 6)) : stP b (false, S, P, U, a) = .inr (flt b 2 a) := by
  show stW b S P U a = _
  unfold stW
  rw [cI_0 (fun q => by have := q.1.1; omega), cI_1 h, cI_0 h3]
theorem st_num (h : ts (tk b a) = 2) (hU : U < 30) : stP b (false, S, P, U, a) = .inl (true, S, P ++ [(0, tv (tk b a))], U + 1, te (tk b a)) := by
  show stW b S P U a = _
  unfold stW
  rw [cI_0 (fun q => by have := q.1.1; omega), cI_0 (by omega), cI_1 hU, cI_1 h]
theorem st_ask {k : Nat} (h : ask (tk b a) = some k) (h1 : ts (tk b a) = 1) (h2 : ¬ isW (tk b a) 17) (hU : U < 30) : stP b (false, S, P, U, a) = .inl (true, S, P ++ [(1, k)], U + 1, te (tk b a)) := by
  show stW b S P U a = _
  unfold stW
  rw [cI_0 (fun q => h2 q.1), cI_0 (by omega), cI_1 hU, cI_0 (by omega), h]
/-- no unit stands here, or there are enough -/
theorem st_wf (h : ¬ (isW (tk b a) 17 ∧ PB 4 S)) (h1 : ¬ ts (tk b a) = 40) (h2 : ¬ U < 30 ∨ (¬ ts (tk b a) = 2 ∧ ask (tk b a) = none)) : stP b (false, S, P, U, a) = .inr (flt b 2 a) := by
  show stW b S P U a = _
  unfold stW
  rw [cI_0 h, cI_0 h1]
  rcases h2 with h2 | ⟨h2, h3⟩
  · rw [cI_0 h2]
  · by_cases c : U < 30
    · rw [cI_1 c, cI_0 h2, h3]
    · rw [cI_0 c]
theorem st_cl (h : ts (tk b a) = 41) (h2 : 20 ∈ S) : stP b (true, S, P, U, a) = .inl (true, (cls 0 S).1.tail, P ++ (cls 0 S).2, U, te (tk b a)) := by
  show stH b S P U a = _
  unfold stH
  rw [cI_1 ⟨h, h2⟩]
theorem sgt41 {t : Tk} (h : ts t = 41) : sgt t = 0 := sgt_0 (fun q => by have := q.1; omega) (fun q => by have := q.1; omega) (by omega)
theorem st_sg (h : sgt (tk b a) ≠ 0) (h2 : ¬ (tg (sgt (tk b a)) = 4 ∧ hr S)) : stP b (true, S, P, U, a) = .inl (false, sgt (tk b a) :: (cls (tg (sgt (tk b a))) S).1, P ++ (cls (tg (sgt (tk b a))) S).2, U, te (tk b a)) := by
  show stH b S P U a = _
  unfold stH
  rw [cI_0 (fun q => h (sgt41 q.1)), cI_1 ⟨h, h2⟩]
theorem st_ef (h : ¬ (ts (tk b a) = 41 ∧ 20 ∈ S)) (h2 : ¬ (sgt (tk b a) ≠ 0 ∧ ¬ (tg (sgt (tk b a)) = 4 ∧ hr S))) (h3 : 20 ∈ S) : stP b (true, S, P, U, a) = .inr (flt b 2 a) := by
  show stH b S P U a = _
  unfold stH
  rw [cI_0 h, cI_0 h2, cI_1 h3]
theorem st_dn (h2 : ¬ (sgt (tk b a) ≠ 0 ∧ ¬ (tg (sgt (tk b a)) = 4 ∧ hr S))) (h3 : ¬ 20 ∈ S) : stP b (true, S, P, U, a) = .inr (.inr ((P ++ (cls 0 S).2, U), a)) := by
  show stH b S P U a = _
  unfold stH
  rw [cI_0 (fun q => h3 q.2), cI_0 h2, cI_0 h3]
end VPM
