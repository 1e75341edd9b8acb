/-! ===== loops upward; rows in nests; what a query leaves as it was ===== -/
/-- a loop that goes up to e -/
theorem lpu {σ : Type} (e : Nat) (W I : Nat → σ → Prop) (hx : ∀ s, I e s → W e s) (hs : ∀ i s, i < e → I i s → (∀ s', I (i + 1) s' → W (i + 1) s') → W i s) : ∀ n i s, i + n = e → I i s → W i s
  | 0, i, s, h, hI => by
    have : i = e := by omega
    subst this
    exact hx s hI
  | n + 1, i, s, h, hI => hs i s (by omega) hI (fun s' h' => lpu e W I hx hs n (i + 1) s' (by omega) h')
/-- one place of a row -/
def up1 {α : Type} (f : Nat → α) (k : Nat) (x : α) : Nat → α := fun j => if j = k then x else f j
theorem up1_s {α : Type} {f : Nat → α} {k : Nat} {x : α} : up1 f k x k = x := if_pos rfl
theorem up1_n {α : Type} {f : Nat → α} {k j : Nat} {x : α} (h : j ≠ k) : up1 f k x j = f j := if_neg h
theorem u2_uR {α : Type} {f : Nat → Nat → α} {i j : Nat} {x : α} : u2 f i j x = uR f i (up1 (f i) j x) := by
  funext a b
  rw [u2_eq, uR_eq]
  unfold up1
  by_cases h1 : a = i
  · subst h1
    by_cases h2 : b = j
    · rw [if_pos ⟨rfl, h2⟩, if_pos rfl, if_pos h2]
    · rw [if_neg (fun q => h2 q.2), if_pos rfl, if_neg h2]
  · rw [if_neg (fun q => h1 q.1), if_neg h1]
theorem uR_uR {α : Type} {f : Nat → Nat → α} {i : Nat} {g g' : Nat → α} : uR (uR f i g) i g' = uR f i g' := by
  funext a b
  rw [uR_eq, uR_eq, uR_eq]
  by_cases h : a = i
  · rw [if_pos h, if_pos h]
  · rw [if_neg h, if_neg h, if_neg h]
theorem uR_co {α : Type} {f : Nat → Nat → α} {i k : Nat} {g g' : Nat → α} (h : i ≠ k) : uR (uR f i g) k g' = uR (uR f k g') i g := by
  funext a b
  simp only [uR_eq]
  by_cases h1 : a = k
  · rw [if_pos h1, if_neg (by omega), if_pos h1]
  · rw [if_neg h1]
    by_cases h2 : a = i
    · rw [if_pos h2, if_pos h2]
    · rw [if_neg h2, if_neg h2, if_neg h1]
theorem uR_s {α : Type} {f : Nat → Nat → α} {i : Nat} {g : Nat → α} : uR f i g i = g := by
  funext b
  rw [uR_eq, if_pos rfl]
theorem uR_id {α : Type} {f : Nat → Nat → α} {i : Nat} : uR f i (f i) = f := by
  funext a b
  rw [uR_eq]
  by_cases h : a = i
  · rw [if_pos h, h]
  · rw [if_neg h]
theorem u2_in {α : Type} {f : Nat → Nat → α} {i j : Nat} {g : Nat → α} {x : α} : u2 (uR f i g) i j x = uR f i (up1 g j x) := by
  rw [u2_uR, uR_s, uR_uR]
theorem u2_co {α : Type} {f : Nat → Nat → α} {i k j : Nat} {g : Nat → α} {x : α} (h : i ≠ k) : u2 (uR f i g) k j x = uR (u2 f k j x) i g := by
  rw [u2_uR, u2_uR, uR_co h]
  congr 2
  rw [uR_ne (by omega)]
theorem u2_u2 {α : Type} {f : Nat → Nat → α} {i j : Nat} {x y : α} : u2 (u2 f i j x) i j y = u2 f i j y := by
  funext a b
  simp only [u2_eq]
  by_cases h : a = i ∧ b = j
  · rw [if_pos h, if_pos h]
  · rw [if_neg h, if_neg h, if_neg h]
/-- what the static part of the relation reads -/
def NS (c j : Nat) : Prop := c = 1 ∨ c = 2 ∨ (c = 3 ∧ (j = 7 ∨ j = 8)) ∨ (c = 0 ∧ j = 13) ∨ (19 ≤ c ∧ c ≤ 26) ∨ (266 ≤ c ∧ c ≤ 274 ∧ ¬ (c = 266 ∧ j = 11)) ∨ c = 278 ∨ c = 280 ∨ c = 284 ∨ c = 285 ∨ (294 ≤ c ∧ c ≤ 298) ∨ c = 310 ∨ (312 ≤ c ∧ c ≤ 319) ∨ (c = 279 ∧ (j = 1 ∨ j = 2 ∨ j = 3 ∨ j = 18 ∨ j = 21 ∨ (45 ≤ j ∧ j ≤ 51) ∨ j = 58 ∨ j = 75 ∨ j = 86 ∨ j = 87))
/-- and what the rest of it reads -/
def ND (c j : Nat) : Prop := (28 ≤ c ∧ c ≤ 33) ∨ (35 ≤ c ∧ c ≤ 255) ∨ c = 299 ∨ c = 303 ∨ c = 322 ∨ c = 323 ∨ (c = 0 ∧ j = 8) ∨ (c = 279 ∧ (j = 66 ∨ j = 67))
def Rst (V : vN) (hi : Nat → Nat → Int32) (hl : Nat → Nat → Int64) : Prop := R_tape hi ∧ R_flt hi ∧ R_lie hi ∧ R_led hi ∧ R_wrd hl ∧ R_vil V hi ∧ R_pul hi
def Rdy (V : vN) (hi : Nat → Nat → Int32) (kp : Nat → Nat) : Prop := R_kp kp ∧ SRc V hi 28 (hi 299) ∧ R_acts V hi kp ∧ R_box V hi
theorem Rel.sp {hi : Nat → Nat → Int32} {hl : Nat → Nat → Int64} {sw : Bool} {kp : Nat → Nat} (h : Rel hi hl sw kp) : ∃ V, Rst V hi hl ∧ Rdy V hi kp := by
  obtain ⟨r1, r2, r3, r4, r5, r6, V, v1, v2, v3, v4, v5⟩ := h
  exact ⟨V, ⟨r1, r2, r3, r4, r5, v1, v2⟩, r6, v3, v4, v5⟩
theorem Rel.jn {V : vN} {hi : Nat → Nat → Int32} {hl : Nat → Nat → Int64} {sw : Bool} {kp : Nat → Nat} (a : Rst V hi hl) (b : Rdy V hi kp) : Rel hi hl sw kp :=
  ⟨a.1, a.2.1, a.2.2.1, a.2.2.2.1, a.2.2.2.2.1, b.1, V, a.2.2.2.2.2.1, a.2.2.2.2.2.2, b.2⟩
theorem Rst.fr {V : vN} {hi' hi : Nat → Nat → Int32} {hl' hl : Nat → Nat → Int64} (e : ∀ c j, NS c j → hi' c j = hi c j) (el : hl' 4 = hl 4) (h : Rst V hi hl) : Rst V hi' hl' := by
  have ec : ∀ c, (∀ j, NS c j) → hi' c = hi c := fun c q => funext fun j => e c j (q j)
  obtain ⟨⟨n, n1, n2, n3, n4⟩, ⟨f1, f2⟩, ⟨l, l1, l2, l3, l4⟩, ⟨m, t, t1, t2, t3, t4, t5, t6, t7⟩, w, v, ⟨p, p1, p2, p3, p4, p5, p6⟩⟩ := h
  refine ⟨⟨n, n1, ?_, ?_, fun j hj => ?_⟩, ⟨?_, ?_⟩, ⟨l, l1, ?_, ?_, fun j hj => ?_⟩, ⟨m, t, t1, t2, ?_, ?_, ?_, ?_, fun j hj => ?_⟩, ?_, ?_, ⟨p, p1, ?_, ?_, ?_, ?_, fun k hk => ?_⟩⟩
  · rw [e 1 1 (by unfold NS; omega)]; exact n2
  · rw [e 279 1 (by unfold NS; omega)]; exact n3
  · rw [e 2 j (by unfold NS; omega), e 280 j (by unfold NS; omega)]; exact n4 j hj
  · rw [e 3 7 (by unfold NS; omega), e 279 2 (by unfold NS; omega)]; exact f1
  · rw [e 3 8 (by unfold NS; omega), e 279 3 (by unfold NS; omega)]; exact f2
  · rw [e 0 13 (by unfold NS; omega)]; exact l2
  · rw [e 279 75 (by unfold NS; omega)]; exact l3
  · rw [e 278 j (by unfold NS; omega), e 310 j (by unfold NS; omega)]; exact l4 j hj
  · rw [e 266 8 (by unfold NS; omega)]; exact t3
  · rw [e 279 86 (by unfold NS; omega)]; exact t4
  · rw [e 266 9 (by unfold NS; omega)]; exact t5
  · rw [e 279 87 (by unfold NS; omega)]; exact t6
  · unfold R_cnt
    rw [e 267 j (by unfold NS; omega), e 268 j (by unfold NS; omega), e 269 j (by unfold NS; omega), e 270 j (by unfold NS; omega), e 271 j (by unfold NS; omega), e 272 j (by unfold NS; omega), e 273 j (by unfold NS; omega), e 274 j (by unfold NS; omega), e 312 j (by unfold NS; omega), e 313 j (by unfold NS; omega), e 314 j (by unfold NS; omega), e 315 j (by unfold NS; omega), e 316 j (by unfold NS; omega), e 317 j (by unfold NS; omega), e 318 j (by unfold NS; omega), e 319 j (by unfold NS; omega), e 19 0 (by unfold NS; omega)]
    exact t7 j hj
  · intro j hj
    rw [el]
    exact w j hj
  · unfold R_vil
    rw [ec 19 (fun j => by unfold NS; omega), ec 20 (fun j => by unfold NS; omega), ec 21 (fun j => by unfold NS; omega), ec 22 (fun j => by unfold NS; omega), ec 23 (fun j => by unfold NS; omega), ec 24 (fun j => by unfold NS; omega), ec 294 (fun j => by unfold NS; omega), ec 295 (fun j => by unfold NS; omega), ec 296 (fun j => by unfold NS; omega), ec 297 (fun j => by unfold NS; omega), ec 298 (fun j => by unfold NS; omega), e 279 45 (by unfold NS; omega), e 279 46 (by unfold NS; omega), e 279 47 (by unfold NS; omega), e 279 48 (by unfold NS; omega), e 279 49 (by unfold NS; omega), e 279 50 (by unfold NS; omega), e 279 51 (by unfold NS; omega)]
    exact v
  · rw [e 25 2 (by unfold NS; omega)]; exact p2
  · rw [e 279 18 (by unfold NS; omega)]; exact p3
  · rw [e 25 3 (by unfold NS; omega), e 279 21 (by unfold NS; omega)]; exact p4
  · rw [e 279 58 (by unfold NS; omega), ec 284 (fun j => by unfold NS; omega), ec 285 (fun j => by unfold NS; omega)]; exact p5
  · rw [e 26 k (by unfold NS; omega), e 284 k (by unfold NS; omega), e 285 k (by unfold NS; omega)]; exact p6 k hk
theorem Rdy.fr {V : vN} {hi' hi : Nat → Nat → Int32} {kp : Nat → Nat} (e : ∀ c j, ND c j → hi' c j = hi c j) (eb : hi' 23 = hi 23) (h : Rdy V hi kp) : Rdy V hi' kp := by
  have ec : ∀ c, (∀ j, ND c j) → hi' c = hi c := fun c q => funext fun j => e c j (q j)
  have ag : Ag hi' hi := fun c h1 h2 => ec c (fun j => by unfold ND; omega)
  obtain ⟨k, s, a, b⟩ := h
  refine ⟨k, ?_, R_acts.fr ag k eb (ec 33 (fun j => by unfold ND; omega)) (e 279 66 (by unfold ND; omega)) (e 279 67 (by unfold ND; omega)) (ec 303 (fun j => by unfold ND; omega)) (ec 299 (fun j => by unfold ND; omega)) a, R_box.fr ag eb (e 0 8 (by unfold ND; omega)) (ec 322 (fun j => by unfold ND; omega)) (ec 323 (fun j => by unfold ND; omega)) b⟩
  unfold SRc at s ⊢
  rw [eb, ec 28 (fun j => by unfold ND; omega), ec 29 (fun j => by unfold ND; omega), ec 30 (fun j => by unfold ND; omega), ec 31 (fun j => by unfold ND; omega), ec 32 (fun j => by unfold ND; omega), ec 299 (fun j => by unfold ND; omega)]
  exact s
theorem Rel.fr {hi' hi : Nat → Nat → Int32} {hl' hl : Nat → Nat → Int64} {sw sw' : Bool} {kp : Nat → Nat} (h : Rel hi hl sw kp) (e : ∀ c j, NS c j ∨ ND c j → hi' c j = hi c j) (el : hl' 4 = hl 4) : Rel hi' hl' sw' kp := by
  obtain ⟨V, a, b⟩ := h.sp
  exact Rel.jn (a.fr (fun c j q => e c j (Or.inl q)) el) (b.fr (fun c j q => e c j (Or.inr q)) (funext fun j => e 23 j (Or.inl (by unfold NS; omega))))
