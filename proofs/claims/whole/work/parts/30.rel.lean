/-! ===== what the class's cells and the reference's have to do with each other between two calls ===== -/
/-- the tape: as many bytes, the same ones -/
def R_tape (hi : Nat → Nat → Int32) : Prop := ∃ n : Nat, n ≤ 1600 ∧ hi 1 1 = nI n ∧ hi 279 1 = nI n ∧ ∀ j, j < n → hi 2 j &&& 255 = hi 280 j
def R_flt (hi : Nat → Nat → Int32) : Prop := hi 3 7 = hi 279 2 ∧ hi 3 8 = hi 279 3
/-- what lies there -/
def R_lie (hi : Nat → Nat → Int32) : Prop := ∃ n : Nat, n ≤ 8 ∧ hi 0 13 = nI n ∧ hi 279 75 = nI n ∧ ∀ j, j < n → hi 278 j = hi 310 j
/-- one count -/
def R_cnt (hi : Nat → Nat → Int32) (j : Nat) : Prop := hi 267 j = hi 312 j ∧ hi 268 j = hi 313 j ∧ hi 269 j = hi 314 j ∧ hi 270 j = hi 315 j ∧ hi 271 j = hi 316 j ∧ hi 272 j = hi 317 j ∧ hi 273 j = hi 318 j ∧ hi 274 j = hi 319 j ∧ (∃ a : Nat, a < (hi 19 0).toNatClampNeg ∧ hi 268 j = nI a) ∧ (∃ a : Nat, a < (hi 19 0).toNatClampNeg ∧ hi 270 j = nI a) ∧ (hi 274 j = -1 ∨ ∃ u : Nat, u ≤ 100000 ∧ hi 274 j = nI u)
def R_led (hi : Nat → Nat → Int32) : Prop := ∃ n t : Nat, n ≤ 30 ∧ t ≤ 100000 ∧ hi 266 8 = nI n ∧ hi 279 86 = nI n ∧ hi 266 9 = nI t ∧ hi 279 87 = nI t ∧ ∀ j, j < n → R_cnt hi j
def R_wrd (hl : Nat → Nat → Int64) : Prop := ∀ j, j < 21 → hl 4 j = rd_W j
def R_kp (kp : Nat → Nat) : Prop := (∀ j, j < 41 → kp j < 41) ∧ ∀ i j, i < 41 → j < 41 → kp i = kp j → i = j
/-- the village's numbers: deeds, places, paths, cases, hours of a day, hears, start, age -/
abbrev vN : Type := Nat × Nat × Nat × Nat × Nat × Nat × Nat × Nat
abbrev vD (V : vN) : Nat := V.1
abbrev vP (V : vN) : Nat := V.2.1
abbrev vT (V : vN) : Nat := V.2.2.1
abbrev vC (V : vN) : Nat := V.2.2.2.1
abbrev vDy (V : vN) : Nat := V.2.2.2.2.1
abbrev vHr (V : vN) : Nat := V.2.2.2.2.2.1
abbrev vSt (V : vN) : Nat := V.2.2.2.2.2.2.1
abbrev vAg (V : vN) : Nat := V.2.2.2.2.2.2.2
def R_vil (V : vN) (hi : Nat → Nat → Int32) : Prop :=
  (vD V ≤ 4 ∧ vP V ≤ 8 ∧ vT V ≤ 16 ∧ vC V ≤ 4 ∧ 1 ≤ vDy V ∧ vDy V ≤ 24 ∧ 1 ≤ vHr V ∧ vHr V ≤ 24 ∧ (vSt V < vP V ∨ (vP V = 0 ∧ vSt V = 0)) ∧ vAg V ≤ 99) ∧
  (hi 19 0 = nI (vD V) ∧ hi 19 1 = nI (vP V) ∧ hi 19 2 = nI (vT V) ∧ hi 19 3 = nI (vC V) ∧ hi 19 4 = nI (vDy V) ∧ hi 19 5 = nI (vHr V) ∧ hi 19 6 = nI (vSt V) ∧ hi 19 7 = nI (vAg V)) ∧
  (hi 279 45 = nI (vD V) ∧ hi 279 46 = nI (vP V) ∧ hi 279 47 = nI (vT V) ∧ hi 279 48 = nI (vC V) ∧ hi 279 50 = nI (vDy V) ∧ hi 279 51 = nI (vHr V) ∧ hi 279 49 = nI (vSt V)) ∧
  (∀ p, p < vP V → hi 20 p = hi 294 p ∧ (∃ e : Nat, e < vD V ∧ hi 21 p = nI e ∧ hi 295 p = nI e) ∧ ∃ b : Nat, b < 256 ∧ hi 22 p = nI b ∧ hi 296 p = nI b) ∧
  (∀ c, c < vC V → ∃ b : Nat, 1 ≤ b ∧ b ≤ 15 ∧ hi 23 c = nI b ∧ hi 297 c = nI b) ∧
  (∀ e c, e < vD V → c < vC V → hi 24 (4 * e + c) = hi 298 (4 * e + c) ∧ -3 ≤ (hi 24 (4 * e + c)).toInt ∧ (hi 24 (4 * e + c)).toInt ≤ 3)
/-- a step of the formula: as the reference has it (sort, argument), as the class has it -/
def f_cnv (st ar : Int32) : Int32 := if st = 0 then ar else if st = 1 then (if ar = 0 then -211 else if ar = 1 then -218 else if ar = 2 then -219 else if ar = 3 then -209 else -220) else if st = 2 then -217 else if ar = 38 then -216 else if ar = 124 then -215 else -ar
/-- how many values stand on the stack behind a step; none if that can't be -/
def f_dep (st ar : Int32) (k : Nat) : Option Nat :=
  if st = 0 then (if 0 ≤ ar ∧ k < 30 then some (k + 1) else none)
  else if st = 1 then (if 0 ≤ ar ∧ ar < 5 ∧ k < 30 then some (k + 1) else none)
  else if st = 2 then (if 1 ≤ k then some k else none)
  else if st = 3 ∧ (ar = 43 ∨ ar = 45 ∨ ar = 42 ∨ ar = 47 ∨ ar = 37 ∨ ar = 60 ∨ ar = 62 ∨ ar = 61 ∨ ar = 38 ∨ ar = 124) then (if 2 ≤ k then some (k - 1) else none) else none
def f_deps (st ar : Nat → Int32) : Nat → Option Nat
  | 0 => some 0
  | n + 1 => match f_deps st ar n with
    | some k => f_dep (st n) (ar n) k
    | none => none
def R_pul (hi : Nat → Nat → Int32) : Prop := ∃ m : Nat, m ≤ 269 ∧ hi 25 2 = nI m ∧ hi 279 18 = nI m ∧ hi 25 3 = hi 279 21 ∧ ((hi 279 58 = 0 ∧ m = 0) ∨ (hi 279 58 = 1 ∧ f_deps (hi 284) (hi 285) m = some 1)) ∧ ∀ k, k < m → hi 26 k = f_cnv (hi 284 k) (hi 285 k)
/-- a state: the class's object and rows, the reference's row -/
def SR (V : vN) (bar : Nat → Int32) (ob bo sc sd wk row : Nat → Int32) : Prop :=
  ∃ H : Nat, H ≤ 2000 ∧ ob 1 = nI H ∧ row 17 = nI H ∧ row 16 = ob 0 ∧ ((vP V = 0 ∧ ob 0 = -1) ∨ ∃ g : Nat, g < vP V ∧ ob 0 = nI g) ∧ row 19 = ob 2 ∧ (∃ g : Nat, g < 1000 ∧ ob 2 = nI g) ∧ row 18 = nI (min 99 (vAg V + H / vDy V)) ∧
  (∀ p, p < 8 → ∃ b : Nat, b ≤ 9 ∧ bo p = nI b ∧ row p = nI b) ∧
  (∀ c, c < 4 → row (8 + c) = sc c ∧ row (12 + c) = sd c ∧ (sd c = 0 ∨ sd c = 1 ∨ sd c = 2) ∧ -1000 ≤ (sc c).toInt ∧ (sc c).toInt ≤ 1000 ∧ (c < vC V → sd c = 0 → -(bar c).toInt < (sc c).toInt ∧ (sc c).toInt < (bar c).toInt)) ∧
  row 20 = nI (min H 60) ∧ ∀ k, k < min H 60 → row (21 + k) = wk ((H - min H 60 + k) % 60) ∧ ∃ g : Nat, g < vP V ∧ row (21 + k) = nI g
/-- the state in the cells from s on -/
def SRc (V : vN) (hi : Nat → Nat → Int32) (s : Nat) (row : Nat → Int32) : Prop := SR V (hi 23) (hi s) (hi (s + 1)) (hi (s + 2)) (hi (s + 3)) (hi (s + 4)) row
def R_acts (V : vN) (hi : Nat → Nat → Int32) (kp : Nat → Nat) : Prop := ∃ a u : Nat, a + u ≤ 40 ∧ hi 33 1 = nI a ∧ hi 33 2 = nI u ∧ hi 279 66 = nI a ∧ hi 279 67 = nI u ∧
  (∀ j, j < a → SRc V hi (35 + 5 * kp j) (fun k => hi 303 (82 * j + k))) ∧ (∀ j, a ≤ j → j < a + u → SRc V hi (35 + 5 * kp (j + 1)) (fun k => hi 303 (82 * j + k))) ∧ (0 < u → SRc V hi (35 + 5 * kp a) (hi 299))
def R_box (V : vN) (hi : Nat → Nat → Int32) : Prop := ∃ B : Nat, B < 8 ∧ hi 0 8 = nI B ∧ ∀ b, b < 3 → hi 322 b = nI (B / 2 ^ b % 2) ∧ (B / 2 ^ b % 2 = 1 → SRc V hi (241 + 5 * b) (fun k => hi 323 (82 * b + k)))
def R_big (hi : Nat → Nat → Int32) (kp : Nat → Nat) : Prop := ∃ V : vN, R_vil V hi ∧ R_pul hi ∧ SRc V hi 28 (hi 299) ∧ R_acts V hi kp ∧ R_box V hi
def Rel : am_R := fun hi hl _ kp => R_tape hi ∧ R_flt hi ∧ R_lie hi ∧ R_led hi ∧ R_wrd hl ∧ R_kp kp ∧ R_big hi kp
/-- the kept states and the boxes' are as they were -/
def Ag (hi' hi : Nat → Nat → Int32) : Prop := ∀ c, 35 ≤ c → c < 256 → hi' c = hi c
theorem Ag.rf {hi : Nat → Nat → Int32} : Ag hi hi := fun _ _ _ => rfl
theorem Ag.u {hi' hi : Nat → Nat → Int32} {k j : Nat} {x : Int32} (h : Ag hi' hi) (hk : k < 35 ∨ 256 ≤ k) : Ag (u2 hi' k j x) hi := fun c h1 h2 => by
  rw [u2_row_ne (by omega)]
  exact h c h1 h2
theorem Ag.r {hi' hi : Nat → Nat → Int32} {k : Nat} {g : Nat → Int32} (h : Ag hi' hi) (hk : k < 35 ∨ 256 ≤ k) : Ag (uR hi' k g) hi := fun c h1 h2 => by
  rw [uR_ne (by omega)]
  exact h c h1 h2
theorem SRc.fr {V : vN} {hi' hi : Nat → Nat → Int32} {s : Nat} {row row' : Nat → Int32} (hA : Ag hi' hi) (hs : 35 ≤ s) (hs2 : s + 4 < 256) (hb : hi' 23 = hi 23) (hr : row' = row) (h : SRc V hi s row) : SRc V hi' s row' := by
  unfold SRc at h ⊢
  rw [hb, hr, hA s hs (by omega), hA (s + 1) (by omega) (by omega), hA (s + 2) (by omega) (by omega), hA (s + 3) (by omega) (by omega), hA (s + 4) (by omega) (by omega)]
  exact h
theorem R_acts.fr {V : vN} {hi' hi : Nat → Nat → Int32} {kp : Nat → Nat} (hA : Ag hi' hi) (hk : R_kp kp) (hb : hi' 23 = hi 23) (h1 : hi' 33 = hi 33) (h2 : hi' 279 66 = hi 279 66) (h3 : hi' 279 67 = hi 279 67) (h4 : hi' 303 = hi 303) (h5 : hi' 299 = hi 299) (h : R_acts V hi kp) : R_acts V hi' kp := by
  obtain ⟨a, u, g0, g1, g2, g3, g4, g5, g6, g7⟩ := h
  refine ⟨a, u, g0, by rw [h1]; exact g1, by rw [h1]; exact g2, by rw [h2]; exact g3, by rw [h3]; exact g4, fun j hj => ?_, fun j hj1 hj2 => ?_, fun hu => ?_⟩
  · have := hk.1 j (by omega)
    exact (g5 j hj).fr hA (by omega) (by omega) hb (by rw [h4])
  · have := hk.1 (j + 1) (by omega)
    exact (g6 j hj1 hj2).fr hA (by omega) (by omega) hb (by rw [h4])
  · have := hk.1 a (by omega)
    exact (g7 hu).fr hA (by omega) (by omega) hb h5
theorem R_box.fr {V : vN} {hi' hi : Nat → Nat → Int32} (hA : Ag hi' hi) (hb : hi' 23 = hi 23) (h1 : hi' 0 8 = hi 0 8) (h2 : hi' 322 = hi 322) (h3 : hi' 323 = hi 323) (h : R_box V hi) : R_box V hi' := by
  obtain ⟨B, g0, g1, g2⟩ := h
  refine ⟨B, g0, by rw [h1]; exact g1, fun b hb3 => ⟨by rw [h2]; exact (g2 b hb3).1, fun q => ?_⟩⟩
  exact ((g2 b hb3).2 q).fr hA (by omega) (by omega) hb (by rw [h3])
/-- nothing of the village, its states, its boxes is touched -/
theorem R_big.fr {hi' hi : Nat → Nat → Int32} {kp : Nat → Nat} (hA : Ag hi' hi) (hk : R_kp kp) (hv : ∀ V, R_vil V hi → R_vil V hi') (hp : R_pul hi → R_pul hi') (hn : ∀ V, SRc V hi 28 (hi 299) → SRc V hi' 28 (hi' 299)) (hb : hi' 23 = hi 23) (h1 : hi' 33 = hi 33) (h2 : hi' 279 66 = hi 279 66) (h3 : hi' 279 67 = hi 279 67) (h4 : hi' 303 = hi 303) (h5 : hi' 0 8 = hi 0 8) (h6 : hi' 322 = hi 322) (h7 : hi' 323 = hi 323) (h8 : hi' 299 = hi 299) (h : R_big hi kp) : R_big hi' kp := by
  obtain ⟨V, g1, g2, g3, g4, g5⟩ := h
  exact ⟨V, hv V g1, hp g2, hn V g3, g4.fr hA hk hb h1 h2 h3 h4 h8, g5.fr hA hb h5 h6 h7⟩
