/-! ===== village: the draft, and a line as a function ===== -/
section VDR
noncomputable def cI {α : Type} (p : Prop) (x y : α) : α := @ite α p (Classical.propDecidable p) x y
theorem cI_1 {α : Type} {p : Prop} {x y : α} (h : p) : cI p x y = x := if_pos h
theorem cI_0 {α : Type} {p : Prop} {x y : α} (h : ¬ p) : cI p x y = y := if_neg h
/-- the draft: deeds, places, paths, cases; names (deeds from 0, places from 4, cases from 12); smell, does, leads, bar, table; which rows of the table are told; which lines that may stand once; day, hears, start, age, seed (4 to 8); steps; units -/
abbrev Dr : Type := Nat × Nat × Nat × Nat × (Nat → List Nat) × (Nat → Nat) × (Nat → Nat) × (Nat → Nat) × (Nat → Nat) × (Nat → Int32) × Nat × Nat × (Nat → Nat) × List (Nat × Nat) × Nat
abbrev dD (D : Dr) : Nat := D.1
abbrev dP (D : Dr) : Nat := D.2.1
abbrev dT (D : Dr) : Nat := D.2.2.1
abbrev dC (D : Dr) : Nat := D.2.2.2.1
abbrev dnm (D : Dr) : Nat → List Nat := D.2.2.2.2.1
abbrev dsm (D : Dr) : Nat → Nat := D.2.2.2.2.2.1
abbrev ddz (D : Dr) : Nat → Nat := D.2.2.2.2.2.2.1
abbrev dld (D : Dr) : Nat → Nat := D.2.2.2.2.2.2.2.1
abbrev dbr (D : Dr) : Nat → Nat := D.2.2.2.2.2.2.2.2.1
abbrev dtb (D : Dr) : Nat → Int32 := D.2.2.2.2.2.2.2.2.2.1
abbrev dtm (D : Dr) : Nat := D.2.2.2.2.2.2.2.2.2.2.1
abbrev dom (D : Dr) : Nat := D.2.2.2.2.2.2.2.2.2.2.2.1
abbrev dvl (D : Dr) : Nat → Nat := D.2.2.2.2.2.2.2.2.2.2.2.2.1
abbrev dps (D : Dr) : List (Nat × Nat) := D.2.2.2.2.2.2.2.2.2.2.2.2.2.1
abbrev dun (D : Dr) : Nat := D.2.2.2.2.2.2.2.2.2.2.2.2.2.2
def D0 : Dr := (0, 0, 0, 0, fun _ => [], fun _ => 0, fun _ => 0, fun _ => 0, fun _ => 0, fun _ => 0, 0, 0, fun k => if k = 4 then 8 else if k = 5 then 1 else 0, [], 0)
def aDeed (D : Dr) (l : List Nat) : Dr := (dD D + 1, dP D, dT D, dC D, up1 (dnm D) (dD D) l, dsm D, ddz D, dld D, dbr D, dtb D, dtm D, dom D, dvl D, dps D, dun D)
def aPlace (D : Dr) (l : List Nat) (v e : Nat) : Dr := (dD D, dP D + 1, dT D, dC D, up1 (dnm D) (4 + dP D) l, up1 (dsm D) (dP D) v, up1 (ddz D) (dP D) e, dld D, dbr D, dtb D, dtm D, dom D, dvl D, dps D, dun D)
def aPath (D : Dr) (p q : Nat) : Dr := (dD D, dP D, dT D + 1, dC D, dnm D, dsm D, ddz D, up1 (up1 (dld D) p (dld D p ||| 2 ^ q)) q (dld D q ||| 2 ^ p), dbr D, dtb D, dtm D, dom D, dvl D, dps D, dun D)
def aCase (D : Dr) (l : List Nat) (v : Nat) : Dr := (dD D, dP D, dT D, dC D + 1, up1 (dnm D) (12 + dC D) l, dsm D, ddz D, dld D, up1 (dbr D) (dC D) v, dtb D, dtm D, dom D, dvl D, dps D, dun D)
def aWhen (D : Dr) (k : Nat) (v : Int32) : Dr := (dD D, dP D, dT D, dC D, dnm D, dsm D, ddz D, dld D, dbr D, up1 (dtb D) k v, dtm D ||| 2 ^ k, dom D, dvl D, dps D, dun D)
def aOnce (D : Dr) (i k v : Nat) : Dr := (dD D, dP D, dT D, dC D, dnm D, dsm D, ddz D, dld D, dbr D, dtb D, dtm D, dom D ||| 2 ^ i, up1 (dvl D) k v, dps D, dun D)
def aPull (D : Dr) (P : List (Nat × Nat)) (U : Nat) : Dr := (dD D, dP D, dT D, dC D, dnm D, dsm D, ddz D, dld D, dbr D, dtb D, dtm D, dom D ||| 2 ^ 5, dvl D, P, U)
abbrev Out (α : Type) : Type := (Nat × Nat) ⊕ (α × Nat)
def bnd {α β : Type} (x : Out α) (k : α → Nat → Out β) : Out β := match x with
  | .inl e => .inl e
  | .inr q => k q.1 q.2
abbrev isW (t : Tk) (i : Nat) : Prop := ts t = 1 ∧ tl t = OW i
def fnd (N : Nat → List Nat) (l : List Nat) : Nat → Option Nat
  | 0 => none
  | m + 1 => if N m = l then some m else fnd N l m
def dif (N : Nat → List Nat) (m : Nat) : Prop := ∀ i j, i < m → j < m → N i = N j → i = j
theorem fnd_1 {N : Nat → List Nat} {l : List Nat} {i : Nat} : ∀ m, dif N m → i < m → N i = l → fnd N l m = some i
  | 0, _, h, _ => absurd h (Nat.not_lt_zero i)
  | m + 1, hd, h, e => by
    show (if N m = l then some m else fnd N l m) = some i
    by_cases c : N m = l
    · rw [if_pos c, hd m i (Nat.lt_succ_self m) h (c.trans e.symm)]
    · rw [if_neg c]
      have : i ≠ m := fun z => c (by rw [← z]; exact e)
      exact fnd_1 m (fun x y hx hy => hd x y (by omega) (by omega)) (by omega) e
theorem fnd_0 {N : Nat → List Nat} {l : List Nat} : ∀ m, (∀ i, i < m → N i ≠ l) → fnd N l m = none
  | 0, _ => rfl
  | m + 1, h => by
    show (if N m = l then some m else fnd N l m) = none
    rw [if_neg (h m (Nat.lt_succ_self m))]
    exact fnd_0 m (fun i hi => h i (by omega))
variable (b : Nat → Int32)
/-- a FAULT of kind w at the token from a on -/
def flt {α : Type} (w a : Nat) : Out α := .inl (ftw (tk b a) w, tp (tk b a))
noncomputable def rdW (i a : Nat) : Out Unit := cI (isW (tk b a) i) (.inr ((), te (tk b a))) (flt b 2 a)
noncomputable def rdS (k a : Nat) : Out Unit := cI (ts (tk b a) = k) (.inr ((), te (tk b a))) (flt b 2 a)
noncomputable def rdN (lo up a : Nat) : Out Nat := cI (ts (tk b a) = 2) (cI (lo ≤ tv (tk b a) ∧ tv (tk b a) ≤ up) (.inr (tv (tk b a), te (tk b a))) (flt b 4 a)) (flt b 2 a)
noncomputable def rdA (N : Nat → List Nat) (m a : Nat) : Out (List Nat) := cI (isNm (tk b a)) (cI (∃ i, i < m ∧ N i = tl (tk b a)) (flt b 3 a) (.inr (tl (tk b a), te (tk b a)))) (flt b 2 a)
/-- the name's number; not yet behind it -/
noncomputable def rdO (N : Nat → List Nat) (m a : Nat) : Out Nat := cI (isNm (tk b a)) (match fnd N (tl (tk b a)) m with
  | some i => .inr (i, a)
  | none => flt b 5 a) (flt b 2 a)
noncomputable def rdV (a : Nat) : Out Int32 := cI (ts (tk b a) = 45) (cI (ts (tk b (te (tk b a))) = 2) (cI (tv (tk b (te (tk b a))) ≤ 3) (.inr (-(nI (tv (tk b (te (tk b a))))), te (tk b (te (tk b a))))) (.inl (4, tp (tk b a)))) (flt b 2 (te (tk b a)))) (cI (ts (tk b a) = 2) (cI (tv (tk b a) ≤ 3) (.inr (nI (tv (tk b a)), te (tk b a))) (.inl (4, tp (tk b a)))) (flt b 2 a))
noncomputable def lDeed (D : Dr) (a : Nat) : Out Dr := cI (dD D < 4) (bnd (rdA b (dnm D) (dD D) (te (tk b a))) fun l a => bnd (rdS b 59 a) fun _ a => .inr (aDeed D l, a)) (flt b 2 a)
noncomputable def lPlace (D : Dr) (a : Nat) : Out Dr := cI (dP D < 8) (bnd (rdA b (fun i => dnm D (4 + i)) (dP D) (te (tk b a))) fun l a => bnd (rdW b 11 a) fun _ a => bnd (rdN b 0 9 a) fun v a => bnd (rdW b 12 a) fun _ a => bnd (rdO b (dnm D) (dD D) a) fun e a => bnd (rdS b 59 (te (tk b a))) fun _ a => .inr (aPlace D l v e, a)) (flt b 2 a)
noncomputable def lPath (D : Dr) (a : Nat) : Out Dr := cI (dT D < 16) (bnd (rdO b (fun i => dnm D (4 + i)) (dP D) (te (tk b a))) fun p a => bnd (rdW b 13 (te (tk b a))) fun _ a => bnd (rdO b (fun i => dnm D (4 + i)) (dP D) a) fun q a => cI (p = q ∨ (dld D p).testBit q = true) (flt b 3 a) (bnd (rdS b 59 (te (tk b a))) fun _ a => .inr (aPath D p q, a))) (flt b 2 a)
noncomputable def lCase (D : Dr) (a : Nat) : Out Dr := cI (dC D < 4) (bnd (rdA b (fun i => dnm D (12 + i)) (dC D) (te (tk b a))) fun l a => bnd (rdW b 14 a) fun _ a => bnd (rdN b 1 15 a) fun v a => bnd (rdS b 59 a) fun _ a => .inr (aCase D l v, a)) (flt b 2 a)
noncomputable def lWhen (D : Dr) (a : Nat) : Out Dr := cI (bc (dtm D) 16 < 16) (bnd (rdO b (dnm D) (dD D) (te (tk b a))) fun e a => bnd (rdO b (fun i => dnm D (12 + i)) (dC D) (te (tk b a))) fun c a => cI ((dtm D).testBit (4 * e + c) = true) (flt b 3 a) (bnd (rdV b (te (tk b a))) fun v a => bnd (rdS b 59 a) fun _ a => .inr (aWhen D (4 * e + c) v, a))) (flt b 2 a)
noncomputable def lStart (D : Dr) (a : Nat) : Out Dr := cI ((dom D).testBit 8 = false) (bnd (rdO b (fun i => dnm D (4 + i)) (dP D) (te (tk b a))) fun p a => bnd (rdS b 59 (te (tk b a))) fun _ a => .inr (aOnce D 8 6 p, a)) (flt b 2 a)
/-- a line with one number -/
noncomputable def lNum (D : Dr) (i k lo up a : Nat) : Out Dr := cI ((dom D).testBit i = false) (bnd (rdN b lo up (te (tk b a))) fun v a => bnd (rdS b 59 a) fun _ a => .inr (aOnce D i k v, a)) (flt b 2 a)
/-- what a parse comes to -/
theorem rdW_1 {i a : Nat} (h : isW (tk b a) i) : rdW b i a = .inr ((), te (tk b a)) := cI_1 h
theorem rdW_0 {i a : Nat} (h : ¬ isW (tk b a) i) : rdW b i a = flt b 2 a := cI_0 h
theorem rdS_1 {i a : Nat} (h : ts (tk b a) = i) : rdS b i a = .inr ((), te (tk b a)) := cI_1 h
theorem rdS_0 {i a : Nat} (h : ¬ ts (tk b a) = i) : rdS b i a = flt b 2 a := cI_0 h
theorem rdN_1 {lo up a : Nat} (h : ts (tk b a) = 2) (h1 : lo ≤ tv (tk b a)) (h2 : tv (tk b a) ≤ up) : rdN b lo up a = .inr (tv (tk b a), te (tk b a)) := by
  unfold rdN
  rw [cI_1 h, cI_1 ⟨h1, h2⟩]
theorem rdN_0 {lo up a w : Nat} (h : (ts (tk b a) = 2 ∧ ¬ (lo ≤ tv (tk b a) ∧ tv (tk b a) ≤ up) ∧ w = 4) ∨ (¬ ts (tk b a) = 2 ∧ w = 2)) : rdN b lo up a = flt b w a := by
  unfold rdN
  rcases h with ⟨h1, h2, rfl⟩ | ⟨h1, rfl⟩
  · rw [cI_1 h1, cI_0 h2]
  · rw [cI_0 h1]
theorem rdA_1 {N : Nat → List Nat} {m a : Nat} (h : isNm (tk b a)) (h1 : ∀ i, i < m → N i ≠ tl (tk b a)) : rdA b N m a = .inr (tl (tk b a), te (tk b a)) := by
  unfold rdA
  rw [cI_1 h, cI_0 (fun ⟨i, hi, e⟩ => h1 i hi e)]
theorem rdA_0 {N : Nat → List Nat} {m a w : Nat} (h : (¬ isNm (tk b a) ∧ w = 2) ∨ (isNm (tk b a) ∧ (∃ i, i < m ∧ N i = tl (tk b a)) ∧ w = 3)) : rdA b N m a = flt b w a := by
  unfold rdA
  rcases h with ⟨h1, rfl⟩ | ⟨h1, h2, rfl⟩
  · rw [cI_0 h1]
  · rw [cI_1 h1, cI_1 h2]
theorem rdO_1 {N : Nat → List Nat} {m a i : Nat} (hd : dif N m) (h : isNm (tk b a)) (h1 : i < m) (h2 : N i = tl (tk b a)) : rdO b N m a = .inr (i, a) := by
  unfold rdO
  rw [cI_1 h, fnd_1 m hd h1 h2]
theorem rdO_0 {N : Nat → List Nat} {m a w : Nat} (h : (¬ isNm (tk b a) ∧ w = 2) ∨ (isNm (tk b a) ∧ (∀ i, i < m → N i ≠ tl (tk b a)) ∧ w = 5)) : rdO b N m a = flt b w a := by
  unfold rdO
  rcases h with ⟨h1, rfl⟩ | ⟨h1, h2, rfl⟩
  · rw [cI_0 h1]
  · rw [cI_1 h1, fnd_0 m h2]
end VDR
