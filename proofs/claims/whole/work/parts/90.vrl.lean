/-! ===== village: the reference's lines ===== -/
section VRL
variable {d : Nat} {Q : am_Q} {hi hi' : Nat → Nat → Int32} {hl hl' : Nat → Nat → Int64} {sw : Bool} {kp : Nat → Nat} {n a : Nat} {f : Nat → Int32} {D : Dr}
abbrev NRf (j : Nat) : Prop := (2 ≤ j ∧ j ≤ 9) ∨ j = 17 ∨ j = 19 ∨ j = 20 ∨ j = 22 ∨ j = 23 ∨ (35 ≤ j ∧ j ≤ 44) ∨ (52 ≤ j ∧ j ≤ 57)
abbrev NRc (c j : Nat) : Prop := (c = 279 ∧ NRf j) ∨ c = 282 ∨ c = 283 ∨ c = 286 ∨ (289 ≤ c ∧ c ≤ 293)
/-- the reference's cells that a telling may change -/
def RF (hi' hi : Nat → Nat → Int32) (hl' hl : Nat → Nat → Int64) : Prop := (∀ c j, ¬ NRc c j → hi' c j = hi c j) ∧ ∀ c, c ≠ 279 → c ≠ 281 → hl' c = hl c
theorem RF.rf : RF hi hi hl hl := ⟨fun _ _ _ => rfl, fun _ _ _ => rfl⟩
theorem RF.tr {hj : Nat → Nat → Int32} {hm : Nat → Nat → Int64} (h : RF hi' hi hl' hl) (e : RF hj hi' hm hl') : RF hj hi hm hl := ⟨fun c j q => (e.1 c j q).trans (h.1 c j q), fun c q1 q2 => (e.2 c q1 q2).trans (h.2 c q1 q2)⟩
theorem RF.fr {hj : Nat → Nat → Int32} {hm : Nat → Nat → Int64} (h : RF hi' hi hl' hl) (e : FR hj hi' hm hl') : RF hj hi hm hl := ⟨fun c j q => (e.1 c j (by omega)).trans (h.1 c j q), fun c q1 q2 => by
  rw [← h.2 c q1 q2]
  funext j
  exact e.2 c j (by omega)⟩
theorem RF.u {k j : Nat} {x : Int32} (h : RF hi' hi hl' hl) (hk : NRc k j) : RF (u2 hi' k j x) hi hl' hl := ⟨fun c i q => by
  rw [u2_nn (fun z => q (by rw [z.1, z.2]; exact hk))]
  exact h.1 c i q, h.2⟩
theorem RF.l {j : Nat} {x : Int64} (h : RF hi' hi hl' hl) : RF hi' hi (u2 hl' 281 j x) hl := ⟨h.1, fun c q1 q2 => by rw [u2_row_ne q2]; exact h.2 c q1 q2⟩
theorem MS.cg (h : MS n f a hi hl) (e1 : ∀ j, 2 ≤ j → j ≤ 9 → hi' 279 j = hi 279 j) (e2 : hi' 280 = hi 280) (e3 : hl' 279 9 = hl 279 9) : MS n f a hi' hl' := by
  obtain ⟨h1, h2, h3, h4, h5, h6, h7⟩ := h
  refine ⟨h1, e2.trans h2, h3, (e1 5 (by decide) (by decide)).trans h4, (e1 2 (by decide) (by decide)).trans h5, ?_, h7⟩
  unfold RTk RT at h6 ⊢
  rw [e3, e1 4 (by decide) (by decide), e1 6 (by decide) (by decide), e1 7 (by decide) (by decide), e1 8 (by decide) (by decide)]
  exact h6
theorem MS.u {k j : Nat} {x : Int32} (h : MS n f a hi hl) (hk : k ≠ 280 ∧ ¬ (k = 279 ∧ 2 ≤ j ∧ j ≤ 9)) : MS n f a (u2 hi k j x) hl := h.cg (fun i a1 a2 => u2_nn (fun z => hk.2 ⟨z.1.symm, by omega, by omega⟩)) (u2_row_ne (fun z => hk.1 z.symm)) rfl
/-- a FAULT stands -/
def FL (e : Nat × Nat) (hi : Nat → Nat → Int32) : Prop := hi 279 2 = nI e.1 ∧ hi 279 3 = nI e.2 ∧ 0 < e.1 ∧ e.1 < 100
theorem FL.le {e : Nat × Nat} (h : FL e hi) : ¬ hi 279 2 ≤ 0 := by
  rw [h.1]
  exact nI_ge (a := 0) h.2.2.1 (by have := h.2.2.2; omega)
theorem FL.ne {e : Nat × Nat} (h : FL e hi) : ¬ hi 279 2 = 0 := by
  rw [h.1]
  exact nI_ne0 h.2.2.1 (by have := h.2.2.2; omega)
theorem FL.u {e : Nat × Nat} {k j : Nat} {x : Int32} (h : FL e hi) (hk : ¬ (k = 279 ∧ (j = 2 ∨ j = 3))) : FL e (u2 hi k j x) := ⟨by rw [u2_nn (by omega)]; exact h.1, by rw [u2_nn (by omega)]; exact h.2.1, h.2.2⟩
theorem FL.mk {t : Tk} {w : Nat} (h1 : 0 < w) (h2 : w < 100) : FL (ftw t w, tp t) (u2 (u2 hi 279 2 (nI (ftw t w))) 279 3 (nI (tp t))) := by
  refine ⟨by rw [u2_nn (by decide), u2_s], u2_s, ?_⟩
  show 0 < ftw t w ∧ ftw t w < 100
  unfold ftw
  by_cases c : ts t = 3
  · rw [if_pos c]; decide
  · rw [if_neg c]; exact ⟨h1, h2⟩
/-- the reference's formula -/
def RP (P : List (Nat × Nat)) (U : Nat) (hi : Nat → Nat → Int32) : Prop := hi 279 17 = nI P.length ∧ hi 279 20 = nI U ∧ ∀ j x, P[j]? = some x → hi 282 j = nI x.1 ∧ hi 283 j = nI x.2
def tbv (D : Dr) (k : Nat) : Int32 := if (dtm D).testBit k = true then dtb D k else -1000000
def onv (D : Dr) (i : Nat) : Int32 := if (dom D).testBit i = true then 1 else 0
/-- the reference's draft -/
def RI (D : Dr) (hi : Nat → Nat → Int32) : Prop :=
  (hi 279 35 = nI (dD D) ∧ hi 279 36 = nI (dP D) ∧ hi 279 37 = nI (dT D) ∧ hi 279 38 = nI (dC D) ∧ hi 279 39 = nI (bc (dtm D) 16) ∧ ∀ k, 4 ≤ k → k ≤ 8 → hi 279 (36 + k) = nI (dvl D k)) ∧ (∀ p, p < dP D → hi 289 p = nI (dsm D p) ∧ hi 290 p = nI (ddz D p) ∧ hi 291 p = nI (dld D p)) ∧ (∀ c, c < dC D → hi 292 c = nI (dbr D c)) ∧ (∀ e c, e < dD D → c < 4 → hi 293 (4 * e + c) = tbv D (4 * e + c)) ∧ (∀ i, 5 ≤ i → i ≤ 10 → hi 279 (47 + i) = onv D i) ∧ RP (dps D) (dun D) hi
abbrev nmd (D : Dr) (i : Nat) : Prop := i < dD D ∨ (4 ≤ i ∧ i < 4 + dP D) ∨ (12 ≤ i ∧ i < 12 + dC D)
def RN (D : Dr) (hl : Nat → Nat → Int64) : Prop := ∀ i, nmd D i → hl 281 i = lN (w8 (dnm D i))
theorem RP.cg {P : List (Nat × Nat)} {U : Nat} (h : RP P U hi) (e1 : hi' 279 17 = hi 279 17) (e2 : hi' 279 20 = hi 279 20) (e3 : hi' 282 = hi 282) (e4 : hi' 283 = hi 283) : RP P U hi' := ⟨e1.trans h.1, e2.trans h.2.1, fun j x q => by rw [e3, e4]; exact h.2.2 j x q⟩
/-- all but some cells as before -/
theorem RI.cg (h : RI D hi) (e1 : ∀ j, j = 17 ∨ j = 20 ∨ (35 ≤ j ∧ j ≤ 44) ∨ (52 ≤ j ∧ j ≤ 57) → hi' 279 j = hi 279 j) (e2 : ∀ c, c = 282 ∨ c = 283 ∨ (289 ≤ c ∧ c ≤ 293) → hi' c = hi c) : RI D hi' := by
  obtain ⟨⟨h0, h1, h2, h3, h4, h5⟩, h6, h7, h8, h9, h10⟩ := h
  refine ⟨⟨?_, ?_, ?_, ?_, ?_, fun k k1 k2 => ?_⟩, ?_, ?_, ?_, fun i i1 i2 => ?_, h10.cg (e1 17 (by omega)) (e1 20 (by omega)) (e2 282 (by omega)) (e2 283 (by omega))⟩
  · rw [e1 35 (by omega)]; exact h0
  · rw [e1 36 (by omega)]; exact h1
  · rw [e1 37 (by omega)]; exact h2
  · rw [e1 38 (by omega)]; exact h3
  · rw [e1 39 (by omega)]; exact h4
  · rw [e1 (36 + k) (by omega)]; exact h5 k k1 k2
  · rw [e2 289 (by omega), e2 290 (by omega), e2 291 (by omega)]; exact h6
  · rw [e2 292 (by omega)]; exact h7
  · rw [e2 293 (by omega)]; exact h8
  · rw [e1 (47 + i) (by omega)]; exact h9 i i1 i2
theorem FR.row (h : FR hi' hi hl' hl) {c : Nat} (hc : c ≠ 279) : hi' c = hi c := by
  funext j
  exact h.1 c j (fun q => hc q.1)
theorem RI.fr (h : RI D hi) (e : FR hi' hi hl' hl) : RI D hi' := h.cg (fun j q => e.1 279 j (by omega)) (fun c q => e.row (by omega))
theorem RN.fr (h : RN D hl) (e : FR hi' hi hl' hl) : RN D hl' := fun i q => by rw [e.2 281 i (by omega)]; exact h i q
/-- the reference is telling -/
def RST (n : Nat) (f : Nat → Int32) (D : Dr) (a : Nat) (hi : Nat → Nat → Int32) (hl : Nat → Nat → Int64) : Prop := MS n f a hi hl ∧ RI D hi ∧ RN D hl ∧ hi 279 3 = -1
/-- a line up to its ';' -/
def RQ (n : Nat) (f : Nat → Int32) (o : Out Dr) (hi : Nat → Nat → Int32) (hl : Nat → Nat → Int64) : Prop := (∃ D' x, o = (bnd (rdS (byt n f) 59 x) fun _ y => .inr (D', y)) ∧ RST n f D' x hi hl) ∨ ∃ e, o = .inl e ∧ FL e hi
theorem FR.z3 (h : FR hi' hi hl' hl) (z : hi 279 3 = -1) : hi' 279 3 = -1 := by rw [h.1 279 3 (by omega)]; exact z
theorem DN.rd (h : DN D) (hN : RN D hl) : ∀ i, i < dD D → hl 281 (0 + i) = lN (w8 (dnm D i)) ∧ ltr (dnm D i) ∧ w8 (dnm D i) < 2 ^ 63 := fun i q => by
  rw [Nat.zero_add]
  exact ⟨hN i (Or.inl q), (h.2 i (Or.inl q)).1, (h.2 i (Or.inl q)).2.2⟩
theorem DN.rp (h : DN D) (hN : RN D hl) : ∀ i, i < dP D → hl 281 (4 + i) = lN (w8 (dnm D (4 + i))) ∧ ltr (dnm D (4 + i)) ∧ w8 (dnm D (4 + i)) < 2 ^ 63 := fun i q => by
  have z : nmd D (4 + i) := Or.inr (Or.inl ⟨by omega, by omega⟩)
  exact ⟨hN _ z, (h.2 _ z).1, (h.2 _ z).2.2⟩
theorem DN.rc (h : DN D) (hN : RN D hl) : ∀ i, i < dC D → hl 281 (12 + i) = lN (w8 (dnm D (12 + i))) ∧ ltr (dnm D (12 + i)) ∧ w8 (dnm D (12 + i)) < 2 ^ 63 := fun i q => by
  have z : nmd D (12 + i) := Or.inr (Or.inr ⟨by omega, by omega⟩)
  exact ⟨hN _ z, (h.2 _ z).1, (h.2 _ z).2.2⟩
/-- with a FAULT nothing is read -/
theorem x175 {e : Nat × Nat} {x : Int64} (h : FL e hi) (w : Q none (mkH hi hl sw kp)) : cS (d + 2) 175 [.ref 279, .long x] (mkH hi hl sw kp) Q := e_175 (d := d) (fun z => absurd z h.le) (fun z => absurd z h.le) (fun _ => w)
theorem x176 {e : Nat × Nat} {x y : Int32} (h : FL e hi) (w : Q (some (.int 0)) (mkH hi hl sw kp)) : cS (d + 1) 176 [.ref 279, .int x, .int y] (mkH hi hl sw kp) Q := e_176 (fun z => absurd z h.le) (fun z => absurd z h.le) (fun z => absurd z h.le) (fun z => absurd z h.le) (fun _ => w)
theorem x177 {e : Nat × Nat} {x : Int64} {y z : Int32} (h : FL e hi) (w : Q (some (.int 0)) (mkH hi hl sw kp)) : cS (d + 3) 177 [.ref 279, .long x, .int y, .int z] (mkH hi hl sw kp) Q := e_177 (x175 (d := d) h (k_177_5 (x176 (d := d + 1) h (k_177_12 w))))
theorem x180 {e : Nat × Nat} {x y : Int32} (h : FL e hi) (w : Q (some (.int 0)) (mkH hi hl sw kp)) : cS (d + 3) 180 [.ref 279, .int x, .int y] (mkH hi hl sw kp) Q := e_180 (d := d) (fun z => absurd z h.le) (fun z => absurd z h.le) (fun _ => w)
/-- told: a word and a number -/
theorem f177 {i lo up : Nat} (hi21 : i < 21) (hlo : lo < 2 ^ 20) (hup : up < 2 ^ 20) (h : MS n f a hi hl) (w1 : isW (tk (byt n f) a) i → ts (tk (byt n f) (te (tk (byt n f) a))) = 2 → lo ≤ tv (tk (byt n f) (te (tk (byt n f) a))) → tv (tk (byt n f) (te (tk (byt n f) a))) ≤ up → ∀ (hi' : Nat → Nat → Int32) (hl' : Nat → Nat → Int64), MS n f (te (tk (byt n f) (te (tk (byt n f) a)))) hi' hl' → FR hi' hi hl' hl → Q (some (.int (nI (tv (tk (byt n f) (te (tk (byt n f) a))))))) (mkH hi' hl' sw kp)) (w0 : ∀ e x (hi' : Nat → Nat → Int32) (hl' : Nat → Nat → Int64), ((∀ k : Unit → Nat → Out Dr, bnd (rdW (byt n f) i a) k = .inl e) ∨ (isW (tk (byt n f) a) i ∧ ∀ k : Nat → Nat → Out Dr, bnd (rdN (byt n f) lo up (te (tk (byt n f) a))) k = .inl e)) → FL e hi' → RF hi' hi hl' hl → Q (some (.int x)) (mkH hi' hl' sw kp)) : cS (d + 4) 177 [.ref 279, .long (lN (w8 (OW i))), .int (nI lo), .int (nI up)] (mkH hi hl sw kp) Q := by
  refine e_177 (d := d + 3) (f175 (d := d) hi21 h (fun y1 y2 hi1 hl1 m1 q1 => k_177_5 (f176 (d := d) hlo hup (Nat.lt_trans tk_v (by decide)) m1 (fun z1 z2 z3 hi2 hl2 m2 q2 => k_177_12 (w1 ⟨y1, y2⟩ z1 z2 z3 hi2 hl2 m2 ?_)) (fun w x z => k_177_12 (w0 (ftw (tk (byt n f) (te (tk (byt n f) a))) w, tp (tk (byt n f) (te (tk (byt n f) a)))) x _ _ (Or.inr ⟨⟨y1, y2⟩, fun k => by rw [rdN_0 _ z]; rfl⟩) (FL.mk ?_ ?_) (((RF.rf.fr q1).u (by decide)).u (by decide)))))) (fun z => k_177_5 (x176 (d := d + 2) (FL.mk (t := tk (byt n f) a) (w := 2) (by decide) (by decide)) (k_177_12 (w0 (ftw (tk (byt n f) a) 2, tp (tk (byt n f) a)) 0 _ _ (Or.inl (fun k => by rw [rdW_0 _ z]; rfl)) (FL.mk (by decide) (by decide)) ((RF.rf.u (by decide)).u (by decide)))))))
  · exact ⟨fun c j y => (q2.1 c j y).trans (q1.1 c j y), fun c j y => (q2.2 c j y).trans (q1.2 c j y)⟩
  · rcases z with ⟨_, _, rfl⟩ | ⟨_, rfl⟩ <;> decide
  · rcases z with ⟨_, _, rfl⟩ | ⟨_, rfl⟩ <;> decide
theorem FR.tr {hj : Nat → Nat → Int32} {hm : Nat → Nat → Int64} (h : FR hi' hi hl' hl) (e : FR hj hi' hm hl') : FR hj hi hm hl := ⟨fun c j y => (e.1 c j y).trans (h.1 c j y), fun c j y => (e.2 c j y).trans (h.2 c j y)⟩
/-- one name more -/
theorem RN.deed {l : List Nat} (hd : dD D < 4) (hp : dP D ≤ 8) (h : RN D hl) : RN (aDeed D l) (u2 hl 281 (0 + dD D) (lN (w8 l))) := fun i q => by
  show u2 hl 281 (0 + dD D) (lN (w8 l)) 281 i = lN (w8 (up1 (dnm D) (dD D) l i))
  rw [Nat.zero_add]
  by_cases c : i = dD D
  · rw [c, u2_s, up1_s]
  · rw [u2_nn (fun z => c z.2), up1_n c]
    have q2 : i < dD D + 1 ∨ (4 ≤ i ∧ i < 4 + dP D) ∨ (12 ≤ i ∧ i < 12 + dC D) := q
    exact h i (by omega)
theorem RN.place {l : List Nat} {v e : Nat} (hd : dD D ≤ 4) (hp : dP D < 8) (h : RN D hl) : RN (aPlace D l v e) (u2 hl 281 (4 + dP D) (lN (w8 l))) := fun i q => by
  show u2 hl 281 (4 + dP D) (lN (w8 l)) 281 i = lN (w8 (up1 (dnm D) (4 + dP D) l i))
  by_cases c : i = 4 + dP D
  · rw [c, u2_s, up1_s]
  · rw [u2_nn (fun z => c z.2), up1_n c]
    have q2 : i < dD D ∨ (4 ≤ i ∧ i < 4 + (dP D + 1)) ∨ (12 ≤ i ∧ i < 12 + dC D) := q
    exact h i (by omega)
theorem RN.case {l : List Nat} {v : Nat} (h : RN D hl) : RN (aCase D l v) (u2 hl 281 (12 + dC D) (lN (w8 l))) := fun i q => by
  show u2 hl 281 (12 + dC D) (lN (w8 l)) 281 i = lN (w8 (up1 (dnm D) (12 + dC D) l i))
  by_cases c : i = 12 + dC D
  · rw [c, u2_s, up1_s]
  · rw [u2_nn (fun z => c z.2), up1_n c]
    have q2 : i < dD D ∨ (4 ≤ i ∧ i < 4 + dP D) ∨ (12 ≤ i ∧ i < 12 + (dC D + 1)) := q
    exact h i (by omega)
end VRL
