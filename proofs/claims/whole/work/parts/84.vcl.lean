/-! ===== village: the class's lines ===== -/
section VCL
variable {d : Nat} {Q : am_Q} {hi hi' : Nat → Nat → Int32} {hl hl' : Nat → Nat → Int64} {sw : Bool} {kp : Nat → Nat} {n a : Nat} {f : Nat → Int32} {D : Dr}
theorem nIlt {x y : Nat} (hx : x < 2 ^ 31) (hy : y < 2 ^ 31) : nI x < nI y ↔ x < y := by
  constructor
  · intro q
    rcases Nat.lt_or_ge x y with z | z
    · exact z
    · exact absurd q (nI_nlt z hx)
  · intro q
    exact nI_lt q hy
def DN (D : Dr) : Prop := (dif (dnm D) (dD D) ∧ dif (fun i => dnm D (4 + i)) (dP D) ∧ dif (fun i => dnm D (12 + i)) (dC D)) ∧ (∀ i, i < dD D ∨ (4 ≤ i ∧ i < 4 + dP D) ∨ (12 ≤ i ∧ i < 12 + dC D) → ltr (dnm D i) ∧ w5 (dnm D i) < 2 ^ 62 ∧ w8 (dnm D i) < 2 ^ 63)
/-- a draft as it can be -/
def DW (D : Dr) : Prop := (dD D ≤ 4 ∧ dP D ≤ 8 ∧ dT D ≤ 16 ∧ dC D ≤ 4) ∧ DN D ∧ (∀ p, p < dP D → ddz D p < dD D) ∧ (∀ p, dld D p < 256) ∧ (∀ p, dP D ≤ p → dld D p = 0) ∧ (∀ c, c < dC D → 1 ≤ dbr D c ∧ dbr D c ≤ 15) ∧ (∀ k, -3 ≤ (dtb D k).toInt ∧ (dtb D k).toInt ≤ 3) ∧ (∀ k, (dtm D).testBit k = false → dtb D k = 0) ∧ dtm D < 65536 ∧ (∀ k, (dtm D).testBit k = true → k / 4 < dD D ∧ k % 4 < dC D) ∧ dom D < 65536 ∧ (1 ≤ dvl D 4 ∧ dvl D 4 ≤ 24 ∧ 1 ≤ dvl D 5 ∧ dvl D 5 ≤ 24 ∧ (dvl D 6 < dP D ∨ dvl D 6 = 0) ∧ dvl D 7 ≤ 99 ∧ dvl D 8 < 1000)
/-- the class's formula: these steps, so many units -/
def CPs (P : List (Nat × Nat)) (U : Nat) (hi : Nat → Nat → Int32) : Prop := hi 11 2 = nI P.length ∧ hi 11 3 = nI U ∧ ∀ j x, P[j]? = some x → hi 12 j = f_cnv (nI x.1) (nI x.2)
/-- the class's draft: its ints -/
def CI (D : Dr) (hi : Nat → Nat → Int32) : Prop :=
  (hi 5 0 = nI (dD D) ∧ hi 5 1 = nI (dP D) ∧ hi 5 2 = nI (dT D) ∧ hi 5 3 = nI (dC D) ∧ ∀ k, 4 ≤ k → k ≤ 8 → hi 5 k = nI (dvl D k)) ∧ (∀ p, p < dP D → hi 6 p = nI (dsm D p) ∧ hi 7 p = nI (ddz D p)) ∧ (∀ p, p < 8 → hi 8 p = nI (dld D p)) ∧ (∀ c, c < dC D → hi 9 c = nI (dbr D c)) ∧ (∀ k, k < 16 → hi 10 k = dtb D k) ∧ hi 14 6 = nI (dom D) ∧ hi 14 7 = nI (dtm D) ∧ CPs (dps D) (dun D) hi
/-- its names -/
def CN (D : Dr) (hl : Nat → Nat → Int64) : Prop := (∀ i, i < dD D → hl 15 i = lN (w5 (dnm D i))) ∧ (∀ i, i < dP D → hl 16 i = lN (w5 (dnm D (4 + i)))) ∧ ∀ i, i < dC D → hl 17 i = lN (w5 (dnm D (12 + i)))
theorem CPs.cg {P : List (Nat × Nat)} {U : Nat} (h : CPs P U hi) (e1 : hi' 11 = hi 11) (e2 : hi' 12 = hi 12) : CPs P U hi' := by
  obtain ⟨h1, h2, h3⟩ := h
  exact ⟨by rw [e1]; exact h1, by rw [e1]; exact h2, fun j x q => by rw [e2]; exact h3 j x q⟩
theorem CI.cg (h : CI D hi) (e : ∀ c, 5 ≤ c → c ≤ 14 → hi' c = hi c) : CI D hi' := by
  obtain ⟨⟨h0, h1, h2, h3, h4⟩, h5, h6, h7, h8, h9, h10, h14⟩ := h
  refine ⟨?_, ?_, ?_, ?_, ?_, ?_, ?_, h14.cg (e 11 (by decide) (by decide)) (e 12 (by decide) (by decide))⟩
  · rw [e 5 (by decide) (by decide)]
    exact ⟨h0, h1, h2, h3, h4⟩
  · rw [e 6 (by decide) (by decide), e 7 (by decide) (by decide)]
    exact h5
  · rw [e 8 (by decide) (by decide)]
    exact h6
  · rw [e 9 (by decide) (by decide)]
    exact h7
  · rw [e 10 (by decide) (by decide)]
    exact h8
  · rw [e 14 (by decide) (by decide)]
    exact h9
  · rw [e 14 (by decide) (by decide)]
    exact h10
theorem CN.cg (h : CN D hl) (e' : ∀ c, 15 ≤ c → c ≤ 17 → hl' c = hl c) : CN D hl' := by
  obtain ⟨h11, h12, h13⟩ := h
  unfold CN
  rw [e' 15 (by decide) (by decide), e' 16 (by decide) (by decide), e' 17 (by decide) (by decide)]
  exact ⟨h11, h12, h13⟩
theorem FT.row (h : FT hi' hi hl' hl) {c : Nat} (hc : c ≠ 3) : hi' c = hi c := by
  funext j
  exact h.1 c j (fun q => hc q.1)
theorem CI.ft (h : CI D hi) (e : FT hi' hi hl' hl) : CI D hi' := h.cg (fun c a1 a2 => e.row (by omega))
theorem CN.ft (h : CN D hl) (e : FT hi' hi hl' hl) : CN D hl' := h.cg (fun c a1 a2 => e.2 c (by omega))
theorem CI.ff (h : CI D hi) {x y : Int32} : CI D (u2 (u2 hi 3 7 x) 3 8 y) := h.cg (fun c a1 a2 => by rw [u2_row_ne (by omega), u2_row_ne (by omega)])
/-- one name more -/
theorem CN.deed {l : List Nat} (hd : dD D < 4) (h : CN D hl) : CN (aDeed D l) (u2 hl 15 (dD D) (lN (w5 l))) := by
  obtain ⟨h1, h2, h3⟩ := h
  refine ⟨fun i hi => ?_, fun i hi => ?_, fun i hi => ?_⟩
  · show u2 hl 15 (dD D) (lN (w5 l)) 15 i = lN (w5 (up1 (dnm D) (dD D) l i))
    by_cases c : i = dD D
    · rw [c, u2_s, up1_s]
    · rw [u2_nn (fun q => c q.2), up1_n c]
      have hi2 : i < dD D + 1 := hi
      exact h1 i (by omega)
  · show u2 hl 15 (dD D) (lN (w5 l)) 16 i = lN (w5 (up1 (dnm D) (dD D) l (4 + i)))
    rw [u2_nn (by omega), up1_n (by omega)]
    exact h2 i hi
  · show u2 hl 15 (dD D) (lN (w5 l)) 17 i = lN (w5 (up1 (dnm D) (dD D) l (12 + i)))
    rw [u2_nn (by omega), up1_n (by omega)]
    exact h3 i hi
theorem CN.place {l : List Nat} {v e : Nat} (hd : dD D ≤ 4) (hp : dP D < 8) (h : CN D hl) : CN (aPlace D l v e) (u2 hl 16 (dP D) (lN (w5 l))) := by
  obtain ⟨h1, h2, h3⟩ := h
  refine ⟨fun i hi => ?_, fun i hi => ?_, fun i hi => ?_⟩
  · show u2 hl 16 (dP D) (lN (w5 l)) 15 i = lN (w5 (up1 (dnm D) (4 + dP D) l i))
    have hi2 : i < dD D := hi
    rw [u2_nn (by omega), up1_n (by omega)]
    exact h1 i hi
  · show u2 hl 16 (dP D) (lN (w5 l)) 16 i = lN (w5 (up1 (dnm D) (4 + dP D) l (4 + i)))
    by_cases c : i = dP D
    · rw [c, u2_s, up1_s]
    · rw [u2_nn (fun q => c q.2), up1_n (by omega)]
      have hi2 : i < dP D + 1 := hi
      exact h2 i (by omega)
  · show u2 hl 16 (dP D) (lN (w5 l)) 17 i = lN (w5 (up1 (dnm D) (4 + dP D) l (12 + i)))
    rw [u2_nn (by omega), up1_n (by omega)]
    exact h3 i hi
theorem CN.case {l : List Nat} {v : Nat} (hd : dD D ≤ 4) (hp : dP D ≤ 8) (h : CN D hl) : CN (aCase D l v) (u2 hl 17 (dC D) (lN (w5 l))) := by
  obtain ⟨h1, h2, h3⟩ := h
  refine ⟨fun i hi => ?_, fun i hi => ?_, fun i hi => ?_⟩
  · show u2 hl 17 (dC D) (lN (w5 l)) 15 i = lN (w5 (up1 (dnm D) (12 + dC D) l i))
    have hi2 : i < dD D := hi
    rw [u2_nn (by omega), up1_n (by omega)]
    exact h1 i hi
  · show u2 hl 17 (dC D) (lN (w5 l)) 16 i = lN (w5 (up1 (dnm D) (12 + dC D) l (4 + i)))
    have hi2 : i < dP D := hi
    rw [u2_nn (by omega), up1_n (by omega)]
    exact h2 i hi
  · show u2 hl 17 (dC D) (lN (w5 l)) 17 i = lN (w5 (up1 (dnm D) (12 + dC D) l (12 + i)))
    by_cases c : i = dC D
    · rw [c, u2_s, up1_s]
    · rw [u2_nn (fun q => c q.2), up1_n (by omega)]
      have hi2 : i < dC D + 1 := hi
      exact h3 i (by omega)
/-- the class's cells that a telling may change -/
def CF (hi' hi : Nat → Nat → Int32) (hl' hl : Nat → Nat → Int64) : Prop := (∀ c, ¬ (3 ≤ c ∧ c ≤ 14) → hi' c = hi c) ∧ ∀ c, c ≠ 3 → ¬ (15 ≤ c ∧ c ≤ 17) → hl' c = hl c
theorem CF.rf : CF hi hi hl hl := ⟨fun _ _ => rfl, fun _ _ _ => rfl⟩
theorem CF.ft {hj : Nat → Nat → Int32} {hm : Nat → Nat → Int64} (h : CF hi' hi hl' hl) (e : FT hj hi' hm hl') : CF hj hi hm hl := ⟨fun c q => (e.row (by omega)).trans (h.1 c q), fun c q1 q2 => (e.2 c q1).trans (h.2 c q1 q2)⟩
theorem CF.u {k j : Nat} {x : Int32} (h : CF hi' hi hl' hl) (hk : 3 ≤ k ∧ k ≤ 14) : CF (u2 hi' k j x) hi hl' hl := ⟨fun c q => by rw [u2_row_ne (by omega)]; exact h.1 c q, h.2⟩
theorem CF.l {k j : Nat} {x : Int64} (h : CF hi' hi hl' hl) (hk : 15 ≤ k ∧ k ≤ 17) : CF hi' hi (u2 hl' k j x) hl := ⟨h.1, fun c q1 q2 => by rw [u2_row_ne (by omega)]; exact h.2 c q1 q2⟩
theorem CF.tr {hj : Nat → Nat → Int32} {hm : Nat → Nat → Int64} (h : CF hi' hi hl' hl) (e : CF hj hi' hm hl') : CF hj hi hm hl := ⟨fun c q => (e.1 c q).trans (h.1 c q), fun c q1 q2 => (e.2 c q1 q2).trans (h.2 c q1 q2)⟩
theorem RS.cg (h : RS n f a hi hl) (e1 : hi' 1 = hi 1) (e2 : hi' 2 = hi 2) (e3 : hi' 3 = hi 3) (e4 : hl' 3 = hl 3) (e5 : hl' 4 = hl 4) : RS n f a hi' hl' := by
  obtain ⟨⟨a1, a2, a3⟩, b1, c1, d1⟩ := h
  refine ⟨⟨a1, by rw [e1]; exact a2, by rw [e2]; exact a3⟩, by rw [e5]; exact b1, ?_, d1⟩
  unfold CTk CT at c1 ⊢
  rw [e3, e4]
  exact c1
theorem RS.u {k j : Nat} {x : Int32} (h : RS n f a hi hl) (hk : 4 ≤ k) : RS n f a (u2 hi k j x) hl := h.cg (u2_row_ne (by omega)) (u2_row_ne (by omega)) (u2_row_ne (by omega)) rfl rfl
/-- the class is telling: at this place, with this draft, no FAULT yet -/
def CST (n : Nat) (f : Nat → Int32) (D : Dr) (a : Nat) (hi : Nat → Nat → Int32) (hl : Nat → Nat → Int64) : Prop := RS n f a hi hl ∧ CI D hi ∧ CN D hl ∧ hi 3 7 = 0 ∧ hi 3 8 = -1
/-- a line's end -/
def CO (n : Nat) (f : Nat → Int32) (o : Out Dr) (r : Int32) (hi : Nat → Nat → Int32) (hl : Nat → Nat → Int64) : Prop := (∃ e, o = .inl e ∧ r = 0 ∧ hi 3 7 = nI e.1 ∧ hi 3 8 = nI e.2) ∨ ∃ q, o = .inr q ∧ r = 1 ∧ CST n f q.1 q.2 hi hl
theorem CO.ft {o : Out Dr} {w : Nat} (e : o = flt (byt n f) w a) : CO n f o 0 (u2 (u2 hi 3 7 (nI (ftw (tk (byt n f) a) w))) 3 8 (nI (tp (tk (byt n f) a)))) hl := Or.inl ⟨_, e, rfl, by rw [u2_nn (by decide), u2_s], u2_s⟩
theorem FT.z7 (h : FT hi' hi hl' hl) (z : hi 3 7 = 0) : hi' 3 7 = 0 := by rw [h.1 3 7 (by omega)]; exact z
theorem FT.z8 (h : FT hi' hi hl' hl) (z : hi 3 8 = -1) : hi' 3 8 = -1 := by rw [h.1 3 8 (by omega)]; exact z
/-- the last of a line: its ';' -/
theorem c_end {D' : Dr} {o : Out Dr} {a' : Nat} {hj : Nat → Nat → Int32} {hm : Nat → Nat → Int64} (h : CST n f D' a' hj hm) (E : o = bnd (rdS (byt n f) 59 a') fun _ x => .inr (D', x)) (F : CF hj hi hm hl) (w : ∀ r (hi' : Nat → Nat → Int32) (hl' : Nat → Nat → Int64), CO n f o r hi' hl' → CF hi' hi hl' hl → Q (some (.int r)) (mkH hi' hl' sw kp)) : cS (d + 5) 71 [.ref 3, .int 59] (mkH hj hm sw kp) Q := by
  obtain ⟨hR, hC, hN, z7, z8⟩ := h
  have h59 : hj 3 2 = 59 ↔ ts (tk (byt n f) a') = 59 := hR.sg (k := 59) (by decide) (by decide)
  refine f71 (d := d) hR (by decide) (fun c hi2 hl2 r2 q2 => ?_) (fun c => ?_)
  · rw [rdS_1 _ (h59.mp c)] at E
    exact w 1 hi2 hl2 (Or.inr ⟨_, E, rfl, r2, hC.ft q2, hN.ft q2, q2.z7 z7, q2.z8 z8⟩) (F.ft q2)
  · rw [rdS_0 _ (fun z => c (h59.mpr z))] at E
    exact w 0 _ _ (CO.ft E) ((F.u (by decide)).u (by decide))
theorem CO.r {o : Out Dr} {r : Int32} (h : CO n f o r hi hl) : r = 0 ∨ r = 1 := by
  rcases h with ⟨_, _, h, _⟩ | ⟨_, _, h, _⟩
  · exact Or.inl h
  · exact Or.inr h
theorem DN.na (h : DN D) {hl : Nat → Nat → Int64} (hN : CN D hl) : ∀ i, i < dD D → hl 15 i = lN (w5 (dnm D i)) ∧ ltr (dnm D i) ∧ w5 (dnm D i) < 2 ^ 62 := fun i q => ⟨hN.1 i q, (h.2 i (Or.inl q)).1, (h.2 i (Or.inl q)).2.1⟩
theorem DN.nb (h : DN D) {hl : Nat → Nat → Int64} (hN : CN D hl) : ∀ i, i < dP D → hl 16 i = lN (w5 (dnm D (4 + i))) ∧ ltr (dnm D (4 + i)) ∧ w5 (dnm D (4 + i)) < 2 ^ 62 := fun i q => ⟨hN.2.1 i q, (h.2 (4 + i) (Or.inr (Or.inl ⟨by omega, by omega⟩))).1, (h.2 (4 + i) (Or.inr (Or.inl ⟨by omega, by omega⟩))).2.1⟩
theorem DN.nc (h : DN D) {hl : Nat → Nat → Int64} (hN : CN D hl) : ∀ i, i < dC D → hl 17 i = lN (w5 (dnm D (12 + i))) ∧ ltr (dnm D (12 + i)) ∧ w5 (dnm D (12 + i)) < 2 ^ 62 := fun i q => ⟨hN.2.2 i q, (h.2 (12 + i) (Or.inr (Or.inr ⟨by omega, by omega⟩))).1, (h.2 (12 + i) (Or.inr (Or.inr ⟨by omega, by omega⟩))).2.1⟩
theorem CI.deed {l : List Nat} (h : CI D hi) : CI (aDeed D l) (u2 hi 5 0 (hi 5 0 + 1)) := by
  obtain ⟨⟨h0, h1, h2, h3, h4⟩, h5, h6, h7, h8, h9, h10, h14⟩ := h
  refine ⟨⟨?_, ?_, ?_, ?_, fun k k1 k2 => ?_⟩, ?_, ?_, ?_, ?_, ?_, ?_, h14.cg (u2_row_ne (by decide)) (u2_row_ne (by decide))⟩
  · rw [u2_s, h0]
    exact (nI_succ _).symm
  · rw [u2_nn (by decide)]; exact h1
  · rw [u2_nn (by decide)]; exact h2
  · rw [u2_nn (by decide)]; exact h3
  · rw [u2_nn (by omega)]; exact h4 k k1 k2
  · rw [u2_row_ne (by decide), u2_row_ne (by decide)]; exact h5
  · rw [u2_row_ne (by decide)]; exact h6
  · rw [u2_row_ne (by decide)]; exact h7
  · rw [u2_row_ne (by decide)]; exact h8
  · rw [u2_row_ne (by decide)]; exact h9
  · rw [u2_row_ne (by decide)]; exact h10
/-- deed -/
theorem f92 (hS : CST n f D a hi hl) (hw : isW (tk (byt n f) a) 0) (hW : DW D) (w : ∀ r (hi' : Nat → Nat → Int32) (hl' : Nat → Nat → Int64), CO n f (lDeed (byt n f) D a) r hi' hl' → CF hi' hi hl' hl → Q (some (.int r)) (mkH hi' hl' sw kp)) : cS (d + 6) 92 [.ref 14] (mkH hi hl sw kp) Q := by
  obtain ⟨hR, hC, hN, z7, z8⟩ := hS
  obtain ⟨⟨w1, w2, w3, w4⟩, hDN, hW'⟩ := hW
  have e0 : hi 5 0 = nI (dD D) := hC.1.1
  refine e_92 (d := d + 5) ?_ ?_ <;> rw [e0]
  · intro c
    have hd : dD D < 4 := (nIlt (y := 4) (by omega) (by decide)).mp c
    have E0 : lDeed (byt n f) D a = _ := cI_1 hd
    refine f67r (d := d + 1) hR (by rw [hw.1]; decide) (fun hi1 hl1 r1 q1 => k_92_27 ?_)
    have C1 := hC.ft q1
    have N1 := hN.ft q1
    rw [show hi1 5 0 = nI (dD D) from C1.1.1]
    refine f102a (d := d) (N := dnm D) hd r1 (hDN.na N1) (fun y1 y2 hi2 hl2 r2 q2 => ?_) (fun w' y => ?_)
    · rw [rdA_1 _ y1 y2] at E0
      have C2 := C1.ft q2
      exact k_92_42 (fun z => absurd z (by decide)) (fun _ => c_end (d := d) ⟨r2.u (by decide), C2.deed, (N1.deed hd).ft q2, by rw [u2_nn (by decide)]; exact q2.z7 (q1.z7 z7), by rw [u2_nn (by decide)]; exact q2.z8 (q1.z8 z8)⟩ E0 (((CF.rf.ft q1).l (by decide)).ft q2 |>.u (by decide)) (fun r hi' hl' o1 o2 => k_92_69 o1.r (w r hi' hl' o1 o2)))
    · rw [rdA_0 _ y] at E0
      exact k_92_42 (fun _ => w 0 _ _ (CO.ft E0) (((CF.rf.ft q1).u (by decide)).u (by decide))) (fun z => absurd rfl z)
  · intro c
    have hd : ¬ dD D < 4 := fun z => c ((nIlt (y := 4) (by omega) (by decide)).mpr z)
    have E0 : lDeed (byt n f) D a = _ := cI_0 hd
    exact f72 (d := d + 3) (w := 2) hR (k_92_19 (Or.inl rfl) (w 0 _ _ (CO.ft E0) ((CF.rf.u (by decide)).u (by decide))))
end VCL
