/-! ===== village: the reference reads a line ===== -/
section VPV
variable {d : Nat} {Q : am_Q} {hi hi' : Nat → Nat → Int32} {hl hl' : Nat → Nat → Int64} {sw : Bool} {kp : Nat → Nat} {n a : Nat} {f : Nat → Int32} {D : Dr}
theorem f193 {po : PO} (hM : MS n f a hi hl) (hs : ts (tk (byt n f) a) ≠ 3) (e20 : hi 279 20 = 0) (hP : PM (byt n f) (false, [], [], 0, te (tk (byt n f) a)) po) (w1 : ∀ P' U' a' hi' hl', po = .inr ((P', U'), a') → MS n f a' hi' hl' → RP P' U' hi' → GF hi' hi hl' hl → Q none (mkH hi' hl' sw kp)) (w0 : ∀ e hi' hl', po = .inl e → FL e hi' → RF hi' hi hl' hl → Q none (mkH hi' hl' sw kp)) : cS (d + 5) 193 [.ref 279] (mkH hi hl sw kp) Q := by
  obtain ⟨k, hP⟩ := hP
  refine e_193 (d := d + 2) (f170r (d := d + 2) hM hs (fun hi1 hl1 m1 q1 => k_193_4 ?_))
  have G1 : GF (u2 (u2 (u2 (u2 hi1 279 17 0) 279 19 0) 279 23 0) 279 22 0) hi hl1 hl := ((((GF.rf.fr q1).u (by omega)).u (by omega)).u (by omega)).u (by omega)
  have s1 : RPS n f [] [] 0 (te (tk (byt n f) a)) (u2 (u2 (u2 (u2 hi1 279 17 0) 279 19 0) 279 23 0) 279 22 0) hl1 := by
    refine ⟨(((m1.u (by omega)).u (by omega)).u (by omega)).u (by omega), ⟨?_, ?_, fun j x q => by cases q⟩, ?_, ?_, ?_, trivial⟩
    · rw [u2_nn (by omega), u2_nn (by omega), u2_nn (by omega), u2_s]; rfl
    · rw [u2_nn (by omega), u2_nn (by omega), u2_nn (by omega), u2_nn (by omega), q1.1 279 20 (by omega)]; exact e20
    · rw [u2_s]; rfl
    · rw [u2_nn (by omega), u2_nn (by omega), u2_s]; rfl
    · rw [u2_nn (by omega), u2_s]; rfl
  have I0 : PIV false [] [] 0 := PIV.mw (fun s hs => absurd hs List.not_mem_nil) (by decide) (by decide) ⟨rfl, Nat.le_refl 0, by decide⟩
  have n10 : ∀ {p : Prop}, (1 : Int32) = 0 → p := fun z => absurd z (by decide)
  refine e_190 (d := d + 1) (c190 (d := d) k _ _ _ _ _ hl1 hP s1 I0 (fun k' S' P' U' a' hi' hl' b1 b2 b3 b4 b5 => k_193_28 ?_) (fun e hi' hl' b1 b2 b3 => k_193_28 ?_))
  · exact c193 k k' S' P' U' a' hi' hl' _ (by omega) b2 b3 b4 (fun P2 U2 a2 hi3 hl3 c1 c2 c3 c4 => w1 P2 U2 a2 hi3 hl3 c1 c2 c3 ((G1.tr b5).tr c4)) (fun e hi3 hl3 c1 c2 c3 => w0 e hi3 hl3 c1 c2 ((G1.tr b5).rF.tr c3))
  · exact k_193_30 (fun z => n10 z) (fun z => n10 z) (fun _ z => absurd z b2.ne) (fun _ z => absurd z b2.ne) (fun _ z => absurd z b2.ne) (fun _ z => absurd z b2.ne) (fun _ _ z => absurd z b2.ne) (fun _ _ _ => k_193_176 (fun z => absurd z b2.ne) (fun _ => k_193_188 (w0 e hi' hl' b1 b2 (G1.rF.tr b3))))
/-- a line's end -/
def RO (n : Nat) (f : Nat → Int32) (o : Out Dr) (hi : Nat → Nat → Int32) (hl : Nat → Nat → Int64) : Prop := (∃ e, o = .inl e ∧ FL e hi) ∨ ∃ q, o = .inr q ∧ RST n f q.1 q.2 hi hl
theorem RST.fr (h : RST n f D a hi hl) {x : Nat} (m : MS n f x hi' hl') (e : FR hi' hi hl' hl) : RST n f D x hi' hl' := ⟨m, h.2.1.fr e, h.2.2.1.fr e, e.z3 h.2.2.2⟩
theorem c203 {o : Out Dr} (h : RQ n f o hi hl) (w : ∀ (hi' : Nat → Nat → Int32) (hl' : Nat → Nat → Int64), RO n f o hi' hl' → RF hi' hi hl' hl → Q none (mkH hi' hl' sw kp)) : cW cd_203 (d + 2) Q 343 [some (.ref 279)] [] (mkH hi hl sw kp) := by
  rcases h with ⟨D', x, E, hS⟩ | ⟨e, E, hF⟩
  · have hM := hS.1
    have z2 : hi 279 2 = 0 := hM.2.2.2.2.1
    have i59 : hi 279 6 = 59 ↔ ts (tk (byt n f) x) = 59 := hM.so (k := 59) (by decide)
    refine k_203_343 (fun _ y => ?_) (fun _ y => ?_) (fun z => absurd z2 z)
    · have h59 := i59.mp y
      rw [rdS_1 _ h59] at E
      exact k_203_364 (fun _ => f170r (d := d) hM (by omega) (fun hi1 hl1 m1 q1 => k_203_375 (w hi1 hl1 (Or.inr ⟨_, E, hS.fr m1 q1⟩) (RF.rf.fr q1)))) (fun z => absurd z2 z)
    · rw [rdS_0 _ (fun z => y (i59.mpr z))] at E
      have hF := FL.mk (hi := hi) (t := tk (byt n f) x) (w := 2) (by decide) (by decide)
      exact f171 (d := d + 1) (w := 2) hM (k_203_364 (fun z => absurd z hF.ne) (fun _ => k_203_375 (w _ hl (Or.inl ⟨_, E, hF⟩) ((RF.rf.u (by omega)).u (by omega)))))
  · exact k_203_343 (fun z => absurd z hF.ne) (fun z => absurd z hF.ne) (fun _ => k_203_364 (fun z => absurd z hF.ne) (fun _ => k_203_375 (w hi hl (Or.inl ⟨e, E, hF⟩) RF.rf)))
abbrev ST2 (D0 : Nat) (Q : am_Q) (hi : Nat → Nat → Int32) (hl : Nat → Nat → Int64) (sw : Bool) (kp : Nat → Nat) (pc : Nat) (W : Int64) : Prop := cS D0 172 [.ref 279, .long W] (mkH hi hl sw kp) (am_ret (cW cd_203 D0 Q) pc [some (.ref 279)] [])
theorem MS.nw (h : MS n f a hi hl) {i : Nat} (h21 : i < 21) (hn : ¬ isW (tk (byt n f) a) i) : g_172 hi hl (lN (w8 (OW i))) = 0 := Classical.byContradiction (fun z => hn ((h.wd h21).mp z))
theorem ps0 (h : MS n f a hi hl) (hn : ¬ isW (tk (byt n f) a) 0) (s : ST2 (d + 1) Q hi hl sw kp 32 482854658917) : ST2 (d + 1) Q hi hl sw kp 7 1684366692 := s_172 (k_203_7 (fun _ => s) (fun z => absurd (h.nw (i := 0) (by decide) hn) z) (fun z => absurd (h.nw (i := 0) (by decide) hn) z))
theorem ps1 (h : MS n f a hi hl) (hn : ¬ isW (tk (byt n f) a) 1) (s : ST2 (d + 1) Q hi hl sw kp 58 1885434984) : ST2 (d + 1) Q hi hl sw kp 32 482854658917 := s_172 (k_203_32 (fun _ => s) (fun z => absurd (h.nw (i := 1) (by decide) hn) z) (fun z => absurd (h.nw (i := 1) (by decide) hn) z))
theorem ps2 (h : MS n f a hi hl) (hn : ¬ isW (tk (byt n f) a) 2) (s : ST2 (d + 1) Q hi hl sw kp 84 1667330917) : ST2 (d + 1) Q hi hl sw kp 58 1885434984 := s_172 (k_203_58 (fun _ => s) (fun z => absurd (h.nw (i := 2) (by decide) hn) z) (fun z => absurd (h.nw (i := 2) (by decide) hn) z))
theorem ps3 (h : MS n f a hi hl) (hn : ¬ isW (tk (byt n f) a) 3) (s : ST2 (d + 1) Q hi hl sw kp 109 2003330414) : ST2 (d + 1) Q hi hl sw kp 84 1667330917 := s_172 (k_203_84 (fun _ => s) (fun z => absurd (h.nw (i := 3) (by decide) hn) z) (fun z => absurd (h.nw (i := 3) (by decide) hn) z))
theorem ps4 (h : MS n f a hi hl) (hn : ¬ isW (tk (byt n f) a) 4) (s : ST2 (d + 1) Q hi hl sw kp 135 1886743660) : ST2 (d + 1) Q hi hl sw kp 109 2003330414 := s_172 (k_203_109 (fun _ => s) (fun z => absurd (h.nw (i := 4) (by decide) hn) z) (fun z => absurd (h.nw (i := 4) (by decide) hn) z))
theorem ps5 (h : MS n f a hi hl) (hn : ¬ isW (tk (byt n f) a) 5) (s : ST2 (d + 1) Q hi hl sw kp 164 6578553) : ST2 (d + 1) Q hi hl sw kp 135 1886743660 := s_172 (k_203_135 (fun _ => s) (fun z => absurd (h.nw (i := 5) (by decide) hn) z) (fun z => absurd (h.nw (i := 5) (by decide) hn) z))
theorem ps6 (h : MS n f a hi hl) (hn : ¬ isW (tk (byt n f) a) 6) (s : ST2 (d + 1) Q hi hl sw kp 203 448377483891) : ST2 (d + 1) Q hi hl sw kp 164 6578553 := s_172 (k_203_164 (fun _ => s) (fun z => absurd (h.nw (i := 6) (by decide) hn) z) (fun z => absurd (h.nw (i := 6) (by decide) hn) z))
theorem ps7 (h : MS n f a hi hl) (hn : ¬ isW (tk (byt n f) a) 7) (s : ST2 (d + 1) Q hi hl sw kp 242 495873782388) : ST2 (d + 1) Q hi hl sw kp 203 448377483891 := s_172 (k_203_203 (fun _ => s) (fun z => absurd (h.nw (i := 7) (by decide) hn) z) (fun z => absurd (h.nw (i := 7) (by decide) hn) z))
theorem ps8 (h : MS n f a hi hl) (hn : ¬ isW (tk (byt n f) a) 8) (s : ST2 (d + 1) Q hi hl sw kp 266 6383461) : ST2 (d + 1) Q hi hl sw kp 242 495873782388 := s_172 (k_203_242 (fun _ => s) (fun z => absurd (h.nw (i := 8) (by decide) hn) z) (fun z => absurd (h.nw (i := 8) (by decide) hn) z))
theorem ps9 (h : MS n f a hi hl) (hn : ¬ isW (tk (byt n f) a) 9) (s : ST2 (d + 1) Q hi hl sw kp 305 1685217655) : ST2 (d + 1) Q hi hl sw kp 266 6383461 := s_172 (k_203_266 (fun _ => s) (fun z => absurd (h.nw (i := 9) (by decide) hn) z) (fun z => absurd (h.nw (i := 9) (by decide) hn) z))
/-- no line -/
theorem no203 {o : Out Dr} (h : MS n f a hi hl) (E : o = flt (byt n f) 2 a) (w : ∀ (hi' : Nat → Nat → Int32) (hl' : Nat → Nat → Int64), RO n f o hi' hl' → RF hi' hi hl' hl → Q none (mkH hi' hl' sw kp)) : cS (d + 2) 171 [.ref 279, .int 2] (mkH hi hl sw kp) (am_ret (cW cd_203 (d + 2) Q) 343 [some (.ref 279)] []) := f171 (d := d + 1) (w := 2) h (c203 (RQ.fl E (by decide) (by decide)) (fun hi' hl' r1 r2 => w hi' hl' r1 (((RF.rf.u (by omega)).u (by omega)).tr r2)))
theorem ps10 {o : Out Dr} (h : MS n f a hi hl) (hn : ¬ isW (tk (byt n f) a) 10) (E : o = flt (byt n f) 2 a) (w : ∀ (hi' : Nat → Nat → Int32) (hl' : Nat → Nat → Int64), RO n f o hi' hl' → RF hi' hi hl' hl → Q none (mkH hi' hl' sw kp)) : ST2 (d + 2) Q hi hl sw kp 305 1685217655 := s_172 (d := d + 1) (k_203_305 (fun _ => no203 h E w) (fun z => absurd (h.nw (i := 10) (by decide) hn) z) (fun z => absurd (h.nw (i := 10) (by decide) hn) z))
/-- a line with a number -/
theorem nl203 {i k lo up pcx : Nat} (hik : 5 ≤ i ∧ i ≤ 10 ∧ 4 ≤ k ∧ k ≤ 8) (hlo : lo < 2 ^ 20) (hup : up < 2 ^ 20) (hS : RST n f D a hi hl) (hw : isW (tk (byt n f) a) i) (hb : (dom D).testBit i = false) (hc : ∀ s1 (hi' : Nat → Nat → Int32) (hl' : Nat → Nat → Int64), cW cd_203 (d + 6) Q 343 [some (.ref 279)] [] (mkH (u2 hi' 279 (36 + k) s1) hl' sw kp) → cW cd_203 (d + 6) Q pcx [some (.ref 279)] [.int s1, .ref 279] (mkH hi' hl' sw kp)) (w : ∀ (hi' : Nat → Nat → Int32) (hl' : Nat → Nat → Int64), RO n f (lNum (byt n f) D i k lo up a) hi' hl' → RF hi' hi hl' hl → Q none (mkH hi' hl' sw kp)) : cS (d + 6) 177 [.ref 279, .long (lN (w8 (OW i))), .int (nI lo), .int (nI up)] (mkH (u2 hi 279 (47 + i) 1) hl sw kp) (am_ret (cW cd_203 (d + 6) Q) pcx [some (.ref 279)] [.ref 279]) := by
  obtain ⟨hM, hI, hN, z3⟩ := hS
  have E0 : lNum (byt n f) D i k lo up a = _ := cI_1 hb
  have F0 : RF (u2 hi 279 (47 + i) 1) hi hl hl := RF.rf.u (by omega)
  refine f177 (d := d + 2) (i := i) (by omega) hlo hup (hM.u (by omega)) (fun v0 v1 v2 v3 hi1 hl1 m1 q1 => hc _ _ _ (c203 (d := d + 4) (o := lNum (byt n f) D i k lo up a) (Or.inl ⟨_, _, ?_, m1.u (by omega), RI.once (hi' := u2 hi1 279 (36 + k) (nI (tv (tk (byt n f) (te (tk (byt n f) a)))))) (i := i) (k := k) (v := tv (tk (byt n f) (te (tk (byt n f) a)))) (by omega) (by omega) hI (fun j j1 j2 j3 => ?_) u2_s ?_ (fun c hc => ?_), fun j q => ?_, ?_⟩) (fun hi' hl' r1 r2 => w hi' hl' r1 (((F0.fr q1).u (by omega)).tr r2)))) (fun e x hi1 hl1 y fl f3 => hc _ _ _ (c203 (d := d + 4) (o := lNum (byt n f) D i k lo up a) (Or.inr ⟨e, ?_, fl.u (by omega)⟩) (fun hi' hl' r1 r2 => w hi' hl' r1 (((F0.tr f3).u (by omega)).tr r2))))
  · rw [rdN_1 _ v1 v2 v3, bnd_1] at E0
    exact E0
  · rw [u2_nn (by omega), q1.1 279 j (by omega), u2_nn (by omega)]
  · rw [u2_nn (by omega), q1.1 279 (47 + i) (by omega), u2_s]
  · rw [u2_row_ne (by omega), q1.row (by omega), u2_row_ne (by omega)]
  · exact hN.fr q1 j q
  · rw [u2_nn (by omega)]
    refine q1.z3 ?_
    rw [u2_nn (by omega)]
    exact z3
  · rcases y with y | ⟨y1, y⟩
    · have := y (fun _ _ => .inr (D, 0))
      rw [rdW_1 _ hw] at this
      cases this
    · rw [y] at E0
      exact E0
end VPV
