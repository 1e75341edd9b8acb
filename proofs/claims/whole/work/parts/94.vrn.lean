/-! ===== village: the reference's lines of paths, of the table, of start ===== -/
section VRN
variable {d : Nat} {Q : am_Q} {hi hi' : Nat → Nat → Int32} {hl hl' : Nat → Nat → Int64} {sw : Bool} {kp : Nat → Nat} {n a : Nat} {f : Nat → Int32} {D : Dr}
/-- behind a FAULT in a path's line -/
theorem b199_41 {e : Nat × Nat} {x y : Int32} (h : FL e hi) (w : Q none (mkH hi hl sw kp)) : cW cd_199 d Q 41 [some (.ref 279), some (.int x), none] [.int y] (mkH hi hl sw kp) := k_199_41 (fun z => absurd z h.ne) (fun z => absurd z h.ne) (fun z => absurd z h.ne) (fun z => absurd z h.ne) (fun _ => k_199_73 (fun z => absurd z h.le) (fun z => absurd z h.le) (fun z => absurd z h.le) (fun _ => w))
theorem b199_32 {e : Nat × Nat} {x : Int32} (h : FL e hi) (w : Q none (mkH hi hl sw kp)) : cW cd_199 (d + 3) Q 32 [some (.ref 279), some (.int x), none] [] (mkH hi hl sw kp) := k_199_32 (x180 (d := d) h (b199_41 h w))
theorem b199_13 {e : Nat × Nat} {x : Int32} (h : FL e hi) (w : Q none (mkH hi hl sw kp)) : cW cd_199 (d + 3) Q 13 [some (.ref 279), none, none] [.int x] (mkH hi hl sw kp) := k_199_13 (fun z => absurd z h.ne) (fun _ => k_199_25 (x175 (d := d + 1) h (b199_32 (d := d) h w)))
/-- path -/
theorem f199 (hS : RST n f D a hi hl) (hw : isW (tk (byt n f) a) 2) (hW : DW D) (hd : dT D < 16) (w : ∀ (hi' : Nat → Nat → Int32) (hl' : Nat → Nat → Int64), RQ n f (lPath (byt n f) D a) hi' hl' → RF hi' hi hl' hl → Q none (mkH hi' hl' sw kp)) : cS (d + 5) 199 [.ref 279] (mkH hi hl sw kp) Q := by
  obtain ⟨hM, hI, hN, z3⟩ := hS
  obtain ⟨⟨w1, w2, w3, w4⟩, hDN, hdz, hld, hl0, hW'⟩ := hW
  have E0 : lPath (byt n f) D a = _ := cI_1 hd
  refine e_199 (d := d + 4) (f170r (d := d + 2) hM (by rw [hw.1]; decide) (fun hi1 hl1 m1 q1 => k_199_4 ?_))
  have I1 := hI.fr q1
  have N1 := hN.fr q1
  rw [I1.1.2.1]
  refine f180 (d := d + 1) (o := 4) (m := dP D) (N := fun i => dnm D (4 + i)) (by omega) m1 (hDN.rp N1) (fun y1 p y2 y3 => ?_) (fun w' y => ?_)
  · rw [rdO_1 _ hDN.1.2.1 y1 y2 y3, bnd_1] at E0
    refine k_199_13 (fun _ => f170r (d := d + 2) m1 (by rw [y1.1]; decide) (fun hi2 hl2 m2 q2 => k_199_25 (f175 (d := d + 1) (i := 13) (by decide) m2 (fun y4 y5 hi3 hl3 m3 q3 => k_199_32 ?_) (fun y4 => ?_)))) (fun z => absurd m1.2.2.2.2.1 z)
    · rw [rdW_1 _ ⟨y4, y5⟩, bnd_1] at E0
      have Q3 := (q1.tr q2).tr q3
      have I3 := hI.fr Q3
      have N3 := hN.fr Q3
      rw [I3.1.2.1]
      refine f180 (d := d + 1) (o := 4) (m := dP D) (N := fun i => dnm D (4 + i)) (by omega) m3 (hDN.rp N3) (fun y6 q y7 y8 => ?_) (fun w' y => ?_)
      · rw [rdO_1 _ hDN.1.2.1 y6 y7 y8, bnd_1] at E0
        have e291p : hi3 291 p = nI (dld D p) := (I3.2.1 p y2).2.2
        have e291q : hi3 291 q = nI (dld D q) := (I3.2.1 q y7).2.2
        have hb := bit8 (a := dld D p) (t := q) (by have := hld p; omega) (by omega)
        have hm2 : dld D p / 2 ^ q % 2 < 2 := Nat.mod_lt _ (by decide)
        have bad : p = q ∨ (dld D p).testBit q = true → cS (d + 4) 171 [.ref 279, .int 3] (mkH hi3 hl3 sw kp) (am_ret (cW cd_199 (d + 4) Q) 73 [some (.ref 279), some (.int (nI p)), some (.int (nI q))] []) := fun hbad => by
          rw [cI_1 hbad] at E0
          have hF := FL.mk (hi := hi3) (t := tk (byt n f) (te (tk (byt n f) (te (tk (byt n f) (te (tk (byt n f) a))))))) (w := 3) (by decide) (by decide)
          exact f171 (d := d + 3) (w := 3) m3 (k_199_73 (fun z => absurd z hF.le) (fun z => absurd z hF.le) (fun z => absurd z hF.le) (fun _ => w _ _ (RQ.fl E0 (by decide) (by decide)) (((RF.rf.fr Q3).u (by omega)).u (by omega))))
        refine k_199_41 (fun _ z => bad (Or.inl ((nI_eq (by omega) (by omega)).mp z))) (fun _ _ => vp_in_nI (by omega) (by decide)) (fun _ _ z => ?_) (fun _ z1 z => ?_) (fun z => absurd m3.2.2.2.2.1 z)
        · rw [nI_clamp (by omega), e291p, hb] at z
          refine bad (Or.inr ?_)
          rw [Nat.testBit_eq_decide_div_mod_eq]
          exact decide_eq_true ((nI_eq (b := 1) (by omega) (by decide)).mp z)
        · rw [nI_clamp (by omega), e291p, hb] at z
          have hne : p ≠ q := fun y => z1 (by rw [y])
          rw [cI_0 (fun y => by
            rcases y with y | y
            · exact hne y
            · rw [Nat.testBit_eq_decide_div_mod_eq] at y
              exact z (by rw [of_decide_eq_true y]; rfl))] at E0
          have le3 : hi3 279 2 ≤ 0 := by rw [m3.2.2.2.2.1]; decide
          refine k_199_73 (fun _ => vp_in_nI (by omega) (by decide)) (fun _ => vp_in_nI (by omega) (by decide)) (fun _ => ?_) (fun z => absurd le3 z)
          rw [nI_clamp (by omega), nI_clamp (by omega), u2_nn (i := 291) (j := p) (a := 291) (b := q) (fun z => hne z.2.symm), e291p, e291q, bt_or (by omega), bt_or (by omega)]
          refine f170r (d := d + 2) (((m3.u (by omega)).u (by omega)).u (by omega)) (by rw [y6.1]; decide) (fun hi4 hl4 m4 q4 => k_199_119 (w _ _ (Or.inl ⟨_, _, E0, m4, I3.path.fr q4, N3.fr q4, q4.z3 ?_⟩) (((((RF.rf.fr Q3).u (by omega)).u (by omega)).u (by omega)).fr q4)))
          rw [u2_nn (by omega), u2_nn (by omega), u2_nn (by omega)]
          exact Q3.z3 z3
      · rw [rdO_0 _ y, bnd_0] at E0
        have hp : 0 < w' ∧ w' < 100 := by rcases y with ⟨_, rfl⟩ | ⟨_, _, rfl⟩ <;> decide
        exact b199_41 (FL.mk hp.1 hp.2) (w _ _ (RQ.fl E0 hp.1 hp.2) (((RF.rf.fr Q3).u (by omega)).u (by omega)))
    · rw [rdW_0 _ y4, bnd_0] at E0
      exact b199_32 (d := d + 1) (FL.mk (w := 2) (by decide) (by decide)) (w _ _ (RQ.fl E0 (by decide) (by decide)) (((RF.rf.fr (q1.tr q2)).u (by omega)).u (by omega)))
  · rw [rdO_0 _ y, bnd_0] at E0
    have hp : 0 < w' ∧ w' < 100 := by rcases y with ⟨_, rfl⟩ | ⟨_, _, rfl⟩ <;> decide
    exact b199_13 (d := d + 1) (FL.mk hp.1 hp.2) (w _ _ (RQ.fl E0 hp.1 hp.2) (((RF.rf.fr q1).u (by omega)).u (by omega)))
/-- behind a FAULT in a row of the table -/
theorem b201_64 {e : Nat × Nat} {x y : Int32} (h : FL e hi) (w : Q none (mkH hi hl sw kp)) : cW cd_201 d Q 64 [some (.ref 279), some (.int x), some (.int y), none, none, none] [] (mkH hi hl sw kp) := k_201_64 (fun z => absurd z h.ne) (fun _ => k_201_75 (fun z => absurd z h.le) (fun z => absurd z h.le) (fun _ => w))
theorem b201_35 {e : Nat × Nat} {x y : Int32} (h : FL e hi) (w : Q none (mkH hi hl sw kp)) : cW cd_201 d Q 35 [some (.ref 279), some (.int x), none, none, none, none] [.int y] (mkH hi hl sw kp) := k_201_35 (fun z => absurd z h.ne) (fun z => absurd z h.ne) (fun z => absurd z h.ne) (fun _ => b201_64 h w)
theorem b201_13 {e : Nat × Nat} {x : Int32} (h : FL e hi) (w : Q none (mkH hi hl sw kp)) : cW cd_201 (d + 3) Q 13 [some (.ref 279), none, none, none, none, none] [.int x] (mkH hi hl sw kp) := k_201_13 (fun z => absurd z h.ne) (fun _ => k_201_25 (x180 (d := d) h (b201_35 h w)))
theorem tbv_g {k : Nat} (h3 : -3 ≤ (dtb D k).toInt) : tbv D k = -1000000 ↔ (dtm D).testBit k = false := by
  unfold tbv
  cases hb : (dtm D).testBit k
  · rw [if_neg (by decide)]
    exact ⟨fun _ => rfl, fun _ => rfl⟩
  · rw [if_pos rfl]
    constructor
    · intro q
      rw [q] at h3
      exact absurd h3 (by decide)
    · intro q
      cases q
/-- the reference's value of a row, and what is done with it -/
theorem b201_v {e c a2 : Nat} {s : Bool} {x3 : Int32} {o : Out Dr} (he : e < 4) (hc : c < 4) (hb : (dtm D).testBit (4 * e + c) = false) (hM : MS n f a2 hi hl) (hI : RI D hi) (hN : RN D hl) (z3 : hi 279 3 = -1) (P : Nat) (hx3 : x3 = nI P) (E1 : ts (tk (byt n f) a2) = 2 → tv (tk (byt n f) a2) ≤ 3 → o = bnd (rdS (byt n f) 59 (te (tk (byt n f) a2))) fun _ y => .inr (aWhen D (4 * e + c) (if s = true then -(nI (tv (tk (byt n f) a2))) else nI (tv (tk (byt n f) a2))), y)) (E2 : ts (tk (byt n f) a2) = 2 → ¬ tv (tk (byt n f) a2) ≤ 3 → o = .inl (4, if s = true then P else tp (tk (byt n f) a2))) (E3 : ¬ ts (tk (byt n f) a2) = 2 → o = flt (byt n f) 2 a2) (w : ∀ (hi' : Nat → Nat → Int32) (hl' : Nat → Nat → Int64), RQ n f o hi' hl' → RF hi' hi hl' hl → Q none (mkH hi' hl' sw kp)) : cW cd_201 (d + 3) Q 113 [some (.ref 279), some (.int (nI e)), some (.int (nI c)), some (.int x3), some (.int (if s = true then 1 else 0)), none] [] (mkH hi hl sw kp) := by
  have hm := (m44 e he c hc).2
  have hv := tk_v (b := byt n f) (a := a2)
  refine k_201_113 (f176 (d := d) (lo := 0) (up := 3) (by decide) (by decide) (by omega) hM (fun v1 v2 v3 hi1 hl1 m1 q1 => ?_) (fun w' x y => ?_))
  · have z2 : hi1 279 2 = 0 := m1.2.2.2.2.1
    have le1 : hi1 279 2 ≤ 0 := by rw [z2]; decide
    have n4 : ¬ hi1 279 2 = 4 := by rw [z2]; decide
    have fin : ∀ v : Int32, o = (bnd (rdS (byt n f) 59 (te (tk (byt n f) a2))) fun _ y => .inr (aWhen D (4 * e + c) v, y)) → Q none (mkH (u2 (u2 hi1 293 (4 * e + c) v) 279 39 (hi1 279 39 + 1)) hl1 sw kp) := fun v E => w _ _ (Or.inl ⟨_, _, E, (m1.u (by omega)).u (by omega), (hI.fr q1).when (by omega) hb, hN.fr q1, by rw [u2_nn (by omega), u2_nn (by omega)]; exact q1.z3 z3⟩) (((RF.rf.fr q1).u (by omega)).u (by omega))
    cases s with
    | false =>
      refine k_201_119 (fun z => absurd z n4) (fun z => absurd z n4) (fun z => absurd z n4) (fun z => absurd z n4) (fun z => absurd z n4) (fun z => absurd z n4) (fun z => absurd z n4) (fun z => absurd z n4) (fun z => absurd z n4) (fun z => absurd z n4) (fun _ _ _ => by rw [hm]; exact vp_in_nI (by omega) (by decide)) (fun _ _ _ => ?_) (fun _ _ z => absurd rfl z) (fun _ _ z => absurd rfl z) (fun _ z => absurd le1 z)
      rw [hm, nI_clamp (by omega)]
      exact fin _ (E1 v1 v3)
    | true =>
      refine k_201_119 (fun z => absurd z n4) (fun z => absurd z n4) (fun z => absurd z n4) (fun z => absurd z n4) (fun z => absurd z n4) (fun z => absurd z n4) (fun z => absurd z n4) (fun z => absurd z n4) (fun z => absurd z n4) (fun z => absurd z n4) (fun _ _ z => absurd z (by decide)) (fun _ _ z => absurd z (by decide)) (fun _ _ _ => by rw [hm]; exact vp_in_nI (by omega) (by decide)) (fun _ _ _ => ?_) (fun _ z => absurd le1 z)
      rw [hm, nI_clamp (by omega)]
      exact fin _ (E1 v1 v3)
  · have hp : 0 < w' ∧ w' < 100 := by rcases y with ⟨_, _, rfl⟩ | ⟨_, rfl⟩ <;> decide
    have hF := FL.mk (hi := hi) (t := tk (byt n f) a2) hp.1 hp.2
    have F1 : RF (u2 (u2 hi 279 2 (nI (ftw (tk (byt n f) a2) w'))) 279 3 (nI (tp (tk (byt n f) a2)))) hi hl hl := (RF.rf.u (by omega)).u (by omega)
    have e2 : (u2 (u2 hi 279 2 (nI (ftw (tk (byt n f) a2) w'))) 279 3 (nI (tp (tk (byt n f) a2)))) 279 2 = nI (ftw (tk (byt n f) a2) w') := hF.1
    rcases y with ⟨y1, y2, rfl⟩ | ⟨y1, rfl⟩
    · have f4 : ftw (tk (byt n f) a2) 4 = 4 := if_neg (by omega)
      have i4 : (u2 (u2 hi 279 2 (nI (ftw (tk (byt n f) a2) 4))) 279 3 (nI (tp (tk (byt n f) a2)))) 279 2 = 4 := by rw [e2, f4]; rfl
      have E := E2 y1 (fun z => y2 ⟨Nat.zero_le _, z⟩)
      cases s with
      | false =>
        exact k_201_119 (fun _ _ z => absurd z hF.le) (fun _ _ z => absurd z hF.le) (fun _ _ z => absurd z hF.le) (fun _ _ z => absurd z hF.le) (fun _ _ _ => w _ _ (Or.inr ⟨_, E, by rw [e2, f4], u2_s, (show 0 < 4 from by decide), (show 4 < 100 from by decide)⟩) F1) (fun _ z => absurd rfl z) (fun _ z => absurd rfl z) (fun _ z => absurd rfl z) (fun _ z => absurd rfl z) (fun _ z => absurd rfl z) (fun z => absurd i4 z) (fun z => absurd i4 z) (fun z => absurd i4 z) (fun z => absurd i4 z) (fun z => absurd i4 z)
      | true =>
        refine k_201_119 (fun _ z => absurd z (by decide)) (fun _ z => absurd z (by decide)) (fun _ z => absurd z (by decide)) (fun _ z => absurd z (by decide)) (fun _ z => absurd z (by decide)) (fun _ _ z => absurd z hF.le) (fun _ _ z => absurd z hF.le) (fun _ _ z => absurd z hF.le) (fun _ _ z => absurd z hF.le) (fun _ _ _ => w _ _ (Or.inr ⟨_, E, ?_, ?_, (show 0 < 4 from by decide), (show 4 < 100 from by decide)⟩) (F1.u (by omega))) (fun z => absurd i4 z) (fun z => absurd i4 z) (fun z => absurd i4 z) (fun z => absurd i4 z) (fun z => absurd i4 z)
        · rw [u2_nn (by omega), e2, f4]
        · rw [u2_s]
          exact hx3
    · have E := E3 y1
      have n4 : ¬ (u2 (u2 hi 279 2 (nI (ftw (tk (byt n f) a2) 2))) 279 3 (nI (tp (tk (byt n f) a2)))) 279 2 = 4 := by
        rw [e2]
        unfold ftw
        by_cases c : ts (tk (byt n f) a2) = 3
        · rw [if_pos c]; decide
        · rw [if_neg c]; decide
      exact k_201_119 (fun z => absurd z n4) (fun z => absurd z n4) (fun z => absurd z n4) (fun z => absurd z n4) (fun z => absurd z n4) (fun z => absurd z n4) (fun z => absurd z n4) (fun z => absurd z n4) (fun z => absurd z n4) (fun z => absurd z n4) (fun _ z => absurd z hF.le) (fun _ z => absurd z hF.le) (fun _ z => absurd z hF.le) (fun _ z => absurd z hF.le) (fun _ _ => w _ _ (RQ.fl E (by decide) (by decide)) F1)
/-- when -/
theorem f201 (hS : RST n f D a hi hl) (hw : isW (tk (byt n f) a) 4) (hW : DW D) (hd : bc (dtm D) 16 < 16) (w : ∀ (hi' : Nat → Nat → Int32) (hl' : Nat → Nat → Int64), RQ n f (lWhen (byt n f) D a) hi' hl' → RF hi' hi hl' hl → Q none (mkH hi' hl' sw kp)) : cS (d + 5) 201 [.ref 279] (mkH hi hl sw kp) Q := by
  obtain ⟨hM, hI, hN, z3⟩ := hS
  obtain ⟨⟨w1, w2, w3, w4⟩, hDN, hdz, hld, hl0, hbr, htb, hW'⟩ := hW
  have E0 : lWhen (byt n f) D a = _ := cI_1 hd
  refine e_201 (d := d + 4) (f170r (d := d + 2) hM (by rw [hw.1]; decide) (fun hi1 hl1 m1 q1 => k_201_4 ?_))
  have I1 := hI.fr q1
  have N1 := hN.fr q1
  rw [I1.1.1]
  refine f180 (d := d + 1) (o := 0) (m := dD D) (N := dnm D) (by omega) m1 (hDN.rd N1) (fun y1 e y2 y3 => ?_) (fun w' y => ?_)
  · rw [rdO_1 _ hDN.1.1 y1 y2 y3, bnd_1] at E0
    refine k_201_13 (fun _ => f170r (d := d + 2) m1 (by rw [y1.1]; decide) (fun hi2 hl2 m2 q2 => k_201_25 ?_)) (fun z => absurd m1.2.2.2.2.1 z)
    have Q2 := q1.tr q2
    have I2 := hI.fr Q2
    have N2 := hN.fr Q2
    rw [I2.1.2.2.2.1]
    refine f180 (d := d + 1) (o := 12) (m := dC D) (N := fun i => dnm D (12 + i)) (by omega) m2 (hDN.rc N2) (fun y4 c y5 y6 => ?_) (fun w' y => ?_)
    · rw [rdO_1 _ hDN.1.2.2 y4 y5 y6, bnd_1] at E0
      have hm := (m44 e (by omega) c (by omega)).2
      have etb : hi2 293 (4 * e + c) = tbv D (4 * e + c) := I2.2.2.2.1 e c y2 (by omega)
      have hgp := tbv_g (htb (4 * e + c)).1
      refine k_201_35 (fun _ => by rw [hm]; exact vp_in_nI (by omega) (by decide)) (fun _ z => ?_) (fun _ z => ?_) (fun z => absurd m2.2.2.2.2.1 z)
      · rw [hm, nI_clamp (by omega), etb, hgp] at z
        rw [cI_0 (by rw [z]; decide)] at E0
        refine k_201_64 (fun _ => f170r (d := d + 2) m2 (by rw [y4.1]; decide) (fun hi3 hl3 m3 q3 => ?_)) (fun y => absurd m2.2.2.2.2.1 y)
        have Q3 := Q2.tr q3
        have I3 := hI.fr Q3
        have N3 := hN.fr Q3
        have le3 : hi3 279 2 ≤ 0 := by rw [m3.2.2.2.2.1]; decide
        have h45 : hi3 279 6 = 45 ↔ ts (tk (byt n f) (te (tk (byt n f) (te (tk (byt n f) (te (tk (byt n f) a))))))) = 45 := m3.so (k := 45) (by decide)
        have hpl : hi3 279 7 = nI (tp (tk (byt n f) (te (tk (byt n f) (te (tk (byt n f) (te (tk (byt n f) a)))))))) := m3.2.2.2.2.2.1.1
        refine k_201_75 (fun _ y => ?_) (fun _ y => ?_) (fun y => absurd le3 y)
        · have h1 := h45.mp y
          refine f170r (d := d + 2) m3 (by rw [h1]; decide) (fun hi4 hl4 m4 q4 => ?_)
          refine b201_v (d := d + 1) (s := true) (by omega) (by omega) z m4 (I3.fr q4) (N3.fr q4) (q4.z3 (Q3.z3 z3)) _ hpl (fun u1 u2 => ?_) (fun u1 u2 => ?_) (fun u1 => ?_) (fun hi' hl' f1 f2 => w hi' hl' f1 (((RF.rf.fr Q3).fr q4).tr f2))
          · rw [show rdV (byt n f) _ = _ from cI_1 h1, cI_1 u1, cI_1 u2, bnd_1] at E0
            exact E0
          · rw [show rdV (byt n f) _ = _ from cI_1 h1, cI_1 u1, cI_0 u2] at E0
            exact E0
          · rw [show rdV (byt n f) _ = _ from cI_1 h1, cI_0 u1] at E0
            exact E0
        · have h1 : ¬ _ := fun u => y (h45.mpr u)
          refine b201_v (d := d + 1) (s := false) (by omega) (by omega) z m3 I3 N3 (Q3.z3 z3) _ hpl (fun u1 u2 => ?_) (fun u1 u2 => ?_) (fun u1 => ?_) (fun hi' hl' f1 f2 => w hi' hl' f1 ((RF.rf.fr Q3).tr f2))
          · rw [show rdV (byt n f) _ = _ from cI_0 h1, cI_1 u1, cI_1 u2, bnd_1] at E0
            exact E0
          · rw [show rdV (byt n f) _ = _ from cI_0 h1, cI_1 u1, cI_0 u2] at E0
            exact E0
          · rw [show rdV (byt n f) _ = _ from cI_0 h1, cI_0 u1] at E0
            exact E0
      · rw [hm, nI_clamp (by omega), etb, hgp] at z
        rw [cI_1 (by cases hb : (dtm D).testBit (4 * e + c); exact absurd hb z; rfl)] at E0
        exact f171 (d := d + 3) (w := 3) m2 (b201_64 (FL.mk (by decide) (by decide)) (w _ _ (RQ.fl E0 (by decide) (by decide)) (((RF.rf.fr Q2).u (by omega)).u (by omega))))
    · rw [rdO_0 _ y, bnd_0] at E0
      have hp : 0 < w' ∧ w' < 100 := by rcases y with ⟨_, rfl⟩ | ⟨_, _, rfl⟩ <;> decide
      exact b201_35 (FL.mk hp.1 hp.2) (w _ _ (RQ.fl E0 hp.1 hp.2) (((RF.rf.fr Q2).u (by omega)).u (by omega)))
  · rw [rdO_0 _ y, bnd_0] at E0
    have hp : 0 < w' ∧ w' < 100 := by rcases y with ⟨_, rfl⟩ | ⟨_, _, rfl⟩ <;> decide
    exact b201_13 (d := d + 1) (FL.mk hp.1 hp.2) (w _ _ (RQ.fl E0 hp.1 hp.2) (((RF.rf.fr q1).u (by omega)).u (by omega)))
/-- start -/
theorem f202 (hS : RST n f D a hi hl) (hw : isW (tk (byt n f) a) 8) (hW : DW D) (hd : (dom D).testBit 8 = false) (w : ∀ (hi' : Nat → Nat → Int32) (hl' : Nat → Nat → Int64), RQ n f (lStart (byt n f) D a) hi' hl' → RF hi' hi hl' hl → Q none (mkH hi' hl' sw kp)) : cS (d + 5) 202 [.ref 279] (mkH hi hl sw kp) Q := by
  obtain ⟨hM, hI, hN, z3⟩ := hS
  obtain ⟨⟨w1, w2, w3, w4⟩, hDN, hW'⟩ := hW
  have E0 : lStart (byt n f) D a = _ := cI_1 hd
  refine e_202 (d := d + 4) (f170r (d := d + 2) hM (by rw [hw.1]; decide) (fun hi1 hl1 m1 q1 => k_202_4 ?_))
  have I1 := hI.fr q1
  have N1 := hN.fr q1
  rw [I1.1.2.1]
  refine f180 (d := d + 1) (o := 4) (m := dP D) (N := fun i => dnm D (4 + i)) (by omega) (m1.u (by omega)) (hDN.rp N1) (fun y1 p y2 y3 => ?_) (fun w' y => ?_)
  · rw [rdO_1 _ hDN.1.2.1 y1 y2 y3, bnd_1] at E0
    refine k_202_19 (fun _ => f170r (d := d + 2) ((m1.u (by omega)).u (by omega)) (by rw [y1.1]; decide) (fun hi2 hl2 m2 q2 => k_202_33 (w _ _ (Or.inl ⟨_, _, E0, m2, (RI.once (hi' := u2 (u2 hi1 279 55 1) 279 42 (nI p)) (i := 8) (k := 6) (v := p) (by decide) (by decide) I1 (fun j j1 j2 j3 => ?_) u2_s ?_ (fun c hc => ?_)).fr q2, N1.fr q2, q2.z3 ?_⟩) ((((RF.rf.fr q1).u (by omega)).u (by omega)).fr q2)))) (fun z => absurd (by rw [u2_nn (by omega)]; exact m1.2.2.2.2.1) z)
    · rw [u2_nn (by omega), u2_nn (by omega)]
    · rw [u2_nn (by omega), u2_s]
    · rw [u2_row_ne (by omega), u2_row_ne (by omega)]
    · rw [u2_nn (by omega), u2_nn (by omega)]
      exact q1.z3 z3
  · rw [rdO_0 _ y, bnd_0] at E0
    have hp : 0 < w' ∧ w' < 100 := by rcases y with ⟨_, rfl⟩ | ⟨_, _, rfl⟩ <;> decide
    have hF := FL.mk (hi := u2 hi1 279 55 1) (t := tk (byt n f) (te (tk (byt n f) a))) hp.1 hp.2
    exact k_202_19 (fun z => absurd z hF.ne) (fun _ => k_202_33 (w _ _ (Or.inr ⟨_, E0, hF.u (by omega)⟩) (((((RF.rf.fr q1).u (by omega)).u (by omega)).u (by omega)).u (by omega))))
end VRN
