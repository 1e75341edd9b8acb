/-! ===== village: the reference's lines of deeds, places, cases ===== -/
section VRM
variable {d : Nat} {Q : am_Q} {hi hi' : Nat → Nat → Int32} {hl hl' : Nat → Nat → Int64} {sw : Bool} {kp : Nat → Nat} {n a : Nat} {f : Nat → Int32} {D : Dr}
theorem RQ.fl {o : Out Dr} {w : Nat} (e : o = flt (byt n f) w a) (h1 : 0 < w) (h2 : w < 100) : RQ n f o (u2 (u2 hi 279 2 (nI (ftw (tk (byt n f) a) w))) 279 3 (nI (tp (tk (byt n f) a)))) hl := Or.inr ⟨_, e, FL.mk h1 h2⟩
/-- deed -/
theorem f197 (hS : RST n f D a hi hl) (hw : isW (tk (byt n f) a) 0) (hW : DW D) (hd : dD D < 4) (w : ∀ (hi' : Nat → Nat → Int32) (hl' : Nat → Nat → Int64), RQ n f (lDeed (byt n f) D a) hi' hl' → RF hi' hi hl' hl → Q none (mkH hi' hl' sw kp)) : cS (d + 6) 197 [.ref 279] (mkH hi hl sw kp) Q := by
  obtain ⟨hM, hI, hN, z3⟩ := hS
  obtain ⟨⟨w1, w2, w3, w4⟩, hDN, hdz, hld, hl0, hbr, htb, ht0, htm, htt, hW'⟩ := hW
  have E0 : lDeed (byt n f) D a = _ := cI_1 hd
  refine e_197 (d := d + 5) ?_
  rw [hI.1.1]
  refine f179 (d := d) (o := 0) (m := dD D) (N := dnm D) (by omega) hM (by rw [hw.1]; decide) (hDN.rd hN) (fun y1 y2 hi1 hl1 hi2 hl2 q1 m2 q2 => ?_) (fun w' hi1 hl1 q1 y => ?_)
  · rw [rdA_1 _ y1 y2, bnd_1] at E0
    have I2 := (hI.fr q1).fr q2
    have le2 : hi2 279 2 ≤ 0 := by rw [m2.2.2.2.2.1]; decide
    have F2 : RF hi2 hi hl2 hl := ((RF.rf.fr q1).l).fr q2
    refine k_197_9 (fun _ => lpu (σ := Nat → Nat → Int32) 4 (fun i Y => cW cd_197 (d + 5) Q 19 [some (.ref 279), some (.int (nI i))] [] (mkH Y hl2 sw kp)) (fun i Y => (∀ c j, c ≠ 293 → Y c j = hi2 c j) ∧ ∀ j, Y 293 j = if 4 * dD D ≤ j ∧ j < 4 * dD D + i then -1000000 else hi2 293 j) ?_ ?_ 4 0 hi2 (by decide) ⟨fun _ _ _ => rfl, fun j => by rw [if_neg (by omega)]⟩) (fun z => absurd le2 z)
    · intro Y ⟨v1, v2⟩
      refine k_197_19 (fun _ => w _ _ (Or.inl ⟨_, _, E0, ?_, I2.deed htt v1 v2, (hN.fr q1).deed hd w2 |>.fr q2, ?_⟩) ?_) (fun z => absurd (by decide) z) (fun z => absurd (by decide) z)
      · refine m2.cg (fun j a1 a2 => ?_) ?_ rfl
        · rw [u2_nn (by omega)]
          exact v1 279 j (by decide)
        · rw [u2_row_ne (by decide)]
          funext j
          exact v1 280 j (by decide)
      · rw [u2_nn (by omega), v1 279 3 (by decide)]
        exact q2.z3 (q1.z3 z3)
      · refine RF.u ⟨fun c j q => ?_, F2.2⟩ (by decide)
        rw [v1 c j (by omega)]
        exact F2.1 c j q
    · intro i Y hi4 ⟨v1, v2⟩ ih
      have e35 : Y 279 35 = nI (dD D) := by rw [v1 279 35 (by decide)]; exact I2.1.1
      have hm := (m44 (dD D) hd i hi4).2
      refine k_197_19 (fun z => absurd z (nI_ge (b := 4) hi4 (by decide))) (fun _ => by rw [e35, hm]; exact vp_in_nI (by omega) (by decide)) (fun _ => ?_)
      rw [e35, hm, nI_clamp (by omega), ← nI_succ]
      refine ih _ ⟨fun c j q => by rw [u2_nn (fun z => q z.1)]; exact v1 c j q, fun j => ?_⟩
      by_cases c : j = 4 * dD D + i
      · rw [c, u2_s, if_pos (by omega)]
      · rw [u2_nn (fun z => c z.2), v2 j]
        by_cases c2 : 4 * dD D ≤ j ∧ j < 4 * dD D + i
        · rw [if_pos c2, if_pos (by omega)]
        · rw [if_neg c2, if_neg (by omega)]
  · rw [rdA_0 _ y, bnd_0] at E0
    have hp : 0 < w' ∧ w' < 100 := by rcases y with ⟨_, rfl⟩ | ⟨_, _, rfl⟩ <;> decide
    exact k_197_9 (fun z => absurd z (FL.mk (t := tk (byt n f) (te (tk (byt n f) a))) hp.1 hp.2).le) (fun _ => w _ _ (RQ.fl E0 hp.1 hp.2) (((RF.rf.fr q1).u (by omega)).u (by omega)))
/-- behind a FAULT in a place's line -/
theorem b198_63 {e : Nat × Nat} {p : Nat} (hp : p < 8) (h : FL e hi) (w : ∀ (hi' : Nat → Nat → Int32), FL e hi' → RF hi' hi hl hl → Q none (mkH hi' hl sw kp)) : cW cd_198 d Q 63 [some (.ref 279), some (.int (nI p))] [] (mkH hi hl sw kp) := by
  refine k_198_63 (vp_in_nI (by omega) (by decide)) (fun z => absurd z h.ne) (fun _ => w _ (h.u (by omega)) (RF.rf.u (by omega)))
theorem b198_51 {e : Nat × Nat} {p : Nat} (hp : p < 8) (h : FL e hi) (x : Int32) (w : ∀ (hi' : Nat → Nat → Int32), FL e hi' → RF hi' hi hl hl → Q none (mkH hi' hl sw kp)) : cW cd_198 d Q 51 [some (.ref 279), some (.int (nI p))] [.int x, .int (nI p), .ref 290] (mkH hi hl sw kp) := by
  refine k_198_51 (vp_in_nI (by omega) (by decide)) (fun z => absurd z h.ne) (fun _ => b198_63 hp (h.u (by omega)) (fun hi' f1 f2 => w hi' f1 ((RF.rf.u (by omega)).tr f2)))
theorem b198_37 {e : Nat × Nat} {p : Nat} (hp : p < 8) (h : FL e hi) (w : ∀ (hi' : Nat → Nat → Int32), FL e hi' → RF hi' hi hl hl → Q none (mkH hi' hl sw kp)) : cW cd_198 (d + 3) Q 37 [some (.ref 279), some (.int (nI p))] [] (mkH hi hl sw kp) := k_198_37 (x180 (d := d) h (b198_51 hp h 0 w))
theorem b198_29 {e : Nat × Nat} {p : Nat} (hp : p < 8) (h : FL e hi) (x : Int32) (w : ∀ (hi' : Nat → Nat → Int32), FL e hi' → RF hi' hi hl hl → Q none (mkH hi' hl sw kp)) : cW cd_198 (d + 3) Q 29 [some (.ref 279), some (.int (nI p))] [.int x, .int (nI p), .ref 289] (mkH hi hl sw kp) := by
  refine k_198_29 (vp_in_nI (by omega) (by decide)) (x175 (d := d + 1) (h.u (by omega)) (b198_37 (d := d) hp (h.u (by omega)) (fun hi' f1 f2 => w hi' f1 ((RF.rf.u (by omega)).tr f2))))
theorem b198_9 {e : Nat × Nat} {p : Nat} (hp : p < 8) (e36 : hi 279 36 = nI p) (h : FL e hi) (w : ∀ (hi' : Nat → Nat → Int32), FL e hi' → RF hi' hi hl hl → Q none (mkH hi' hl sw kp)) : cW cd_198 (d + 3) Q 9 [some (.ref 279), none] [] (mkH hi hl sw kp) := by
  refine k_198_9 ?_
  rw [e36]
  exact x177 (d := d) h (b198_29 (d := d) hp h 0 w)
/-- place -/
theorem f198 (hS : RST n f D a hi hl) (hw : isW (tk (byt n f) a) 1) (hW : DW D) (hd : dP D < 8) (w : ∀ (hi' : Nat → Nat → Int32) (hl' : Nat → Nat → Int64), RQ n f (lPlace (byt n f) D a) hi' hl' → RF hi' hi hl' hl → Q none (mkH hi' hl' sw kp)) : cS (d + 6) 198 [.ref 279] (mkH hi hl sw kp) Q := by
  obtain ⟨hM, hI, hN, z3⟩ := hS
  obtain ⟨⟨w1, w2, w3, w4⟩, hDN, hdz, hld, hl0, hW'⟩ := hW
  have E0 : lPlace (byt n f) D a = _ := cI_1 hd
  refine e_198 (d := d + 5) ?_
  rw [hI.1.2.1]
  refine f179 (d := d) (o := 4) (m := dP D) (N := fun i => dnm D (4 + i)) (by omega) hM (by rw [hw.1]; decide) (hDN.rp hN) (fun y1 y2 hi1 hl1 hi2 hl2 q1 m2 q2 => ?_) (fun w' hi1 hl1 q1 y => ?_)
  · rw [rdA_1 _ y1 y2, bnd_1] at E0
    have I2 := (hI.fr q1).fr q2
    have F2 : RF hi2 hi hl2 hl := ((RF.rf.fr q1).l).fr q2
    have N2 : ∀ v e, RN (aPlace D (tl (tk (byt n f) (te (tk (byt n f) a)))) v e) hl2 := fun v e => ((hN.fr q1).place w1 hd).fr q2
    have A2 : ∀ i, i < dD D → hl2 281 (0 + i) = lN (w8 (dnm D i)) ∧ ltr (dnm D i) ∧ w8 (dnm D i) < 2 ^ 63 := fun i q => by
      rw [q2.2 281 _ (by omega), u2_nn (by omega)]
      exact hDN.rd (hN.fr q1) i q
    have z2 := q2.z3 (q1.z3 z3)
    refine k_198_9 ?_
    rw [I2.1.2.1]
    refine f177 (d := d + 1) (i := 11) (lo := 0) (up := 9) (by decide) (by decide) (by decide) m2 (fun v0 v1 v2 v3 hi3 hl3 m3 q3 => ?_) (fun e x hi3 hl3 y fl f3 => ?_)
    · rw [rdW_1 _ v0, bnd_1, rdN_1 _ v1 v2 v3, bnd_1] at E0
      refine k_198_29 (vp_in_nI (by omega) (by decide)) ?_
      rw [nI_clamp (by omega)]
      have I3 := (I2.fr q3).sc (k := 289) (j := dP D) (x := nI (tv (tk (byt n f) (te (tk (byt n f) (te (tk (byt n f) (te (tk (byt n f) a))))))))) (Or.inl ⟨Or.inl rfl, rfl⟩)
      refine f175 (d := d + 2) (i := 12) (by decide) (m3.u (by omega)) (fun y3 y4 hi4 hl4 m4 q4 => k_198_37 ?_) (fun y3 => ?_)
      · rw [rdW_1 _ ⟨y3, y4⟩, bnd_1] at E0
        have I4 := I3.fr q4
        rw [I4.1.1]
        refine f180 (d := d + 2) (o := 0) (m := dD D) (N := dnm D) (by omega) m4 (fun i q => by rw [q4.2 281 _ (by omega), q3.2 281 _ (by omega)]; exact A2 i q) (fun y5 i y6 y7 => ?_) (fun w' y => ?_)
        · rw [rdO_1 _ hDN.1.1 y5 y6 y7, bnd_1] at E0
          refine k_198_51 (vp_in_nI (by omega) (by decide)) (fun _ => ?_) (fun z => absurd m4.2.2.2.2.1 z)
          rw [nI_clamp (by omega)]
          refine f170r (d := d + 3) (m4.u (by omega)) (by rw [y5.1]; decide) (fun hi5 hl5 m5 q5 => k_198_63 (vp_in_nI (by omega) (by decide)) (fun _ => ?_) (fun z => absurd m5.2.2.2.2.1 z))
          rw [nI_clamp (by omega)]
          have I5 := ((I4.sc (k := 290) (j := dP D) (x := nI i) (Or.inl ⟨Or.inr (Or.inl rfl), rfl⟩)).fr q5).sc (k := 291) (j := dP D) (x := 0) (Or.inl ⟨Or.inr (Or.inr rfl), rfl⟩)
          refine w _ _ (Or.inl ⟨_, _, E0, (m5.u (by omega)).u (by omega), ?_, ((N2 _ _).fr q3 |>.fr q4).fr q5, ?_⟩) ?_
          · have I6 := I5.place (l := tl (tk (byt n f) (te (tk (byt n f) a)))) (v := tv (tk (byt n f) (te (tk (byt n f) (te (tk (byt n f) (te (tk (byt n f) a)))))))) (e := i) (hl0 _ (Nat.le_refl _)) ?_ ?_ u2_s
            · rw [u2_nn (a := 279) (b := 36) (by omega)] at I6
              exact I6
            · rw [u2_nn (by omega), q5.row (by decide), u2_nn (by omega), q4.row (by decide), u2_s]
            · rw [u2_nn (by omega), q5.row (by decide), u2_s]
          · rw [u2_nn (by omega), u2_nn (by omega)]
            refine q5.z3 ?_
            rw [u2_nn (by omega)]
            refine q4.z3 ?_
            rw [u2_nn (by omega)]
            exact q3.z3 z2
          · exact (((((((F2.fr q3).u (by omega)).fr q4).u (by omega)).fr q5).u (by omega)).u (by omega))
        · rw [rdO_0 _ y, bnd_0] at E0
          have hp : 0 < w' ∧ w' < 100 := by rcases y with ⟨_, rfl⟩ | ⟨_, _, rfl⟩ <;> decide
          exact b198_51 hd (FL.mk hp.1 hp.2) 0 (fun hi' f1 f2 => w hi' hl4 (Or.inr ⟨_, E0, f1⟩) (((((F2.fr q3).u (by omega)).fr q4).u (by omega)).u (by omega) |>.tr f2))
      · rw [rdW_0 _ y3, bnd_0] at E0
        exact b198_37 (d := d + 2) hd (FL.mk (w := 2) (by decide) (by decide)) (fun hi' f1 f2 => w hi' hl3 (Or.inr ⟨_, E0, f1⟩) ((((F2.fr q3).u (by omega)).u (by omega)).u (by omega) |>.tr f2))
    · have E1 : lPlace (byt n f) D a = .inl e := by
        rcases y with y | ⟨y1', y⟩
        · rw [y] at E0
          exact E0
        · rw [rdW_1 _ y1', bnd_1, y] at E0
          exact E0
      exact b198_29 (d := d + 2) hd fl x (fun hi' f1 f2 => w hi' hl3 (Or.inr ⟨_, E1, f1⟩) ((F2.tr f3).tr f2))
  · rw [rdA_0 _ y, bnd_0] at E0
    have hp : 0 < w' ∧ w' < 100 := by rcases y with ⟨_, rfl⟩ | ⟨_, _, rfl⟩ <;> decide
    exact b198_9 (d := d + 2) hd (by rw [u2_nn (by omega), u2_nn (by omega), q1.1 279 36 (by omega)]; exact hI.1.2.1) (FL.mk hp.1 hp.2) (fun hi' f1 f2 => w hi' hl1 (Or.inr ⟨_, E0, f1⟩) ((((RF.rf.fr q1).u (by omega)).u (by omega)).tr f2))
/-- case -/
theorem f200 (hS : RST n f D a hi hl) (hw : isW (tk (byt n f) a) 3) (hW : DW D) (hd : dC D < 4) (w : ∀ (hi' : Nat → Nat → Int32) (hl' : Nat → Nat → Int64), RQ n f (lCase (byt n f) D a) hi' hl' → RF hi' hi hl' hl → Q none (mkH hi' hl' sw kp)) : cS (d + 6) 200 [.ref 279] (mkH hi hl sw kp) Q := by
  obtain ⟨hM, hI, hN, z3⟩ := hS
  obtain ⟨⟨w1, w2, w3, w4⟩, hDN, hW'⟩ := hW
  have E0 : lCase (byt n f) D a = _ := cI_1 hd
  refine e_200 (d := d + 5) ?_
  rw [hI.1.2.2.2.1]
  refine f179 (d := d) (o := 12) (m := dC D) (N := fun i => dnm D (12 + i)) (by omega) hM (by rw [hw.1]; decide) (hDN.rc hN) (fun y1 y2 hi1 hl1 hi2 hl2 q1 m2 q2 => ?_) (fun w' hi1 hl1 q1 y => ?_)
  · rw [rdA_1 _ y1 y2, bnd_1] at E0
    have I2 := (hI.fr q1).fr q2
    have F2 : RF hi2 hi hl2 hl := ((RF.rf.fr q1).l).fr q2
    have N2 : ∀ v, RN (aCase D (tl (tk (byt n f) (te (tk (byt n f) a)))) v) hl2 := fun v => ((hN.fr q1).case).fr q2
    have z2 := q2.z3 (q1.z3 z3)
    refine k_200_10 ?_
    rw [I2.1.2.2.2.1]
    refine f177 (d := d + 1) (i := 14) (lo := 1) (up := 15) (by decide) (by decide) (by decide) m2 (fun v0 v1 v2 v3 hi3 hl3 m3 q3 => ?_) (fun e x hi3 hl3 y fl f3 => ?_)
    · rw [rdW_1 _ v0, bnd_1, rdN_1 _ v1 v2 v3, bnd_1] at E0
      refine k_200_28 (vp_in_nI (by omega) (by decide)) (fun _ => ?_) (fun z => absurd m3.2.2.2.2.1 z)
      rw [nI_clamp (by omega)]
      have I3 := (I2.fr q3).sc (k := 292) (j := dC D) (x := nI (tv (tk (byt n f) (te (tk (byt n f) (te (tk (byt n f) (te (tk (byt n f) a))))))))) (Or.inr ⟨rfl, rfl⟩)
      refine w _ _ (Or.inl ⟨_, _, E0, (m3.u (by omega)).u (by omega), ?_, (N2 _).fr q3, ?_⟩) (((F2.fr q3).u (by omega)).u (by omega))
      · have I4 := I3.case (l := tl (tk (byt n f) (te (tk (byt n f) a)))) u2_s
        rw [u2_nn (a := 279) (b := 38) (by omega)] at I4
        exact I4
      · rw [u2_nn (by omega), u2_nn (by omega)]
        exact q3.z3 z2
    · have E1 : lCase (byt n f) D a = .inl e := by
        rcases y with y | ⟨y1', y⟩
        · rw [y] at E0
          exact E0
        · rw [rdW_1 _ y1', bnd_1, y] at E0
          exact E0
      exact k_200_28 (vp_in_nI (by omega) (by decide)) (fun z => absurd z fl.ne) (fun _ => w _ _ (Or.inr ⟨_, E1, fl.u (by omega)⟩) ((F2.tr f3).u (by omega)))
  · rw [rdA_0 _ y, bnd_0] at E0
    have hp : 0 < w' ∧ w' < 100 := by rcases y with ⟨_, rfl⟩ | ⟨_, _, rfl⟩ <;> decide
    have hF := FL.mk (hi := hi1) (t := tk (byt n f) (te (tk (byt n f) a))) hp.1 hp.2
    refine k_200_10 ?_
    rw [u2_nn (a := 279) (b := 38) (by omega), u2_nn (a := 279) (b := 38) (by omega), q1.1 279 38 (by omega), hI.1.2.2.2.1]
    exact x177 (d := d + 2) hF (k_200_28 (vp_in_nI (by omega) (by decide)) (fun z => absurd z hF.ne) (fun _ => w _ _ (Or.inr ⟨_, E0, hF.u (by omega)⟩) ((((RF.rf.fr q1).u (by omega)).u (by omega)).u (by omega))))
end VRM
