/-! ===== village: the class's lines of places, paths, cases ===== -/
section VCM
variable {d : Nat} {Q : am_Q} {hi hi' : Nat → Nat → Int32} {hl hl' : Nat → Nat → Int64} {sw : Bool} {kp : Nat → Nat} {n a : Nat} {f : Nat → Int32} {D : Dr}
theorem bnd_1 {α β : Type} {v : α} {x : Nat} {k : α → Nat → Out β} : bnd (.inr (v, x)) k = k v x := rfl
theorem bnd_0 {α β : Type} {b : Nat → Int32} {w x : Nat} {k : α → Nat → Out β} : bnd (flt b w x) k = flt b w x := rfl
theorem nm1 {v : Nat} (h : v < 2 ^ 31) : ¬ nI v = -1 := fun q => nI_pos h (by rw [q]; decide)
theorem FT.tr {hj : Nat → Nat → Int32} {hm : Nat → Nat → Int64} (h : FT hi' hi hl' hl) (e : FT hj hi' hm hl') : FT hj hi hm hl := ⟨fun c j q => (e.1 c j q).trans (h.1 c j q), fun c q => (e.2 c q).trans (h.2 c q)⟩
theorem FT.rf : FT hi hi hl hl := ⟨fun _ _ _ => rfl, fun _ _ => rfl⟩
theorem CI.place {l : List Nat} {v e : Nat} (h : CI D hi) : CI (aPlace D l v e) (u2 (u2 (u2 hi 6 (dP D) (nI v)) 7 (dP D) (nI e)) 5 1 (hi 5 1 + 1)) := by
  obtain ⟨⟨h0, h1, h2, h3, h4⟩, h5, h6, h7, h8, h9, h10, h14⟩ := h
  refine ⟨⟨?_, ?_, ?_, ?_, fun k k1 k2 => ?_⟩, fun p hp => ?_, ?_, ?_, ?_, ?_, ?_, h14.cg ?_ ?_⟩
  · rw [u2_nn (by omega), u2_nn (by omega), u2_nn (by omega)]; exact h0
  · rw [u2_s, h1]
    exact (nI_succ _).symm
  · rw [u2_nn (by omega), u2_nn (by omega), u2_nn (by omega)]; exact h2
  · rw [u2_nn (by omega), u2_nn (by omega), u2_nn (by omega)]; exact h3
  · rw [u2_nn (by omega), u2_nn (by omega), u2_nn (by omega)]; exact h4 k k1 k2
  · have hp2 : p < dP D + 1 := hp
    show _ = nI (up1 (dsm D) (dP D) v p) ∧ _ = nI (up1 (ddz D) (dP D) e p)
    rw [u2_row_ne (by decide), u2_row_ne (by decide), u2_row_ne (a := 7) (by decide)]
    by_cases c : p = dP D
    · rw [c, u2_s, u2_s, up1_s, up1_s]
      exact ⟨rfl, rfl⟩
    · rw [u2_nn (fun q => c q.2), u2_nn (fun q => c q.2), u2_row_ne (by decide), up1_n c, up1_n c]
      exact h5 p (by omega)
  · rw [u2_row_ne (by decide), u2_row_ne (by decide), u2_row_ne (by decide)]; exact h6
  · rw [u2_row_ne (by decide), u2_row_ne (by decide), u2_row_ne (by decide)]; exact h7
  · rw [u2_row_ne (by decide), u2_row_ne (by decide), u2_row_ne (by decide)]; exact h8
  · rw [u2_row_ne (by decide), u2_row_ne (by decide), u2_row_ne (by decide)]; exact h9
  · rw [u2_row_ne (by decide), u2_row_ne (by decide), u2_row_ne (by decide)]; exact h10
  · rw [u2_row_ne (by decide), u2_row_ne (by decide), u2_row_ne (by decide)]
  · rw [u2_row_ne (by decide), u2_row_ne (by decide), u2_row_ne (by decide)]
theorem f111 {x1 x2 : Int32} (hp : dP D < 8) (e1 : hi 5 1 = nI (dP D)) (w' : Q none (mkH (u2 (u2 (u2 hi 6 (dP D) x1) 7 (dP D) x2) 5 1 (hi 5 1 + 1)) hl sw kp)) : cS (d + 1) 111 [.ref 5, .int x1, .int x2] (mkH hi hl sw kp) Q := by
  have hc : (hi 5 1).toNatClampNeg = dP D := by rw [e1, nI_clamp (by omega)]
  exact e_111 (fun c => absurd c (by rw [e1]; exact nI_ge (b := 8) hp (by decide))) (fun _ => by rw [e1]; exact vp_in_nI (by omega) (by decide)) (fun _ => by rw [hc]; exact w')
/-- place -/
theorem f93 (hS : CST n f D a hi hl) (hw : isW (tk (byt n f) a) 1) (hW : DW D) (w : ∀ r (hi' : Nat → Nat → Int32) (hl' : Nat → Nat → Int64), CO n f (lPlace (byt n f) D a) r hi' hl' → CF hi' hi hl' hl → Q (some (.int r)) (mkH hi' hl' sw kp)) : cS (d + 7) 93 [.ref 14] (mkH hi hl sw kp) Q := by
  obtain ⟨hR, hC, hN, z7, z8⟩ := hS
  obtain ⟨⟨w1, w2, w3, w4⟩, hDN, hW'⟩ := hW
  have e0 : hi 5 1 = nI (dP D) := hC.1.2.1
  refine e_93 (d := d + 6) ?_ ?_ <;> rw [e0]
  · intro c
    have hd : dP D < 8 := (nIlt (y := 8) (by omega) (by decide)).mp c
    have E0 : lPlace (byt n f) D a = _ := cI_1 hd
    refine f67r (d := d + 2) hR (by rw [hw.1]; decide) (fun hi1 hl1 r1 q1 => k_93_28 ?_)
    have C1 := hC.ft q1
    have N1 := hN.ft q1
    rw [show hi1 5 1 = nI (dP D) from C1.1.2.1]
    refine f102b (d := d + 1) (N := fun i => dnm D (4 + i)) hd r1 (hDN.nb N1) (fun y1 y2 hi2 hl2 r2 q2 => ?_) (fun w' y => ?_)
    · rw [rdA_1 _ y1 y2, bnd_1] at E0
      have F2 : CF hi2 hi hl2 hl := ((CF.rf.ft q1).l (by decide)).ft q2
      have C2 := C1.ft q2
      have A2 : ∀ i, i < dD D → hl2 15 i = lN (w5 (dnm D i)) ∧ ltr (dnm D i) ∧ w5 (dnm D i) < 2 ^ 62 := fun i q => by
        rw [q2.2 15 (by decide), u2_row_ne (by decide)]
        exact hDN.na N1 i q
      have N2 : ∀ v e, CN (aPlace D (tl (tk (byt n f) (te (tk (byt n f) a)))) v e) hl2 := fun v e => (N1.place w1 hd).ft q2
      have z72 := q2.z7 (q1.z7 z7)
      have z82 := q2.z8 (q1.z8 z8)
      refine k_93_43 (fun z => absurd z (by decide)) (fun _ => f71 (d := d + 1) r2 (by decide) (fun c2 hi3 hl3 r3 q3 => ?_) (fun c2 => ?_))
      · rw [rdW_1 _ ((r2.wd (i := 11) (by decide)).mp c2), bnd_1] at E0
        refine k_93_56 (fun z => absurd z (by decide)) (fun _ => f101 (lo := 0) (up := 9) (d := d) (by decide) (by decide) r3 (fun v1 v2 v3 hi4 hl4 r4 q4 => ?_) (fun w' y => ?_) (Nat.lt_trans tk_v (by decide)))
        · rw [rdN_1 _ v1 v2 v3, bnd_1] at E0
          refine k_93_68 (fun z => absurd z (nm1 (Nat.lt_trans tk_v (by decide)))) (fun _ => f71 (d := d + 1) r4 (by decide) (fun c4 hi5 hl5 r5 q5 => ?_) (fun c4 => ?_))
          · rw [rdW_1 _ ((r4.wd (i := 12) (by decide)).mp c4), bnd_1] at E0
            have T5 := (q3.tr q4).tr q5
            have C5 := C2.ft T5
            refine k_93_84 (fun z => absurd z (by decide)) (fun _ => ?_)
            rw [show hi5 5 0 = nI (dD D) from C5.1.1]
            refine f103a (d := d + 2) (N := dnm D) w1 r5 (fun i q => by rw [T5.2 15 (by decide)]; exact A2 i q) (fun y3 i y4 y5 => ?_) (fun w' y => ?_)
            · rw [rdO_1 _ hDN.1.1 y3 y4 y5, bnd_1] at E0
              refine k_93_104 (fun z => absurd z (nm1 (by omega))) (fun _ => f111 (d := d + 5) hd C5.1.2.1 (k_93_121 (f67r (d := d + 2) (((r5.u (by decide)).u (by decide)).u (by decide)) (by rw [y3.1]; decide) (fun hi6 hl6 r6 q6 => k_93_128 (c_end (d := d + 1) ⟨r6, C5.place.ft q6, ((N2 _ _).ft T5).ft q6, q6.z7 ?_, q6.z8 ?_⟩ E0 (((((F2.ft T5).u (by decide)).u (by decide)).u (by decide)).ft q6) (fun r hi' hl' o1 o2 => k_93_137 o1.r (w r hi' hl' o1 o2)))))))
              · rw [u2_nn (by omega), u2_nn (by omega), u2_nn (by omega)]
                exact T5.z7 z72
              · rw [u2_nn (by omega), u2_nn (by omega), u2_nn (by omega)]
                exact T5.z8 z82
            · rw [rdO_0 _ y, bnd_0] at E0
              exact k_93_104 (fun _ => w 0 _ _ (CO.ft E0) (((F2.ft T5).u (by decide)).u (by decide))) (fun z => absurd rfl z)
          · rw [rdW_0 _ (fun z => c4 ((r4.wd (i := 12) (by decide)).mpr z)), bnd_0] at E0
            exact k_93_84 (fun _ => w 0 _ _ (CO.ft E0) (((F2.ft (q3.tr q4)).u (by decide)).u (by decide))) (fun z => absurd rfl z)
        · rw [rdN_0 _ y, bnd_0] at E0
          exact k_93_68 (fun _ => w 0 _ _ (CO.ft E0) (((F2.ft q3).u (by decide)).u (by decide))) (fun z => absurd rfl z)
      · rw [rdW_0 _ (fun z => c2 ((r2.wd (i := 11) (by decide)).mpr z)), bnd_0] at E0
        exact k_93_56 (fun _ => w 0 _ _ (CO.ft E0) ((F2.u (by decide)).u (by decide))) (fun z => absurd rfl z)
    · rw [rdA_0 _ y, bnd_0] at E0
      exact k_93_43 (fun _ => w 0 _ _ (CO.ft E0) (((CF.rf.ft q1).u (by decide)).u (by decide))) (fun z => absurd rfl z)
  · intro c
    have hd : ¬ dP D < 8 := fun z => c ((nIlt (y := 8) (by omega) (by decide)).mpr z)
    have E0 : lPlace (byt n f) D a = _ := cI_0 hd
    exact f72 (d := d + 4) (w := 2) hR (k_93_20 (Or.inl rfl) (w 0 _ _ (CO.ft E0) ((CF.rf.u (by decide)).u (by decide))))
theorem CI.case {l : List Nat} {v : Nat} (h : CI D hi) : CI (aCase D l v) (u2 (u2 hi 9 (dC D) (nI v)) 5 3 (hi 5 3 + 1)) := by
  obtain ⟨⟨h0, h1, h2, h3, h4⟩, h5, h6, h7, h8, h9, h10, h14⟩ := h
  refine ⟨⟨?_, ?_, ?_, ?_, fun k k1 k2 => ?_⟩, ?_, ?_, fun p hp => ?_, ?_, ?_, ?_, h14.cg ?_ ?_⟩
  · rw [u2_nn (by omega), u2_nn (by omega)]; exact h0
  · rw [u2_nn (by omega), u2_nn (by omega)]; exact h1
  · rw [u2_nn (by omega), u2_nn (by omega)]; exact h2
  · rw [u2_s, h3]
    exact (nI_succ _).symm
  · rw [u2_nn (by omega), u2_nn (by omega)]; exact h4 k k1 k2
  · rw [u2_row_ne (by decide), u2_row_ne (by decide), u2_row_ne (by decide), u2_row_ne (by decide)]; exact h5
  · rw [u2_row_ne (by decide), u2_row_ne (by decide)]; exact h6
  · have hp2 : p < dC D + 1 := hp
    show _ = nI (up1 (dbr D) (dC D) v p)
    rw [u2_row_ne (by decide)]
    by_cases c : p = dC D
    · rw [c, u2_s, up1_s]
    · rw [u2_nn (fun q => c q.2), up1_n c]
      exact h7 p (by omega)
  · rw [u2_row_ne (by decide), u2_row_ne (by decide)]; exact h8
  · rw [u2_row_ne (by decide), u2_row_ne (by decide)]; exact h9
  · rw [u2_row_ne (by decide), u2_row_ne (by decide)]; exact h10
  · rw [u2_row_ne (by decide), u2_row_ne (by decide)]
  · rw [u2_row_ne (by decide), u2_row_ne (by decide)]
theorem f114 {x1 : Int32} (hp : dC D < 4) (e1 : hi 5 3 = nI (dC D)) (w' : Q none (mkH (u2 (u2 hi 9 (dC D) x1) 5 3 (hi 5 3 + 1)) hl sw kp)) : cS (d + 1) 114 [.ref 5, .int x1] (mkH hi hl sw kp) Q := by
  have hc : (hi 5 3).toNatClampNeg = dC D := by rw [e1, nI_clamp (by omega)]
  exact e_114 (fun c => absurd c (by rw [e1]; exact nI_ge (b := 4) hp (by decide))) (fun _ => by rw [e1]; exact vp_in_nI (by omega) (by decide)) (fun _ => by rw [hc]; exact w')
/-- case -/
theorem f95 (hS : CST n f D a hi hl) (hw : isW (tk (byt n f) a) 3) (hW : DW D) (w : ∀ r (hi' : Nat → Nat → Int32) (hl' : Nat → Nat → Int64), CO n f (lCase (byt n f) D a) r hi' hl' → CF hi' hi hl' hl → Q (some (.int r)) (mkH hi' hl' sw kp)) : cS (d + 7) 95 [.ref 14] (mkH hi hl sw kp) Q := by
  obtain ⟨hR, hC, hN, z7, z8⟩ := hS
  obtain ⟨⟨w1, w2, w3, w4⟩, hDN, hW'⟩ := hW
  have e0 : hi 5 3 = nI (dC D) := hC.1.2.2.2.1
  refine e_95 (d := d + 6) ?_ ?_ <;> rw [e0]
  · intro c
    have hd : dC D < 4 := (nIlt (y := 4) (by omega) (by decide)).mp c
    have E0 : lCase (byt n f) D a = _ := cI_1 hd
    refine f67r (d := d + 2) hR (by rw [hw.1]; decide) (fun hi1 hl1 r1 q1 => k_95_27 ?_)
    have C1 := hC.ft q1
    have N1 := hN.ft q1
    rw [show hi1 5 3 = nI (dC D) from C1.1.2.2.2.1]
    refine f102c (d := d + 1) (N := fun i => dnm D (12 + i)) hd r1 (hDN.nc N1) (fun y1 y2 hi2 hl2 r2 q2 => ?_) (fun w' y => ?_)
    · rw [rdA_1 _ y1 y2, bnd_1] at E0
      have F2 : CF hi2 hi hl2 hl := ((CF.rf.ft q1).l (by decide)).ft q2
      have C2 := C1.ft q2
      have N2 : ∀ v, CN (aCase D (tl (tk (byt n f) (te (tk (byt n f) a)))) v) hl2 := fun v => (N1.case w1 w2).ft q2
      have z72 := q2.z7 (q1.z7 z7)
      have z82 := q2.z8 (q1.z8 z8)
      refine k_95_42 (fun z => absurd z (by decide)) (fun _ => f71 (d := d + 1) r2 (by decide) (fun c2 hi3 hl3 r3 q3 => ?_) (fun c2 => ?_))
      · rw [rdW_1 _ ((r2.wd (i := 14) (by decide)).mp c2), bnd_1] at E0
        refine k_95_55 (fun z => absurd z (by decide)) (fun _ => f101 (lo := 1) (up := 15) (d := d) (by decide) (by decide) r3 (fun v1 v2 v3 hi4 hl4 r4 q4 => ?_) (fun w' y => ?_) (Nat.lt_trans tk_v (by decide)))
        · rw [rdN_1 _ v1 v2 v3, bnd_1] at E0
          have T4 := q3.tr q4
          have C4 := C2.ft T4
          refine k_95_67 (fun z => absurd z (nm1 (Nat.lt_trans tk_v (by decide)))) (fun _ => f114 (d := d + 5) hd C4.1.2.2.2.1 (k_95_83 (c_end (d := d + 1) ⟨(r4.u (by decide)).u (by decide), C4.case, (N2 _).ft T4, ?_, ?_⟩ E0 (((F2.ft T4).u (by decide)).u (by decide)) (fun r hi' hl' o1 o2 => k_95_92 o1.r (w r hi' hl' o1 o2)))))
          · rw [u2_nn (by omega), u2_nn (by omega)]
            exact T4.z7 z72
          · rw [u2_nn (by omega), u2_nn (by omega)]
            exact T4.z8 z82
        · rw [rdN_0 _ y, bnd_0] at E0
          exact k_95_67 (fun _ => w 0 _ _ (CO.ft E0) (((F2.ft q3).u (by decide)).u (by decide))) (fun z => absurd rfl z)
      · rw [rdW_0 _ (fun z => c2 ((r2.wd (i := 14) (by decide)).mpr z)), bnd_0] at E0
        exact k_95_55 (fun _ => w 0 _ _ (CO.ft E0) ((F2.u (by decide)).u (by decide))) (fun z => absurd rfl z)
    · rw [rdA_0 _ y, bnd_0] at E0
      exact k_95_42 (fun _ => w 0 _ _ (CO.ft E0) (((CF.rf.ft q1).u (by decide)).u (by decide))) (fun z => absurd rfl z)
  · intro c
    have hd : ¬ dC D < 4 := fun z => c ((nIlt (y := 4) (by omega) (by decide)).mpr z)
    have E0 : lCase (byt n f) D a = _ := cI_0 hd
    exact f72 (d := d + 4) (w := 2) hR (k_95_19 (Or.inl rfl) (w 0 _ _ (CO.ft E0) ((CF.rf.u (by decide)).u (by decide))))
/-- paths -/
theorem CI.path {p q : Nat} (hne : p ≠ q) (h : CI D hi) : CI (aPath D p q) (u2 (u2 (u2 hi 8 p (nI (dld D p ||| 2 ^ q))) 8 q (nI (dld D q ||| 2 ^ p))) 5 2 (hi 5 2 + 1)) := by
  obtain ⟨⟨h0, h1, h2, h3, h4⟩, h5, h6, h7, h8, h9, h10, h14⟩ := h
  refine ⟨⟨?_, ?_, ?_, ?_, fun k k1 k2 => ?_⟩, ?_, fun j hj => ?_, ?_, ?_, ?_, ?_, h14.cg ?_ ?_⟩
  · rw [u2_nn (by omega), u2_nn (by omega), u2_nn (by omega)]; exact h0
  · rw [u2_nn (by omega), u2_nn (by omega), u2_nn (by omega)]; exact h1
  · rw [u2_s, h2]
    exact (nI_succ _).symm
  · rw [u2_nn (by omega), u2_nn (by omega), u2_nn (by omega)]; exact h3
  · rw [u2_nn (by omega), u2_nn (by omega), u2_nn (by omega)]; exact h4 k k1 k2
  · rw [u2_row_ne (by decide), u2_row_ne (by decide), u2_row_ne (by decide), u2_row_ne (by decide), u2_row_ne (by decide), u2_row_ne (by decide)]; exact h5
  · show _ = nI (up1 (up1 (dld D) p (dld D p ||| 2 ^ q)) q (dld D q ||| 2 ^ p) j)
    rw [u2_row_ne (by decide)]
    by_cases c : j = q
    · rw [c, u2_s, up1_s]
    · rw [u2_nn (fun z => c z.2), up1_n c]
      by_cases c2 : j = p
      · rw [c2, u2_s, up1_s]
      · rw [u2_nn (fun z => c2 z.2), up1_n c2]
        exact h6 j hj
  · rw [u2_row_ne (by decide), u2_row_ne (by decide), u2_row_ne (by decide)]; exact h7
  · rw [u2_row_ne (by decide), u2_row_ne (by decide), u2_row_ne (by decide)]; exact h8
  · rw [u2_row_ne (by decide), u2_row_ne (by decide), u2_row_ne (by decide)]; exact h9
  · rw [u2_row_ne (by decide), u2_row_ne (by decide), u2_row_ne (by decide)]; exact h10
  · rw [u2_row_ne (by decide), u2_row_ne (by decide), u2_row_ne (by decide)]
  · rw [u2_row_ne (by decide), u2_row_ne (by decide), u2_row_ne (by decide)]
theorem g108d {m p : Nat} (hp : p < m) (h8 : m ≤ 8) (e : hi 5 1 = nI m) : ¬ g_108d hi (nI p) = 0 := by
  unfold g_108d
  rw [if_neg (nI_pos (by omega)), e, if_neg (nI_ge hp (by omega)), if_neg (show ¬ (8 : Int32) ≤ nI p from nI_ge (b := 8) (by omega) (by decide))]
  decide
theorem g112 {m p q x : Nat} (hp : p < m) (h8 : m ≤ 8) (hq : q < 8) (e : hi 5 1 = nI m) (e8 : hi 8 p = nI x) (hx : x < 256) : g_112 hi (nI p) (nI q) = 0 ↔ x.testBit q = false := by
  unfold g_112
  rw [if_neg (g108d hp h8 e), nI_clamp (by omega), e8]
  have hz := bit8z (a := x) (t := q) (by omega) hq
  rw [Nat.testBit_eq_decide_div_mod_eq]
  by_cases c : ((nI x >>> (nI q &&& 31)) &&& 1) = 0
  · rw [if_pos c]
    have := hz.mp c
    exact ⟨fun _ => decide_eq_false (by omega), fun _ => rfl⟩
  · rw [if_neg c]
    have h1 : ¬ x / 2 ^ q % 2 = 0 := fun z => c (hz.mpr z)
    constructor
    · intro z
      exact absurd z (by decide)
    · intro z
      have := of_decide_eq_false z
      omega
theorem f113 {p q m x y : Nat} (hpm : p < m) (hqm : q < m) (h8 : m ≤ 8) (hne : p ≠ q) (e : hi 5 1 = nI m) (ep : hi 8 p = nI x) (eq : hi 8 q = nI y) (w' : Q none (mkH (u2 (u2 (u2 hi 8 p (nI (x ||| 2 ^ q))) 8 q (nI (y ||| 2 ^ p))) 5 2 (hi 5 2 + 1)) hl sw kp)) : cS (d + 2) 113 [.ref 5, .int (nI p), .int (nI q)] (mkH hi hl sw kp) Q := by
  refine e_113 (d := d) (fun z => absurd z (g108d hpm h8 e)) (fun _ z => absurd z (g108d hqm h8 e)) (fun _ _ => vp_in_nI (by omega) (by decide)) (fun _ _ => vp_in_nI (by omega) (by decide)) (fun _ _ => ?_)
  rw [nI_clamp (by omega), nI_clamp (by omega), u2_nn (i := 8) (j := p) (a := 8) (b := q) (fun z => hne z.2.symm), ep, eq, bt_or (by omega), bt_or (by omega)]
  exact w'
/-- path -/
theorem f94 (hS : CST n f D a hi hl) (hw : isW (tk (byt n f) a) 2) (hW : DW D) (w : ∀ r (hi' : Nat → Nat → Int32) (hl' : Nat → Nat → Int64), CO n f (lPath (byt n f) D a) r hi' hl' → CF hi' hi hl' hl → Q (some (.int r)) (mkH hi' hl' sw kp)) : cS (d + 6) 94 [.ref 14] (mkH hi hl sw kp) Q := by
  obtain ⟨hR, hC, hN, z7, z8⟩ := hS
  obtain ⟨⟨w1, w2, w3, w4⟩, hDN, hdz, hld, hW'⟩ := hW
  have e0 : hi 5 2 = nI (dT D) := hC.1.2.2.1
  refine e_94 (d := d + 3) ?_ ?_ <;> rw [e0]
  · intro c
    have hd : dT D < 16 := (nIlt (y := 16) (by omega) (by decide)).mp c
    have E0 : lPath (byt n f) D a = _ := cI_1 hd
    refine f67r (d := d + 1) hR (by rw [hw.1]; decide) (fun hi1 hl1 r1 q1 => k_94_28 ?_)
    have C1 := hC.ft q1
    have N1 := hN.ft q1
    rw [show hi1 5 1 = nI (dP D) from C1.1.2.1]
    refine f103b (d := d + 1) (N := fun i => dnm D (4 + i)) w2 r1 (hDN.nb N1) (fun y1 p y2 y3 => ?_) (fun w' y => ?_)
    · rw [rdO_1 _ hDN.1.2.1 y1 y2 y3, bnd_1] at E0
      refine k_94_43 (fun z => absurd z (nm1 (by omega))) (fun _ => f67r (d := d + 1) r1 (by rw [y1.1]; decide) (fun hi2 hl2 r2 q2 => k_94_58 (f71 (d := d) r2 (by decide) (fun c2 hi3 hl3 r3 q3 => ?_) (fun c2 => ?_))))
      · rw [rdW_1 _ ((r2.wd (i := 13) (by decide)).mp c2), bnd_1] at E0
        have T3 := q2.tr q3
        have C3 := C1.ft T3
        have N3 := N1.ft T3
        refine k_94_68 (fun z => absurd z (by decide)) (fun _ => ?_)
        rw [show hi3 5 1 = nI (dP D) from C3.1.2.1]
        refine f103b (d := d + 1) (N := fun i => dnm D (4 + i)) w2 r3 (hDN.nb N3) (fun y4 q y5 y6 => ?_) (fun w' y => ?_)
        · rw [rdO_1 _ hDN.1.2.1 y4 y5 y6, bnd_1] at E0
          have F3 : CF hi3 hi hl3 hl := (CF.rf.ft q1).ft T3
          have gz := g112 (x := dld D p) y2 w2 (show q < 8 by omega) C3.1.2.1 (C3.2.2.1 p (by omega)) (hld p)
          refine k_94_88 (fun z => absurd z (nm1 (by omega))) (fun _ z => ?_) (fun _ _ _ => vp_in_nI (by omega) (by decide)) (fun _ z z2 => ?_) (fun _ z z2 => ?_)
          · rw [cI_1 (Or.inl ((nI_eq (by omega) (by omega)).mp z))] at E0
            exact f72 (d := d + 3) (w := 3) r3 (k_94_121 (Or.inl rfl) (w 0 _ _ (CO.ft E0) ((F3.u (by decide)).u (by decide))))
          · have hne : p ≠ q := fun y => z (by rw [y])
            have htb := gz.mp z2
            rw [cI_0 (fun y => by
              rcases y with y | y
              · exact hne y
              · rw [htb] at y
                cases y)] at E0
            refine f113 (d := d + 3) y2 y5 w2 hne C3.1.2.1 (C3.2.2.1 p (by omega)) (C3.2.2.1 q (by omega)) (k_94_131 (f67r (d := d + 1) (((r3.u (by decide)).u (by decide)).u (by decide)) (by rw [y4.1]; decide) (fun hi4 hl4 r4 q4 => k_94_138 (c_end (d := d) ⟨r4, (C3.path hne).ft q4, N3.ft q4, q4.z7 ?_, q4.z8 ?_⟩ E0 ((((F3.u (by decide)).u (by decide)).u (by decide)).ft q4) (fun r hi' hl' o1 o2 => k_94_147 o1.r (w r hi' hl' o1 o2))))))
            · rw [u2_nn (by omega), u2_nn (by omega), u2_nn (by omega)]
              exact T3.z7 (q1.z7 z7)
            · rw [u2_nn (by omega), u2_nn (by omega), u2_nn (by omega)]
              exact T3.z8 (q1.z8 z8)
          · have htb : (dld D p).testBit q = true := by
              cases hb : (dld D p).testBit q
              · exact absurd (gz.mpr hb) z2
              · rfl
            rw [cI_1 (Or.inr htb)] at E0
            exact f72 (d := d + 3) (w := 3) r3 (k_94_121 (Or.inl rfl) (w 0 _ _ (CO.ft E0) ((F3.u (by decide)).u (by decide))))
        · rw [rdO_0 _ y, bnd_0] at E0
          exact k_94_88 (fun _ => w 0 _ _ (CO.ft E0) ((((CF.rf.ft q1).ft T3).u (by decide)).u (by decide))) (fun z => absurd rfl z) (fun z => absurd rfl z) (fun z => absurd rfl z) (fun z => absurd rfl z)
      · rw [rdW_0 _ (fun z => c2 ((r2.wd (i := 13) (by decide)).mpr z)), bnd_0] at E0
        exact k_94_68 (fun _ => w 0 _ _ (CO.ft E0) ((((CF.rf.ft q1).ft q2).u (by decide)).u (by decide))) (fun z => absurd rfl z)
    · rw [rdO_0 _ y, bnd_0] at E0
      exact k_94_43 (fun _ => w 0 _ _ (CO.ft E0) (((CF.rf.ft q1).u (by decide)).u (by decide))) (fun z => absurd rfl z)
  · intro c
    have hd : ¬ dT D < 16 := fun z => c ((nIlt (y := 16) (by omega) (by decide)).mpr z)
    have E0 : lPath (byt n f) D a = _ := cI_0 hd
    exact f72 (d := d + 3) (w := 2) hR (k_94_20 (Or.inl rfl) (w 0 _ _ (CO.ft E0) ((CF.rf.u (by decide)).u (by decide))))
end VCM
