/-! ===== village: the class's lines that may stand once; a line; the whole text ===== -/
section VCO
variable {d : Nat} {Q : am_Q} {hi hi' : Nat → Nat → Int32} {hl hl' : Nat → Nat → Int64} {sw : Bool} {kp : Nat → Nat} {n a : Nat} {f : Nat → Int32} {D : Dr}
theorem sb200 : ∀ i, i < 16 → nI (200 + i) - 200 = nI i := by decide +kernel
theorem CN.on {i k v : Nat} (h : CN (aTo D i) hl) : CN (aOnce D i k v) hl := by
  unfold CN aTo at h
  unfold CN aOnce
  dsimp only [dD, dP, dC, dnm] at h ⊢
  exact h
theorem CN.pu {P : List (Nat × Nat)} {U : Nat} (h : CN (aTo D 5) hl) : CN (aPull D P U) hl := by
  unfold CN aTo at h
  unfold CN aPull
  dsimp only [dD, dP, dC, dnm] at h ⊢
  exact h
theorem CN.of {i : Nat} (h : CN (aTo D i) hl) : CN D hl := by
  unfold CN aTo at h
  unfold CN
  dsimp only [dD, dP, dC, dnm] at h ⊢
  exact h
theorem CN.to {i : Nat} (h : CN D hl) : CN (aTo D i) hl := by
  unfold CN at h
  unfold CN aTo
  dsimp only [dD, dP, dC, dnm] at h ⊢
  exact h
theorem f98c {i : Nat} (h10 : i ≤ 10) (hS : CST n f D a hi hl) (hw : isW (tk (byt n f) a) i) (w0 : (dom D).testBit i = true → Q (some (.int 0)) (mkH (u2 (u2 hi 3 7 (nI (ftw (tk (byt n f) a) 2))) 3 8 (nI (tp (tk (byt n f) a)))) hl sw kp)) (w1 : (dom D).testBit i = false → ∀ (x2 : Int32) (hi1 : Nat → Nat → Int32) (hl1 : Nat → Nat → Int64), CST n f (aTo D i) (te (tk (byt n f) a)) hi1 hl1 → CF hi1 hi hl1 hl → cW cd_98 (d + 4) Q 43 [some (.ref 14), some (.int (nI (200 + i))), some (.int x2), none] [] (mkH hi1 hl1 sw kp)) : cS (d + 5) 98 [.ref 14, .int (nI (200 + i))] (mkH hi hl sw kp) Q := by
  obtain ⟨hR, hC, hN, z7, z8⟩ := hS
  have e6 : hi 14 6 = nI (dom D) := hC.2.2.2.2.2.1
  have hs := sb200 i (by omega)
  refine e_98 (d := d + 4) (fun c => ?_) (fun c => ?_)
  · have hb : (dom D).testBit i = false := by
      rw [e6, hs, bt_an (by omega)] at c
      exact c
    have e7 : hi 14 6 ||| ((1 : Int32) <<< ((nI (200 + i) - 200) &&& 31)) = nI (dom D ||| 2 ^ i) := by
      rw [e6, hs, bt_or (by omega)]
    rw [e7]
    refine f67r (d := d) (hR.u (by decide)) (by rw [hw.1]; decide) (fun hi1 hl1 r1 q1 => w1 hb _ hi1 hl1 ⟨r1, hC.to.ft q1, hN.to.ft q1, q1.z7 ?_, q1.z8 ?_⟩ ((CF.rf.u (by decide)).ft q1))
    · rw [u2_nn (by decide)]
      exact z7
    · rw [u2_nn (by decide)]
      exact z8
  · have hb : (dom D).testBit i = true := by
      rw [e6, hs, bt_an (by omega)] at c
      cases hb : (dom D).testBit i
      · exact absurd hb c
      · rfl
    exact f72 (d := d + 2) (w := 2) hR (k_98_25 (Or.inl rfl) (w0 hb))
theorem f99 (hR : RS n f a hi hl) (hDN : DN D) (w2 : dP D ≤ 8) (e1 : hi 5 1 = nI (dP D)) (hN : CN D hl) (w1 : ∀ p, rdO (byt n f) (fun i => dnm D (4 + i)) (dP D) a = .inr (p, a) → p < dP D → ∀ (hi' : Nat → Nat → Int32) (hl' : Nat → Nat → Int64), RS n f (te (tk (byt n f) a)) hi' hl' → FT hi' (u2 hi 5 6 (nI p)) hl' hl → Q (some (.int 1)) (mkH hi' hl' sw kp)) (w0 : ∀ w, rdO (byt n f) (fun i => dnm D (4 + i)) (dP D) a = flt (byt n f) w a → Q (some (.int 0)) (mkH (u2 (u2 hi 3 7 (nI (ftw (tk (byt n f) a) w))) 3 8 (nI (tp (tk (byt n f) a)))) hl sw kp)) : cS (d + 5) 99 [.ref 14] (mkH hi hl sw kp) Q := by
  refine e_99 (d := d + 4) ?_
  rw [e1]
  exact f103b (d := d) (N := fun i => dnm D (4 + i)) w2 hR (hDN.nb hN) (fun y1 p y2 y3 => k_99_15 (fun z => absurd z (nm1 (by omega))) (fun _ => f67r (d := d) (hR.u (by decide)) (by rw [y1.1]; decide) (fun hi1 hl1 r1 q1 => k_99_38 (w1 p (rdO_1 _ hDN.1.2.1 y1 y2 y3) y2 hi1 hl1 r1 q1)))) (fun w y => k_99_15 (fun _ => w0 w (rdO_0 _ y)) (fun z => absurd rfl z))
theorem CI.on {i k v : Nat} (hk : 4 ≤ k ∧ k ≤ 8) (h : CI (aTo D i) hi) : CI (aOnce D i k v) (u2 hi 5 k (nI v)) := CI.vl (D := aTo D i) hk h
/-- start -/
theorem f98s (hS : CST n f D a hi hl) (hw : isW (tk (byt n f) a) 8) (hW : DW D) (w : ∀ r (hi' : Nat → Nat → Int32) (hl' : Nat → Nat → Int64), CO n f (lStart (byt n f) D a) r hi' hl' → CF hi' hi hl' hl → Q (some (.int r)) (mkH hi' hl' sw kp)) : cS (d + 6) 98 [.ref 14, .int (nI (200 + 8))] (mkH hi hl sw kp) Q := by
  obtain ⟨⟨w1, w2, w3, w4⟩, hDN, hW'⟩ := hW
  refine f98c (d := d + 1) (i := 8) (by decide) hS hw (fun hb => ?_) (fun hb x2 hi1 hl1 S1 F1 => ?_)
  · have E0 : lStart (byt n f) D a = _ := cI_0 (by rw [hb]; decide)
    exact w 0 _ _ (CO.ft E0) ((CF.rf.u (by decide)).u (by decide))
  · have E0 : lStart (byt n f) D a = _ := cI_1 hb
    obtain ⟨r1, C1, N1, z71, z81⟩ := S1
    refine k_98_43 (fun z => absurd z (by decide)) (fun _ z => absurd z (by decide)) (fun _ _ z => absurd z (by decide)) (fun _ _ _ _ => f99 (d := d) (D := D) r1 hDN w2 C1.1.2.1 N1.of (fun p E hp hi2 hl2 r2 q2 => ?_) (fun w' E => ?_)) (fun _ _ _ z => absurd (by decide) z) (fun _ _ _ z => absurd (by decide) z)
    · rw [E, bnd_1] at E0
      refine k_98_96 (fun z => absurd z (by decide)) (fun _ => c_end (d := d) (D' := aOnce D 8 6 p) ⟨r2, (CI.on (i := 8) (k := 6) (v := p) (by decide) C1).ft q2, (CN.on (k := 6) (v := p) N1).ft q2, q2.z7 ?_, q2.z8 ?_⟩ E0 ((F1.u (by decide)).ft q2) (fun r hi' hl' o1 o2 => ?_))
      · rw [u2_nn (by decide)]
        exact z71
      · rw [u2_nn (by decide)]
        exact z81
      · rcases o1.r with rfl | rfl
        · exact k_98_247 (fun _ => w 0 hi' hl' o1 o2) (fun z => absurd rfl z)
        · exact k_98_247 (fun z => absurd z (by decide)) (fun _ => w 1 hi' hl' o1 o2)
    · rw [E, bnd_0] at E0
      exact k_98_96 (fun _ => w 0 _ _ (CO.ft E0) ((F1.u (by decide)).u (by decide))) (fun z => absurd rfl z)
/-- a line with a number -/
theorem f98n {i k lo up : Nat} (hx : (i = 6 ∧ k = 4 ∧ lo = 1 ∧ up = 24) ∨ (i = 7 ∧ k = 5 ∧ lo = 1 ∧ up = 24) ∨ (i = 9 ∧ k = 7 ∧ lo = 0 ∧ up = 99) ∨ (i = 10 ∧ k = 8 ∧ lo = 0 ∧ up = 999)) (hS : CST n f D a hi hl) (hw : isW (tk (byt n f) a) i) (w : ∀ r (hi' : Nat → Nat → Int32) (hl' : Nat → Nat → Int64), CO n f (lNum (byt n f) D i k lo up a) r hi' hl' → CF hi' hi hl' hl → Q (some (.int r)) (mkH hi' hl' sw kp)) : cS (d + 8) 98 [.ref 14, .int (nI (200 + i))] (mkH hi hl sw kp) Q := by
  refine f98c (d := d + 3) (i := i) (by omega) hS hw (fun hb => ?_) (fun hb x2 hi1 hl1 S1 F1 => ?_)
  · have E0 : lNum (byt n f) D i k lo up a = _ := cI_0 (by rw [hb]; decide)
    exact w 0 _ _ (CO.ft E0) ((CF.rf.u (by decide)).u (by decide))
  · have E0 : lNum (byt n f) D i k lo up a = _ := cI_1 hb
    obtain ⟨r1, C1, N1, z71, z81⟩ := S1
    have hv : tv (tk (byt n f) (te (tk (byt n f) a))) < 2 ^ 20 := Nat.lt_trans tk_v (by decide)
    have good : rdN (byt n f) lo up (te (tk (byt n f) a)) = .inr (tv (tk (byt n f) (te (tk (byt n f) a))), te (tk (byt n f) (te (tk (byt n f) a)))) → ∀ (hi2 : Nat → Nat → Int32) (hl2 : Nat → Nat → Int64), RS n f (te (tk (byt n f) (te (tk (byt n f) a)))) hi2 hl2 → FT hi2 hi1 hl2 hl1 → cS (d + 7) 71 [.ref 3, .int 59] (mkH (u2 hi2 5 k (nI (tv (tk (byt n f) (te (tk (byt n f) a)))))) hl2 sw kp) (am_ret (cW cd_98 (d + 7) Q) 247 [some (.ref 14), some (.int (nI (200 + i))), some (.int x2), some (.int 1)] []) := fun E hi2 hl2 r2 q2 => by
      rw [E, bnd_1] at E0
      refine c_end (d := d + 2) (D' := aOnce D i k (tv (tk (byt n f) (te (tk (byt n f) a))))) ⟨r2.u (by decide), CI.on (i := i) (k := k) (by omega) (C1.ft q2), (CN.on (k := k) (v := tv (tk (byt n f) (te (tk (byt n f) a)))) N1).ft q2, ?_, ?_⟩ E0 ((F1.ft q2).u (by decide)) (fun r hi' hl' o1 o2 => ?_)
      · rw [u2_nn (by omega)]
        exact q2.z7 z71
      · rw [u2_nn (by omega)]
        exact q2.z8 z81
      · rcases o1.r with rfl | rfl
        · exact k_98_247 (fun _ => w 0 hi' hl' o1 o2) (fun z => absurd rfl z)
        · exact k_98_247 (fun z => absurd z (by decide)) (fun _ => w 1 hi' hl' o1 o2)
    have bad : ∀ w', rdN (byt n f) lo up (te (tk (byt n f) a)) = flt (byt n f) w' (te (tk (byt n f) a)) → Q (some (.int 0)) (mkH (u2 (u2 (u2 hi1 3 7 (nI (ftw (tk (byt n f) (te (tk (byt n f) a))) w'))) 3 8 (nI (tp (tk (byt n f) (te (tk (byt n f) a)))))) 5 k (-1)) hl1 sw kp) := fun w' E => by
      rw [E, bnd_0] at E0
      refine w 0 _ _ (Or.inl ⟨_, E0, rfl, ?_, ?_⟩) (((F1.u (by decide)).u (by decide)).u (by decide))
      · rw [u2_nn (by omega), u2_nn (by decide), u2_s]
      · rw [u2_nn (by omega), u2_s]
    rcases hx with ⟨rfl, rfl, rfl, rfl⟩ | ⟨rfl, rfl, rfl, rfl⟩ | ⟨rfl, rfl, rfl, rfl⟩ | ⟨rfl, rfl, rfl, rfl⟩
    · exact k_98_43 (fun z => absurd z (by decide)) (fun _ _ => f101 (lo := 1) (up := 24) (d := d + 1) (by decide) (by decide) r1 (fun v1 v2 v3 hi2 hl2 r2 q2 => k_98_111 (fun z => absurd z (nm1 (by omega))) (fun _ => good (rdN_1 _ v1 v2 v3) hi2 hl2 r2 q2)) (fun w y => k_98_111 (fun _ => bad w (rdN_0 _ y)) (fun z => absurd rfl z)) hv) (fun _ z => absurd (by decide) z) (fun _ z => absurd (by decide) z) (fun _ z => absurd (by decide) z) (fun _ z => absurd (by decide) z)
    · exact k_98_43 (fun z => absurd z (by decide)) (fun _ z => absurd z (by decide)) (fun _ _ _ => f101 (lo := 1) (up := 24) (d := d + 1) (by decide) (by decide) r1 (fun v1 v2 v3 hi2 hl2 r2 q2 => k_98_145 (fun z => absurd z (nm1 (by omega))) (fun _ => good (rdN_1 _ v1 v2 v3) hi2 hl2 r2 q2)) (fun w y => k_98_145 (fun _ => bad w (rdN_0 _ y)) (fun z => absurd rfl z)) hv) (fun _ _ z => absurd (by decide) z) (fun _ _ z => absurd (by decide) z) (fun _ _ z => absurd (by decide) z)
    · exact k_98_43 (fun z => absurd z (by decide)) (fun _ z => absurd z (by decide)) (fun _ _ z => absurd z (by decide)) (fun _ _ _ z => absurd z (by decide)) (fun _ _ _ _ _ => f101 (lo := 0) (up := 99) (d := d + 1) (by decide) (by decide) r1 (fun v1 v2 v3 hi2 hl2 r2 q2 => k_98_179 (fun z => absurd z (nm1 (by omega))) (fun _ => good (rdN_1 _ v1 v2 v3) hi2 hl2 r2 q2)) (fun w y => k_98_179 (fun _ => bad w (rdN_0 _ y)) (fun z => absurd rfl z)) hv) (fun _ _ _ _ z => absurd (by decide) z)
    · exact k_98_43 (fun z => absurd z (by decide)) (fun _ z => absurd z (by decide)) (fun _ _ z => absurd z (by decide)) (fun _ _ _ z => absurd z (by decide)) (fun _ _ _ _ z => absurd z (by decide)) (fun _ _ _ _ _ => f101 (lo := 0) (up := 999) (d := d + 1) (by decide) (by decide) r1 (fun v1 v2 v3 hi2 hl2 r2 q2 => k_98_214 (fun z => absurd z (nm1 (by omega))) (fun _ => good (rdN_1 _ v1 v2 v3) hi2 hl2 r2 q2)) (fun w y => k_98_214 (fun _ => bad w (rdN_0 _ y)) (fun z => absurd rfl z)) hv)
end VCO
