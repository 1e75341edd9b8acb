/-! ===== village: the reference tells the pull: the whole ===== -/
section VPT
variable {d : Nat} {Q : am_Q} {hi hi' : Nat → Nat → Int32} {hl hl' : Nat → Nat → Int64} {sw : Bool} {kp : Nat → Nat} {n a : Nat} {f : Nat → Int32} {S : List Nat} {P : List (Nat × Nat)} {U : Nat}
/-- open a bracket or a not -/
theorem f189 {x : Nat} (hx : x = 20 ∨ x = 21) (h : RPS n f S P U a hi hl) (hL : S.length ≤ 100) (hs : ts (tk (byt n f) a) ≠ 3) (w : ∀ (hi' : Nat → Nat → Int32) (hl' : Nat → Nat → Int64), RPS n f (x :: S) P U (te (tk (byt n f) a)) hi' hl' → GF hi' hi hl' hl → Q none (mkH hi' hl' sw kp)) : cS (d + 3) 189 [.ref 279, .int (nI x)] (mkH hi hl sw kp) Q := by
  obtain ⟨h1, h2, h3, h4, h5, h6⟩ := h
  have hc : (hi 279 19).toNatClampNeg = S.length := by rw [h4, nI_clamp (by omega)]
  refine e_189 (d := d + 2) (by rw [h4]; exact vp_in_nI (by omega) (by decide)) (fun _ => ?_) (fun z => absurd h1.2.2.2.2.1 z)
  rw [hc]
  refine f170r (d := d) (((h1.u (by omega)).u (by omega)).u (by omega)) hs (fun hi1 hl1 m1 q1 => k_189_41 (w hi1 hl1 ⟨m1, ?_, ?_, ?_, ?_, ?_⟩ ((((GF.rf.u (by omega)).u (by omega)).u (by omega)).fr q1)))
  · exact (h2.cg (hi' := u2 (u2 (u2 hi 286 S.length (nI x)) 279 19 (hi 279 19 + 1)) 279 23 (hi 279 23 + 1)) (by rw [u2_nn (by omega), u2_nn (by omega), u2_nn (by omega)]) (by rw [u2_nn (by omega), u2_nn (by omega), u2_nn (by omega)]) (by rw [u2_row_ne (by decide), u2_row_ne (by decide), u2_row_ne (by decide)]) (by rw [u2_row_ne (by decide), u2_row_ne (by decide), u2_row_ne (by decide)])).fr q1
  · rw [q1.1 279 22 (by omega), u2_nn (by omega), u2_nn (by omega), u2_nn (by omega)]; exact h3
  · rw [q1.1 279 19 (by omega), u2_nn (by omega), u2_s, h4]
    exact (nI_succ _).symm
  · rw [q1.1 279 23 (by omega), u2_s, h5]
    show _ = nI (dp S + (if x = 20 ∨ x = 21 then 1 else 0))
    rw [if_pos hx]
    exact (nI_succ _).symm
  · rw [q1.row (by decide), u2_row_ne (by decide), u2_row_ne (by decide)]
    exact ⟨u2_s, OPN.cg S h6 (fun j hj => u2_nn (by omega))⟩
theorem x189 {e : Nat × Nat} {x : Int32} {m : Nat} (h : FL e hi) (e19 : hi 279 19 = nI m) (hm : m ≤ 100) (w : ∀ (hi' : Nat → Nat → Int32), FL e hi' → RF hi' hi hl hl → Q none (mkH hi' hl sw kp)) : cS (d + 1) 189 [.ref 279, .int x] (mkH hi hl sw kp) Q := by
  refine e_189 (by rw [e19]; exact vp_in_nI (by omega) (by decide)) (fun z => absurd z h.ne) (fun _ => k_189_41 (w _ (((h.u (by omega)).u (by omega)).u (by omega)) (((RF.rf.u (by omega)).u (by omega)).u (by omega))))
theorem x190 {e : Nat × Nat} (h : FL e hi) (w : Q none (mkH hi hl sw kp)) : cW cd_190 (d + 2) Q 2 [some (.ref 279), some (.int 1), none] [] (mkH hi hl sw kp) := k_190_2 (fun z => absurd z (by decide)) (fun z => absurd z (by decide)) (fun z => absurd z (by decide)) (fun z => absurd z (by decide)) (fun z => absurd z (by decide)) (fun z => absurd z (by decide)) (fun _ z => absurd z h.ne) (fun _ z => absurd z h.ne) (fun _ z => absurd z h.ne) (fun _ z => absurd z h.ne) (fun _ z => absurd z h.ne) (fun _ z => absurd z h.ne) (fun _ z => absurd z h.ne) (fun _ z => absurd z h.ne) (fun _ z => absurd z h.ne) (fun _ z => absurd z h.ne) (fun _ z => absurd z h.ne) (fun _ _ z => absurd z h.le) (fun _ _ z => absurd z h.le) (fun _ _ z => absurd z h.le) (fun _ _ z => absurd z h.le) (fun _ _ z => absurd z h.le) (fun _ _ _ => w)
theorem RPS.un (h : RPS n f S P U a hi hl) : RPS n f S P (U + 1) a (u2 (u2 hi 279 20 (hi 279 20 + 1)) 279 22 (hi 279 22 + 1)) hl := by
  obtain ⟨h1, ⟨p1, p2, p3⟩, h3, h4, h5, h6⟩ := h
  refine ⟨(h1.u (by omega)).u (by omega), ⟨?_, ?_, ?_⟩, ?_, ?_, ?_, ?_⟩
  · rw [u2_nn (by omega), u2_nn (by omega)]; exact p1
  · rw [u2_nn (by omega), u2_s, p2]
    exact (nI_succ _).symm
  · intro j x q
    rw [u2_row_ne (a := 282) (by decide), u2_row_ne (a := 282) (by decide), u2_row_ne (a := 283) (by decide), u2_row_ne (a := 283) (by decide)]
    exact p3 j x q
  · rw [u2_s, h3]
    exact (nI_succ _).symm
  · rw [u2_nn (by omega), u2_nn (by omega)]; exact h4
  · rw [u2_nn (by omega), u2_nn (by omega)]; exact h5
  · rw [u2_row_ne (by decide), u2_row_ne (by decide)]; exact h6
theorem PIV.ln {m : Bool} (h : PIV m S P U) : S.length ≤ 40 ∧ P.length + S.length < 310 := by
  have h1 := bn_dp S
  have h2 := h.2.1
  have h3 := h.2.2.1
  have h4 := nt_le S
  cases m with
  | false =>
    have := h.w
    omega
  | true =>
    have := h.h
    omega
/-- units, from where one is wanted -/
theorem c190 {o : PO} : ∀ (k : Nat) (S : List Nat) (P : List (Nat × Nat)) (U a : Nat) (hi : Nat → Nat → Int32) (hl : Nat → Nat → Int64), pm (byt n f) k (false, S, P, U, a) = some o → RPS n f S P U a hi hl → PIV false S P U → (∀ k' S' P' U' a' hi' hl', k' < k → pm (byt n f) k' (true, S', P', U', a') = some o → RPS n f S' P' U' a' hi' hl' → PIV true S' P' U' → GF hi' hi hl' hl → Q none (mkH hi' hl' sw kp)) → (∀ e hi' hl', o = .inl e → FL e hi' → RF hi' hi hl' hl → Q none (mkH hi' hl' sw kp)) → cW cd_190 (d + 1 + 2) Q 2 [some (.ref 279), some (.int 1), none] [] (mkH hi hl sw kp)
  | 0, _, _, _, _, _, _, h, _, _, _, _ => by cases h
  | k + 1, S, P, U, a, hi, hl, h, hS, hI, w1, w0 => by
    have h1 : (match stP (byt n f) (false, S, P, U, a) with
      | .inl s' => pm (byt n f) k s'
      | .inr o => some o) = some o := h
    have hM := hS.1
    have hv := hI.1
    have hU30 := hI.2.2.1
    have hln := hI.ln
    have z2 : hi 279 2 = 0 := hM.2.2.2.2.1
    have le2 : hi 279 2 ≤ 0 := by rw [z2]; decide
    have i17 : ¬ g_172 hi hl (7237492 : Int64) = 0 ↔ isW (tk (byt n f) a) 17 := hM.wd (i := 17) (by decide)
    have i40 : hi 279 6 = 40 ↔ ts (tk (byt n f) a) = 40 := hM.so (k := 40) (by decide)
    have i2 : hi 279 6 = 2 ↔ ts (tk (byt n f) a) = 2 := hM.so (k := 2) (by decide)
    have hg5 := g185 hS hv (by omega)
    have hg7 := g187 hS hU30
    have e23 : hi 279 23 = nI (dp S) := hS.2.2.2.2.1
    have hdp := hI.2.1
    have i6 : hi 279 23 ≤ 6 ↔ dp S ≤ 6 := by rw [e23]; exact nI_leI (b := 6) (by omega) (by decide)
    have e19 : hi 279 19 = nI S.length := hS.2.2.2.1
    have hF := FL.mk (hi := hi) (t := tk (byt n f) a) (w := 2) (by decide) (by decide)
    have F1 : RF (u2 (u2 hi 279 2 (nI (ftw (tk (byt n f) a) 2))) 279 3 (nI (tp (tk (byt n f) a)))) hi hl hl := (RF.rf.u (by omega)).u (by omega)
    have e19' : (u2 (u2 hi 279 2 (nI (ftw (tk (byt n f) a) 2))) 279 3 (nI (tp (tk (byt n f) a)))) 279 19 = nI S.length := by rw [u2_nn (by omega), u2_nn (by omega)]; exact e19
    -- a FAULT here
    have bad : stP (byt n f) (false, S, P, U, a) = .inr (flt (byt n f) 2 a) → o = .inl (ftw (tk (byt n f) a) 2, tp (tk (byt n f) a)) := fun q => by
      rw [q] at h1
      injection h1 with h2
      exact h2.symm
    -- a bracket
    have bra : ts (tk (byt n f) a) = 40 → U < 30 → dp S ≤ 6 → cW cd_190 (d + 1 + 2) Q 83 [some (.ref 279), some (.int 1), none] [] (mkH hi hl sw kp) := fun q1 q2 q3 => by
      rw [st_br q1 q2 q3] at h1
      refine k_190_83 (e_188 (d := d + 2) (k_190_87 (f189 (d := d) (x := 20) (Or.inl rfl) hS.un (by omega) (by omega) (fun hi1 hl1 s1 g1 => k_190_93 ?_))))
      have G1 : GF hi1 hi hl1 hl := ((GF.rf.u (by omega)).u (by omega)).tr g1
      exact c190 k (20 :: S) P (U + 1) _ hi1 hl1 h1 s1 (hI.br q3 q2) (fun k' S' P' U' a' hi' hl' b1 b2 b3 b4 b5 => w1 k' S' P' U' a' hi' hl' (by omega) b2 b3 b4 (G1.tr b5)) (fun e hi' hl' b1 b2 b3 => w0 e hi' hl' b1 b2 (G1.rF.tr b3))
    have braf : ts (tk (byt n f) a) = 40 → ¬ (U < 30 ∧ dp S ≤ 6) → cS (d + 1 + 2) 171 [.ref 279, .int 2] (mkH hi hl sw kp) (am_ret (cW cd_190 (d + 1 + 2) Q) 83 [some (.ref 279), some (.int 1), none] []) := fun q1 q2 => by
      have eo := bad (st_brf q1 q2)
      refine f171 (d := d + 2) (w := 2) hM (k_190_83 (e_188 (d := d + 2) (k_190_87 (x189 (d := d + 2) (m := S.length) ((hF.u (by omega)).u (by omega)) (by rw [u2_nn (by omega), u2_nn (by omega)]; exact e19') (by omega) (fun hi1 f1 f2 => k_190_93 (x190 f1 (w0 _ hi1 hl eo f1 (((F1.u (by omega)).u (by omega)).tr f2))))))))
    -- a not
    have nob : isW (tk (byt n f) a) 17 → PB 4 S → dp S ≤ 6 → cW cd_190 (d + 1 + 2) Q 44 [some (.ref 279), some (.int 1), none] [] (mkH hi hl sw kp) := fun q1 q2 q3 => by
      rw [st_not q1 q2 q3] at h1
      refine k_190_44 (f189 (d := d) (x := 21) (Or.inr rfl) hS (by omega) (by rw [q1.1]; decide) (fun hi1 hl1 s1 g1 => k_190_50 ?_))
      exact c190 k (21 :: S) P U _ hi1 hl1 h1 s1 (hI.not q3) (fun k' S' P' U' a' hi' hl' b1 b2 b3 b4 b5 => w1 k' S' P' U' a' hi' hl' (by omega) b2 b3 b4 (g1.tr b5)) (fun e hi' hl' b1 b2 b3 => w0 e hi' hl' b1 b2 (g1.rF.tr b3))
    have nobf : isW (tk (byt n f) a) 17 → PB 4 S → ¬ dp S ≤ 6 → cS (d + 1 + 2) 171 [.ref 279, .int 2] (mkH hi hl sw kp) (am_ret (cW cd_190 (d + 1 + 2) Q) 44 [some (.ref 279), some (.int 1), none] []) := fun q1 q2 q3 => by
      have eo := bad (st_notf q1 q2 q3)
      exact f171 (d := d + 2) (w := 2) hM (k_190_44 (x189 (d := d + 2) (m := S.length) hF e19' (by omega) (fun hi1 f1 f2 => k_190_50 (x190 f1 (w0 _ hi1 hl eo f1 (F1.tr f2))))))
    -- neither
    have uni : ¬ (isW (tk (byt n f) a) 17 ∧ PB 4 S) → ¬ ts (tk (byt n f) a) = 40 → cW cd_190 (d + 1 + 2) Q 2 [some (.ref 279), some (.int 0), none] [] (mkH hi hl sw kp) := fun q1 q2 => by
      have no0 : ∀ {p : Prop}, ¬ (0 : Int32) = 0 → p := fun z => absurd rfl z
      have flt138 : stP (byt n f) (false, S, P, U, a) = .inr (flt (byt n f) 2 a) → ∀ y : Int32, cS (d + 1 + 2) 171 [.ref 279, .int 2] (mkH hi hl sw kp) (am_ret (cW cd_190 (d + 1 + 2) Q) 138 [some (.ref 279), some (.int 0), some (.int y)] []) := fun q y => by
        have eo := bad q
        exact f171 (d := d + 2) (w := 2) hM (k_190_138 (fun z => absurd z hF.le) (fun _ => w0 _ _ hl eo hF F1))
      have ok138 : ∀ (x : Nat × Nat), ts (tk (byt n f) a) ≠ 3 → U < 30 → (∀ j, j < 30 → fds (some j) x = some (j + 1)) → stP (byt n f) (false, S, P, U, a) = .inl (true, S, P ++ [x], U + 1, te (tk (byt n f) a)) → ∀ y : Int32, (cS (d + 1 + 2) 181 [.ref 279, .int (nI x.1), .int (nI x.2)] (mkH (u2 (u2 hi 279 20 (hi 279 20 + 1)) 279 22 (hi 279 22 + 1)) hl sw kp) (am_ret (cW cd_190 (d + 1 + 2) Q) 175 [some (.ref 279), some (.int 0), some (.int y)] []) → cW cd_190 (d + 1 + 2) Q 150 [some (.ref 279), some (.int 0), some (.int y)] [] (mkH (u2 (u2 hi 279 20 (hi 279 20 + 1)) 279 22 (hi 279 22 + 1)) hl sw kp)) → cW cd_190 (d + 1 + 2) Q 138 [some (.ref 279), some (.int 0), some (.int y)] [] (mkH hi hl sw kp) := fun x u3 u4 u5 st y hk => by
        rw [st] at h1
        refine k_190_138 (fun _ => e_188 (d := d + 2) (hk (f181 (d := d + 2) x hS.un (by omega) (fun hi1 s1 g1 => k_190_175 (f170r (d := d + 1) s1.1 u3 (fun hi2 hl2 m2 q3 => k_190_179 ?_)))))) (fun z => absurd le2 z)
        have s2 : RPS n f S (P ++ [x]) (U + 1) (te (tk (byt n f) a)) hi2 hl2 := by
          obtain ⟨t1, t2, t3, t4, t5, t6⟩ := s1
          exact ⟨m2, t2.fr q3, by rw [q3.1 279 22 (by omega)]; exact t3, by rw [q3.1 279 19 (by omega)]; exact t4, by rw [q3.1 279 23 (by omega)]; exact t5, by rw [q3.row (by decide)]; exact t6⟩
        exact w1 k S (P ++ [x]) (U + 1) _ hi2 hl2 (Nat.lt_succ_self k) h1 s2 (hI.un u4 u5) ((((GF.rf.u (by omega)).u (by omega)).tr g1).fr q3)
      have num1 : ts (tk (byt n f) a) = 2 → U < 30 → cW cd_190 (d + 1 + 2) Q 138 [some (.ref 279), some (.int 0), some (.int (g_186 hi hl))] [] (mkH hi hl sw kp) := fun v1 v2 => by
        have ha : g_186 hi hl = -1 := by
          rcases g186 hM with ⟨_, g⟩ | ⟨j, g1, _⟩
          · exact g
          · have := (ask_i g1).2.1
            omega
        have e8 : hi 279 8 = nI (tv (tk (byt n f) a)) := hM.2.2.2.2.2.1.2.2.2.1 v1
        refine ok138 (0, tv (tk (byt n f) a)) (by omega) v2 (fun j hj => fds_num hj (Nat.lt_trans tk_v (by decide))) (st_num v1 v2) _ (fun hc => k_190_150 (fun z => absurd z (by rw [ha]; decide)) (fun z => absurd z (by rw [ha]; decide)) (fun _ z => absurd z (by rw [ha]; decide)) (fun _ _ => ?_))
        rw [u2_nn (by omega), u2_nn (by omega), e8]
        exact hc
      have ask1 : ∀ j, ask (tk (byt n f) a) = some j → g_186 hi hl = nI j → U < 30 → cW cd_190 (d + 1 + 2) Q 138 [some (.ref 279), some (.int 0), some (.int (g_186 hi hl))] [] (mkH hi hl sw kp) := fun j v1 v0 v2 => by
        obtain ⟨a1, a2, a3⟩ := ask_i v1
        have hp : (0 : Int32) ≤ g_186 hi hl := by rw [v0]; exact nI_pos' (by omega)
        refine ok138 (1, j) (by omega) v2 (fun j' hj => fds_ask hj a1) (st_ask v1 a2 a3 v2) _ (fun hc => k_190_150 (fun _ _ => ?_) (fun z1 z => absurd z1 z) (fun z1 z => absurd z z1) (fun z => absurd hp z))
        rw [v0] at hc ⊢
        exact hc
      refine k_190_2 (fun _ _ z1 z2 => num1 (i2.mp z1) (hg7.mp z2)) (fun _ _ z1 z2 => flt138 (st_wf q1 q2 (Or.inl (fun z => z2 (hg7.mpr z)))) _) (fun _ _ z1 z2 => ?_) (fun _ _ z1 z2 z3 => ?_) (fun _ _ z1 z2 z3 => flt138 (st_wf q1 q2 (Or.inl (fun z => z3 (hg7.mpr z)))) _) (fun _ z => absurd le2 z) (fun z => no0 z) (fun z => no0 z) (fun z => no0 z) (fun z => no0 z) (fun z => no0 z) (fun z => no0 z) (fun z => no0 z) (fun z => no0 z) (fun z => no0 z) (fun z => no0 z) (fun z => no0 z) (fun z => no0 z) (fun z => no0 z) (fun z => no0 z) (fun z => no0 z) (fun z => no0 z) (fun z => no0 z)
      · rcases g186 hM with ⟨g1, g2⟩ | ⟨j, g1, g2⟩
        · exact flt138 (st_wf q1 q2 (Or.inr ⟨fun z => z1 (i2.mpr z), g1⟩)) _
        · rw [g2] at z2
          exact absurd z2 (nI_pos (by have := (ask_i g1).1; omega))
      · rcases g186 hM with ⟨g1, g2⟩ | ⟨j, g1, g2⟩
        · rw [g2] at z2
          exact absurd (by decide) z2
        · exact ask1 j g1 g2 (hg7.mp z3)
    have n10 : ∀ {p : Prop}, (1 : Int32) = 0 → p := fun z => absurd z (by decide)
    refine k_190_2 (fun z => n10 z) (fun z => n10 z) (fun z => n10 z) (fun z => n10 z) (fun z => n10 z) (fun z => n10 z) (fun _ _ y1 y2 y3 y4 => bra (i40.mp y2) (hg7.mp y3) (i6.mp y4)) (fun _ _ y1 y2 y3 y4 => braf (i40.mp y2) (fun z => y4 (i6.mpr z.2))) (fun _ _ y1 y2 y3 => braf (i40.mp y2) (fun z => y3 (hg7.mpr z.1))) (fun _ _ y1 y2 => uni (fun z => i17.mpr z.1 y1) (fun z => y2 (i40.mpr z))) (fun _ _ _ => hg5.2) (fun _ _ y1 y0 y2 y3 y4 => bra (i40.mp y2) (hg7.mp y3) (i6.mp y4)) (fun _ _ y1 y0 y2 y3 y4 => braf (i40.mp y2) (fun z => y4 (i6.mpr z.2))) (fun _ _ y1 y0 y2 y3 => braf (i40.mp y2) (fun z => y3 (hg7.mpr z.1))) (fun _ _ y1 y0 y2 => uni (fun z => hg5.1.mpr z.2 y0) (fun z => y2 (i40.mpr z))) (fun _ _ y1 y0 y2 => nob (i17.mp y1) (hg5.1.mp y0) (i6.mp y2)) (fun _ _ y1 y0 y2 => nobf (i17.mp y1) (hg5.1.mp y0) (fun z => y2 (i6.mpr z))) (fun _ z => absurd z2 z) (fun _ z => absurd z2 z) (fun _ z => absurd z2 z) (fun _ z => absurd z2 z) (fun _ z => absurd z2 z) (fun _ z => absurd z2 z)
end VPT
