/-! ===== village: the class tells the pull: the loops ===== -/
section VPD
variable {hi hi' : Nat → Nat → Int32} {hl hl' : Nat → Nat → Int64} {n a : Nat} {f : Nat → Int32}
/-- the loop's count never ends it: there are no more tokens -/
theorem PX.fin {le lt lt' n : Nat} {f : Nat → Int32} {S : List Nat} {P : List (Nat × Nat)} {U a i j : Nat} (h : PX le lt n f S P U a i hi hl) (h2 : ∀ T a2, RS n f a2 hi hl → i ≤ a2 → PE le lt (byt n f) S T a2 → PE le lt' (byt n f) S T a2) (hj : j ≤ i) : PX le lt' n f S P U a j hi hl := by
  obtain ⟨T, P2, U2, a2, h1, h3, h4, h5, h6, h7, h8, h9⟩ := h
  exact ⟨T, P2, U2, a2, h1, h3, h4, h2 T a2 h1 h8 h5, h6, h7, by omega, h9⟩
theorem no_tk {a2 : Nat} (hR : RS n f a2 hi hl) (h : 1600 ≤ a2) : ts (tk (byt n f) a2) = 0 ∨ ts (tk (byt n f) a2) = 3 := by
  by_cases c0 : ts (tk (byt n f) a2) = 0
  · exact Or.inl c0
  · by_cases c3 : ts (tk (byt n f) a2) = 3
    · exact Or.inr c3
    · have := hR.lt c0 c3
      omega
theorem g63 (h : RS n f a hi hl) : g_63 (hi 3 2) = 0 ↔ ¬ tmT (tk (byt n f) a) := by
  have i42 : hi 3 2 = 42 ↔ ts (tk (byt n f) a) = 42 := h.sg (k := 42) (by decide) (by decide)
  have i47 : hi 3 2 = 47 ↔ ts (tk (byt n f) a) = 47 := h.sg (k := 47) (by decide) (by decide)
  have i37 : hi 3 2 = 37 ↔ ts (tk (byt n f) a) = 37 := h.sg (k := 37) (by decide) (by decide)
  unfold g_63
  by_cases c1 : hi 3 2 = 42
  · rw [if_pos c1]
    exact ⟨fun z => absurd z (by decide), fun z => absurd (Or.inl (i42.mp c1)) z⟩
  rw [if_neg c1]
  by_cases c2 : hi 3 2 = 47
  · rw [if_pos c2]
    exact ⟨fun z => absurd z (by decide), fun z => absurd (Or.inr (Or.inl (i47.mp c2))) z⟩
  rw [if_neg c2]
  by_cases c3 : hi 3 2 = 37
  · rw [if_pos c3]
    exact ⟨fun z => absurd z (by decide), fun z => absurd (Or.inr (Or.inr (i37.mp c3))) z⟩
  rw [if_neg c3]
  exact ⟨fun _ q => by
    rcases q with q | q | q
    · exact c1 (i42.mpr q)
    · exact c2 (i47.mpr q)
    · exact c3 (i37.mpr q), fun _ => rfl⟩
/-- the token's kind, where it is a sign -/
theorem RS.sk (h : RS n f a hi hl) (hs : 32 < ts (tk (byt n f) a)) : hi 3 2 = nI (ts (tk (byt n f) a)) := by
  rcases h.kd with ⟨z, e⟩ | ⟨z, e⟩ | ⟨z, e⟩ | ⟨z, e⟩ | ⟨z1, z2, e⟩
  · omega
  · omega
  · omega
  · omega
  · exact e
/-- one more operand: the sign's step behind it -/
theorem PX.ad {le lt n : Nat} {f : Nat → Int32} {S : List Nat} {P : List (Nat × Nat)} {U a i s : Nat} {T : List Nat} {P2 : List (Nat × Nat)} {U2 a2 : Nat} {hj : Nat → Nat → Int32} (hs20 : s ≠ 20) (hle : le ≤ tg s) (hR : RS n f a2 hi hl) (hC : CPs (P2 ++ T.map sp ++ [sp s]) U2 hj) (hz : Zf hi) (fr : ∀ c, c ≠ 11 → c ≠ 12 → hj c = hi c) (hE : PE le lt (byt n f) (s :: S) T a2) (hlen : P2.length + T.length + (s :: S).length + 1 ≤ 9 * U2 ∧ a2 ≤ 1600) (hU : U2 ≤ 30) (hia : i ≤ a2) (reach : ∀ o, PM (byt n f) (true, T ++ s :: S, P2, U2, a2) o → PM (byt n f) (false, S, P, U, a) o) : PX le lt n f S P U a i hj hl := by
  have e1 : T ++ [s] ++ S = T ++ s :: S := by rw [List.append_assoc]; rfl
  refine ⟨T ++ [s], P2, U2, a2, hR.fr fr, ?_, hz.cg (fr 3 (by decide) (by decide)), ?_, ?_, hU, hia, ?_⟩
  · rw [List.map_append, ← List.append_assoc]
    exact hC
  · obtain ⟨e2, e3, e4, e5, e6, e7⟩ := hE
    refine ⟨fun x hx => ?_, e3, e4, ?_, e6, e7⟩
    · rcases List.mem_append.mp hx with z | z
      · exact e2 x z
      · rw [List.mem_singleton] at z
        rw [z]
        exact ⟨hs20, hle⟩
    · rw [e1]
      exact e5
  · rw [List.length_append]
    have h2 : P2.length + T.length + (S.length + 1) + 1 ≤ 9 * U2 := hlen.1
    have h3 := hlen.2
    show P2.length + (T.length + 1) + S.length + 1 ≤ 9 * U2 ∧ a2 ≤ 1600
    omega
  · rw [e1]
    exact reach
theorem PE.le {le le' lt : Nat} {b : Nat → Int32} {S T : List Nat} {a : Nat} (h : PE le lt b S T a) (hl : le' ≤ le) : PE le' lt b S T a := ⟨fun s hs => ⟨(h.1 s hs).1, Nat.le_trans hl (h.1 s hs).2⟩, h.2⟩
theorem lp_pi {S T : List Nat} {P2 : List (Nat × Nat)} {U2 a2 x dep kb : Nat} (hC : CPs (P2 ++ T.map sp) U2 hi) (hz : Zf hi) (hd : dp S = dep) (hlen : P2.length + T.length + S.length + 1 ≤ 9 * U2 ∧ a2 ≤ 1600) (hU : U2 ≤ 30) (hlt : a2 < te (tk (byt n f) a2) ∧ te (tk (byt n f) a2) ≤ 1600) (r2 : RS n f (te (tk (byt n f) a2)) hi' hl') (q2 : FT hi' hi hl' hl) (h20 : x ≠ 20) (h21 : x ≠ 21) (hk : tg x < kb) : PI n f (x :: S) (P2 ++ T.map sp) U2 (te (tk (byt n f) a2)) dep kb hi' hl' := by
  refine ⟨r2, hC.ft q2, hz.ft q2, Or.inr hk, ?_, ?_, hU⟩
  · show dp S + (if x = 20 ∨ x = 21 then 1 else 0) = dep
    rw [if_neg (fun z => by omega)]
    exact hd
  · rw [List.length_append, List.length_map]
    show P2.length + T.length + (S.length + 1) ≤ 9 * U2 + _ ∧ _
    omega
theorem lp_ln {T S : List Nat} {P : List (Nat × Nat)} {x a3 U3 : Nat} (h : P.length + T.length + (x :: S).length + 1 ≤ 9 * U3 ∧ a3 ≤ 1600) (hU : U3 ≤ 30) : (P ++ T.map sp).length < 269 := by
  rw [List.length_append, List.length_map]
  have h1 : P.length + T.length + (S.length + 1) + 1 ≤ 9 * U3 := h.1
  have h2 := h.2
  omega
theorem sp_s {x : Nat} (h : x ≠ 21) : sp x = (3, x) := if_neg h
theorem PX.wk {le le' lt n : Nat} {f : Nat → Int32} {S : List Nat} {P : List (Nat × Nat)} {U a i : Nat} (h : PX le lt n f S P U a i hi hl) (hle : le' ≤ le) : PX le' lt n f S P U a i hi hl := by
  obtain ⟨T, P2, U2, a2, h1, h3, h4, h5, h6, h7, h8, h9⟩ := h
  exact ⟨T, P2, U2, a2, h1, h3, h4, h5.le hle, h6, h7, h8, h9⟩
theorem PE.y6 {le : Nat} {b : Nat → Int32} {S T : List Nat} {a : Nat} (h : PE le 7 b S T a) (q : ¬ tmT (tk b a)) : PE le 6 b S T a := ⟨h.1, fun _ => q, fun z => absurd z (by decide), fun z => absurd z (by decide), fun z => absurd z (by decide), fun z => absurd z (by decide)⟩
theorem PE.y5 {le : Nat} {b : Nat → Int32} {S T : List Nat} {a : Nat} (h : PE le 6 b S T a) (q : ¬ pnT (tk b a)) : PE le 5 b S T a := ⟨h.1, fun _ => h.2.1 (by decide), fun _ => q, fun z => absurd z (by decide), fun z => absurd z (by decide), fun z => absurd z (by decide)⟩
theorem PE.y2 {le : Nat} {b : Nat → Int32} {S T : List Nat} {a : Nat} (h : PE le 3 b S T a) (q : ¬ isW (tk b a) 16) : PE le 2 b S T a := ⟨h.1, fun _ => h.2.1 (by decide), fun _ => h.2.2.1 (by decide), fun _ => h.2.2.2.1 (by decide), fun _ => q, fun z => absurd z (by decide)⟩
theorem PE.y1 {le : Nat} {b : Nat → Int32} {S T : List Nat} {a : Nat} (h : PE le 2 b S T a) (q : ¬ isW (tk b a) 15) : PE le 1 b S T a := ⟨h.1, fun _ => h.2.1 (by decide), fun _ => h.2.2.1 (by decide), fun _ => h.2.2.2.1 (by decide), fun _ => h.2.2.2.2.1 (by decide), fun _ => q⟩
theorem PE.z6 {le : Nat} {b : Nat → Int32} {S T : List Nat} {a : Nat} (h : PE le 7 b S T a) (q : ts (tk b a) = 0 ∨ ts (tk b a) = 3) : PE le 6 b S T a := h.y6 (by omega)
theorem PE.z5 {le : Nat} {b : Nat → Int32} {S T : List Nat} {a : Nat} (h : PE le 6 b S T a) (q : ts (tk b a) = 0 ∨ ts (tk b a) = 3) : PE le 5 b S T a := h.y5 (by omega)
theorem PE.z2 {le : Nat} {b : Nat → Int32} {S T : List Nat} {a : Nat} (h : PE le 3 b S T a) (q : ts (tk b a) = 0 ∨ ts (tk b a) = 3) : PE le 2 b S T a := h.y2 (fun z => by have := z.1; omega)
theorem PE.z1 {le : Nat} {b : Nat → Int32} {S T : List Nat} {a : Nat} (h : PE le 2 b S T a) (q : ts (tk b a) = 0 ∨ ts (tk b a) = 3) : PE le 1 b S T a := h.y1 (fun z => by have := z.1; omega)
/-- a term -/
theorem t61 {k dep : Nat} (H : PT 62 7 7 (k + 6) dep true) : PT 61 6 6 (k + 7) dep true := by
  intro Q hi hl sw kp n f S P U a hI hn w
  refine e_61 (d := k + 5) (H _ hi hl sw kp n f S P U a (hI.mono (by decide)) hn (fun r hi1 hl1 pc pf => ?_))
  obtain ⟨_, _, _, hB, hd, _, _⟩ := hI
  rcases pc with ⟨rfl, e, p1, p2, p3⟩ | ⟨rfl, px⟩
  · exact k_61_5 (fun _ => w 0 hi1 hl1 (Or.inl ⟨rfl, e, p1, p2, p3⟩) pf) (fun z => absurd rfl z)
  refine k_61_5 (fun z => absurd z (by decide)) (fun _ => ?_)
  refine lpu (σ := (Nat → Nat → Int32) × (Nat → Nat → Int64) × Option Value) 1600 (fun i s => cW cd_61 (k + 5 + 1) Q 12 [some (.ref 18), some (.int (nI dep)), some (.int (nI i)), s.2.2] [] (mkH s.1 s.2.1 sw kp)) (fun i s => PX 6 7 n f S P U a (a + i) s.1 s.2.1 ∧ PF s.1 hi s.2.1 hl) ?_ ?_ 1600 0 (hi1, hl1, none) (Nat.zero_add _) ⟨px.fin (fun T a2 r1 r2 r3 => r3) (Nat.le_refl _) |>.wk (by decide), pf⟩
  · intro s ⟨p, q⟩
    refine k_61_12 (fun _ => w 1 s.1 s.2.1 (Or.inr ⟨rfl, p.fin (fun T a2 r1 r2 r3 => ?_) (Nat.le_add_right _ _)⟩) q) (fun z => absurd (by decide) z) (fun z => absurd (by decide) z)
    have h0 := no_tk r1 (by omega)
    exact r3.z6 h0
  · intro i s hi16 ⟨p, q⟩ ih
    have h16 : ¬ (1600 : Int32) ≤ nI i := nI_ge (b := 1600) hi16 (by decide)
    obtain ⟨T, P2, U2, a2, hR, hC, hz, hE, hlen, hU, hia, reach⟩ := p
    have go : sgt (tk (byt n f) a2) = ts (tk (byt n f) a2) → ts (tk (byt n f) a2) ≠ 0 → ts (tk (byt n f) a2) ≠ 20 → ts (tk (byt n f) a2) ≠ 21 → tg (ts (tk (byt n f) a2)) = 6 → ts (tk (byt n f) a2) ≠ 0 → ts (tk (byt n f) a2) ≠ 3 → -(s.1 3 2) = f_cnv (nI (sp (ts (tk (byt n f) a2))).1) (nI (sp (ts (tk (byt n f) a2))).2) → cS (k + 6) 67 [.ref 3] (mkH s.1 s.2.1 sw kp) (am_ret (cW cd_61 (k + 5 + 1) Q) 47 [some (.ref 18), some (.int (nI dep)), some (.int (nI i)), some (.int (s.1 3 2))] []) := fun g1 g2 g3 g4 g5 g6 g7 g8 => by
      have hlt := hR.lt g6 g7
      have r0 : ∀ o, PM (byt n f) (false, ts (tk (byt n f) a2) :: S, P2 ++ T.map sp, U2, te (tk (byt n f) a2)) o → PM (byt n f) (false, S, P, U, a) o := fun o y => reach o (pj g1 g2 (fun z => by omega) (by rw [g5]; exact hB) (fun y hy => by rw [g5]; exact hE.1 y hy) y)
      refine f67r (d := k + 2) hR g7 (fun hi2 hl2 r2 q2 => k_61_47 (H _ hi2 hl2 sw kp n f (ts (tk (byt n f) a2) :: S) (P2 ++ T.map sp) U2 (te (tk (byt n f) a2)) (lp_pi hC hz hd hlen hU hlt r2 q2 g3 g4 (by rw [g5]; decide)) (fun _ z => absurd z.2 (fun y => by rcases y with y | y <;> omega)) (fun r hi3 hl3 pc pf3 => ?_)))
      have F3 : PF hi3 hi hl3 hl := (q.ft q2).tr pf3
      rcases pc with ⟨rfl, e, p1, p2, p3⟩ | ⟨rfl, T3, P3, U3, a3, hR3, hC3, hz3, hE3, hlen3, hU3, hge3, reach3⟩
      · exact k_61_52 (fun _ => w 0 hi3 hl3 (Or.inl ⟨rfl, e, r0 _ p1, p2, p3⟩) F3) (fun z => absurd rfl z)
      · refine k_61_52 (fun z => absurd z (by decide)) (fun _ => f8 (d := k + 5) (sp (ts (tk (byt n f) a2))) g8 hC3 (lp_ln hlen3 hU3) (fun hi4 c4 fr4 => k_61_66 ?_))
        rw [← nI_succ]
        exact ih (hi4, hl3, some (.int (s.1 3 2))) ⟨PX.ad g3 (by rw [g5]; decide) hR3 c4 hz3 fr4 (hE3.le (by decide)) hlen3 hU3 (by omega) (fun o y => r0 o (reach3 o y)), F3.fr fr4⟩
    refine k_61_12 (fun z => absurd z h16) (fun _ z => ?_) (fun _ z => ?_)
    · exact w 1 s.1 s.2.1 (Or.inr ⟨rfl, T, P2, U2, a2, hR, hC, hz, hE.y6 ((g63 hR).mp z), hlen, hU, by omega, reach⟩) q
    · have ht : tmT (tk (byt n f) a2) := Classical.byContradiction (fun y => z ((g63 hR).mpr y))
      refine go (sgt_sg (Or.inl ht)) (by omega) (by omega) (by omega) ?_ (by omega) (by omega) ?_
      · rcases ht with y | y | y <;> rw [y] <;> decide
      · rw [hR.sk (by omega), sp_s (by omega)]
        exact cnvD _ (by omega) (by omega)
/-- a sum -/
theorem t60 {k dep : Nat} (H : PT 61 6 6 (k + 7) dep true) : PT 60 5 5 (k + 8) dep true := by
  intro Q hi hl sw kp n f S P U a hI hn w
  refine e_60 (d := k + 7) (H _ hi hl sw kp n f S P U a (hI.mono (by decide)) hn (fun r hi1 hl1 pc pf => ?_))
  obtain ⟨_, _, _, hB, hd, _, _⟩ := hI
  rcases pc with ⟨rfl, e, p1, p2, p3⟩ | ⟨rfl, px⟩
  · exact k_60_5 (fun _ => w 0 hi1 hl1 (Or.inl ⟨rfl, e, p1, p2, p3⟩) pf) (fun z => absurd rfl z)
  refine k_60_5 (fun z => absurd z (by decide)) (fun _ => ?_)
  refine lpu (σ := (Nat → Nat → Int32) × (Nat → Nat → Int64) × Option Value) 1600 (fun i s => cW cd_60 (k + 7) Q 12 [some (.ref 18), some (.int (nI dep)), some (.int (nI i)), s.2.2] [] (mkH s.1 s.2.1 sw kp)) (fun i s => PX 5 6 n f S P U a (a + i) s.1 s.2.1 ∧ PF s.1 hi s.2.1 hl) ?_ ?_ 1600 0 (hi1, hl1, none) (Nat.zero_add _) ⟨px.fin (fun T a2 r1 r2 r3 => r3) (Nat.le_refl _) |>.wk (by decide), pf⟩
  · intro s ⟨p, q⟩
    refine k_60_12 (fun _ => w 1 s.1 s.2.1 (Or.inr ⟨rfl, p.fin (fun T a2 r1 r2 r3 => ?_) (Nat.le_add_right _ _)⟩) q) (fun z => absurd (by decide) z) (fun z => absurd (by decide) z) (fun z => absurd (by decide) z)
    have h0 := no_tk r1 (by omega)
    exact r3.z5 h0
  · intro i s hi16 ⟨p, q⟩ ih
    have h16 : ¬ (1600 : Int32) ≤ nI i := nI_ge (b := 1600) hi16 (by decide)
    obtain ⟨T, P2, U2, a2, hR, hC, hz, hE, hlen, hU, hia, reach⟩ := p
    have go : sgt (tk (byt n f) a2) = ts (tk (byt n f) a2) → ts (tk (byt n f) a2) ≠ 0 → ts (tk (byt n f) a2) ≠ 20 → ts (tk (byt n f) a2) ≠ 21 → tg (ts (tk (byt n f) a2)) = 5 → ts (tk (byt n f) a2) ≠ 0 → ts (tk (byt n f) a2) ≠ 3 → -(s.1 3 2) = f_cnv (nI (sp (ts (tk (byt n f) a2))).1) (nI (sp (ts (tk (byt n f) a2))).2) → cS (k + 7) 67 [.ref 3] (mkH s.1 s.2.1 sw kp) (am_ret (cW cd_60 (k + 7) Q) 58 [some (.ref 18), some (.int (nI dep)), some (.int (nI i)), some (.int (s.1 3 2))] []) := fun g1 g2 g3 g4 g5 g6 g7 g8 => by
      have hlt := hR.lt g6 g7
      have r0 : ∀ o, PM (byt n f) (false, ts (tk (byt n f) a2) :: S, P2 ++ T.map sp, U2, te (tk (byt n f) a2)) o → PM (byt n f) (false, S, P, U, a) o := fun o y => reach o (pj g1 g2 (fun z => by omega) (by rw [g5]; exact hB) (fun y hy => by rw [g5]; exact hE.1 y hy) y)
      refine f67r (d := k + 3) hR g7 (fun hi2 hl2 r2 q2 => k_60_58 (H _ hi2 hl2 sw kp n f (ts (tk (byt n f) a2) :: S) (P2 ++ T.map sp) U2 (te (tk (byt n f) a2)) (lp_pi hC hz hd hlen hU hlt r2 q2 g3 g4 (by rw [g5]; decide)) (fun _ z => absurd z.2 (fun y => by rcases y with y | y <;> omega)) (fun r hi3 hl3 pc pf3 => ?_)))
      have F3 : PF hi3 hi hl3 hl := (q.ft q2).tr pf3
      rcases pc with ⟨rfl, e, p1, p2, p3⟩ | ⟨rfl, T3, P3, U3, a3, hR3, hC3, hz3, hE3, hlen3, hU3, hge3, reach3⟩
      · exact k_60_63 (fun _ => w 0 hi3 hl3 (Or.inl ⟨rfl, e, r0 _ p1, p2, p3⟩) F3) (fun z => absurd rfl z)
      · refine k_60_63 (fun z => absurd z (by decide)) (fun _ => f8 (d := k + 6) (sp (ts (tk (byt n f) a2))) g8 hC3 (lp_ln hlen3 hU3) (fun hi4 c4 fr4 => k_60_77 ?_))
        rw [← nI_succ]
        exact ih (hi4, hl3, some (.int (s.1 3 2))) ⟨PX.ad g3 (by rw [g5]; decide) hR3 c4 hz3 fr4 (hE3.le (by decide)) hlen3 hU3 (by omega) (fun o y => r0 o (reach3 o y)), F3.fr fr4⟩
    have i43 : s.1 3 2 = 43 ↔ ts (tk (byt n f) a2) = 43 := hR.sg (k := 43) (by decide) (by decide)
    have i45 : s.1 3 2 = 45 ↔ ts (tk (byt n f) a2) = 45 := hR.sg (k := 45) (by decide) (by decide)
    have go2 := fun (ht : pnT (tk (byt n f) a2)) => go (sgt_sg (Or.inr (Or.inl ht))) (by omega) (by omega) (by omega) (by rcases ht with y | y <;> rw [y] <;> decide) (by omega) (by omega) (by rw [hR.sk (by omega), sp_s (by omega)]; exact cnvD _ (by omega) (by omega))
    refine k_60_12 (fun z => absurd z h16) (fun _ z => go2 (Or.inl (i43.mp z))) (fun _ _ z => go2 (Or.inr (i45.mp z))) (fun _ z1 z2 => ?_)
    exact w 1 s.1 s.2.1 (Or.inr ⟨rfl, T, P2, U2, a2, hR, hC, hz, hE.y5 (fun y => by rcases y with y | y; exact z1 (i43.mpr y); exact z2 (i45.mpr y)), hlen, hU, by omega, reach⟩) q
/-- a not -/
theorem t59 {k dep : Nat} (hdep : dep ≤ 7) (H : dep < 7 → PT 58 3 4 (k + 7) (dep + 1) false) : ∀ (Q : am_Q) (hi : Nat → Nat → Int32) (hl : Nat → Nat → Int64) (sw : Bool) (kp : Nat → Nat) (n : Nat) (f : Nat → Int32) (S : List Nat) (P : List (Nat × Nat)) (U a : Nat), PI n f S P U a dep 4 hi hl → isW (tk (byt n f) a) 17 → (∀ r hi' hl', PC 3 n f S P U a r hi' hl' → PF hi' hi hl' hl → Q (some (.int r)) (mkH hi' hl' sw kp)) → cS (k + 8) 59 [.ref 18, .int (nI dep)] (mkH hi hl sw kp) Q := by
  intro Q hi hl sw kp n f S P U a hI hw w
  obtain ⟨hR, hP, hz, hB, hd, hlen, hU⟩ := hI
  have h7 : nI dep < 7 ↔ dep < 7 := nIlt (y := 7) (by omega) (by decide)
  refine e_59 (d := k + 7) (fun c => ?_) (fun c => ?_)
  · have hd7 := h7.mp c
    have hlt := hR.lt (by rw [hw.1]; decide) (by rw [hw.1]; decide)
    have st : stP (byt n f) (false, S, P, U, a) = _ := st_not (P := P) (U := U) hw hB (by omega)
    refine f67r (d := k + 3) hR (by rw [hw.1]; decide) (fun hi2 hl2 r2 q2 => k_59_22 ?_)
    rw [← nI_succ]
    refine H hd7 _ hi2 hl2 sw kp n f (21 :: S) P U (te (tk (byt n f) a)) ⟨r2, hP.ft q2, hz.ft q2, Or.inr (by decide), ?_, ?_, hU⟩ (fun z => by cases z) (fun r hi3 hl3 pc pf => ?_)
    · show dp S + (if 21 = 20 ∨ 21 = 21 then 1 else 0) = dep + 1
      rw [if_pos (Or.inr rfl), hd]
    · show P.length + (S.length + 1) ≤ 9 * U + (nt S + 1) ∧ _
      omega
    · have F3 : PF hi3 hi hl3 hl := (PF.rf.ft q2).tr pf
      rcases pc with ⟨rfl, e, p1, p2, p3⟩ | ⟨rfl, T3, P3, U3, a3, hR3, hC3, hz3, hE3, hlen3, hU3, hge3, reach3⟩
      · exact k_59_29 (fun _ => w 0 hi3 hl3 (Or.inl ⟨rfl, e, PM.s st p1, p2, p3⟩) F3) (fun z => absurd rfl z)
      · exact k_59_29 (fun z => absurd z (by decide)) (fun _ => f8 (d := k + 6) (sp 21) (by decide) hC3 (lp_ln hlen3 hU3) (fun hi4 c4 fr4 => k_59_44 (w 1 hi4 hl3 (Or.inr ⟨rfl, PX.ad (by decide) (by decide) hR3 c4 hz3 fr4 hE3 hlen3 hU3 (by omega) (fun o y => PM.s st (reach3 o y))⟩) (F3.fr fr4))))
  · exact f72 (d := k + 5) (w := 2) hR (k_59_14 (Or.inl rfl) (w 0 _ _ (Or.inl ⟨rfl, _, PM.o (st_notf hw hB (fun z => c (h7.mpr (by omega)))), by rw [u2_nn (by decide), u2_s], u2_s⟩) ((PF.rf.u (by decide)).u (by decide))))
/-- a comparison, or a sum -/
theorem t58 {k dep : Nat} (hdep : dep ≤ 7) (H9 : dep < 7 → PT 58 3 4 (k + 7) (dep + 1) false) (H : PT 60 5 5 (k + 8) dep true) : PT 58 3 4 (k + 9) dep false := by
  intro Q hi hl sw kp n f S P U a hI hn w
  have iw : hi 3 2 = 217 ↔ isW (tk (byt n f) a) 17 := hI.1.wd (i := 17) (by decide)
  refine e_58 (d := k + 8) (fun c => t59 hdep H9 _ hi hl sw kp n f S P U a hI (iw.mp c) (fun r hi1 hl1 pc pf => k_58_18 (by rcases pc with ⟨e, _⟩ | ⟨e, _⟩; exact Or.inl e; exact Or.inr e) (w r hi1 hl1 pc pf))) (fun c => ?_)
  refine H _ hi hl sw kp n f S P U a (hI.mono (by decide)) (fun _ z => c (iw.mpr z.1)) (fun r hi1 hl1 pc pf => ?_)
  obtain ⟨_, _, _, hB, hd, _, _⟩ := hI
  rcases pc with ⟨rfl, e, p1, p2, p3⟩ | ⟨rfl, T, P2, U2, a2, hR, hC, hz, hE, hlen, hU, hia, reach⟩
  · exact k_58_24 (fun _ => w 0 hi1 hl1 (Or.inl ⟨rfl, e, p1, p2, p3⟩) pf) (fun z => absurd rfl z) (fun z => absurd rfl z) (fun z => absurd rfl z) (fun z => absurd rfl z)
  have i60 : hi1 3 2 = 60 ↔ ts (tk (byt n f) a2) = 60 := hR.sg (k := 60) (by decide) (by decide)
  have i62 : hi1 3 2 = 62 ↔ ts (tk (byt n f) a2) = 62 := hR.sg (k := 62) (by decide) (by decide)
  have i61 : hi1 3 2 = 61 ↔ ts (tk (byt n f) a2) = 61 := hR.sg (k := 61) (by decide) (by decide)
  have go : rlT (tk (byt n f) a2) → cS (k + 8) 67 [.ref 3] (mkH hi1 hl1 sw kp) (am_ret (cW cd_58 (k + 8) Q) 64 [some (.ref 18), some (.int (nI dep)), some (.int (hi1 3 2))] []) := fun ht => by
    have hlt := hR.lt (by omega) (by omega)
    have g5 : tg (ts (tk (byt n f) a2)) = 4 := by rcases ht with y | y | y <;> rw [y] <;> decide
    have r0 : ∀ o, PM (byt n f) (false, ts (tk (byt n f) a2) :: S, P2 ++ T.map sp, U2, te (tk (byt n f) a2)) o → PM (byt n f) (false, S, P, U, a) o := fun o y => reach o (pj (sgt_sg (Or.inr (Or.inr ht))) (by omega) (fun z => hr_no hB ((hr_ap T hE.1).mp z.2)) (by rw [g5]; exact hB) (fun y hy => by rw [g5]; exact ⟨(hE.1 y hy).1, Nat.le_trans (by decide) (hE.1 y hy).2⟩) y)
    refine f67r (d := k + 4) hR (by omega) (fun hi2 hl2 r2 q2 => k_58_64 (H _ hi2 hl2 sw kp n f (ts (tk (byt n f) a2) :: S) (P2 ++ T.map sp) U2 (te (tk (byt n f) a2)) (lp_pi hC hz hd hlen hU hlt r2 q2 (by omega) (by omega) (by rw [g5]; decide)) (fun _ z => absurd z.2 (fun y => by rcases y with y | y <;> omega)) (fun r hi3 hl3 pc pf3 => ?_)))
    have F3 : PF hi3 hi hl3 hl := (pf.ft q2).tr pf3
    rcases pc with ⟨rfl, e, p1, p2, p3⟩ | ⟨rfl, T3, P3, U3, a3, hR3, hC3, hz3, hE3, hlen3, hU3, hge3, reach3⟩
    · exact k_58_69 (fun _ => w 0 hi3 hl3 (Or.inl ⟨rfl, e, r0 _ p1, p2, p3⟩) F3) (fun z => absurd rfl z)
    · have hE4 : PE 3 3 (byt n f) (ts (tk (byt n f) a2) :: S) T3 a3 := ⟨fun s hs => ⟨(hE3.1 s hs).1, Nat.le_trans (by decide) (hE3.1 s hs).2⟩, fun _ => hE3.2.1 (by decide), fun _ => hE3.2.2.1 (by decide), fun _ _ => (hr_ap T3 hE3.1).mpr (hr_yes (by omega) g5), fun z => absurd z (by decide), fun z => absurd z (by decide)⟩
      refine k_58_69 (fun z => absurd z (by decide)) (fun _ => f8 (d := k + 7) (sp (ts (tk (byt n f) a2))) ?_ hC3 (lp_ln hlen3 hU3) (fun hi4 c4 fr4 => k_58_83 (w 1 hi4 hl3 (Or.inr ⟨rfl, PX.ad (by omega) (by rw [g5]; decide) hR3 c4 hz3 fr4 hE4 hlen3 hU3 (by omega) (fun o y => r0 o (reach3 o y))⟩) (F3.fr fr4))))
      rw [hR.sk (by omega), sp_s (by omega)]
      exact cnvD _ (by omega) (by omega)
  refine k_58_24 (fun z => absurd z (by decide)) (fun _ z => go (Or.inl (i60.mp z))) (fun _ _ z => go (Or.inr (Or.inl (i62.mp z)))) (fun _ _ _ z => go (Or.inr (Or.inr (i61.mp z)))) (fun _ z1 z2 z3 => w 1 hi1 hl1 (Or.inr ⟨rfl, T, P2, U2, a2, hR, hC, hz, ?_, hlen, hU, hia, reach⟩) pf)
  exact ⟨fun s hs => ⟨(hE.1 s hs).1, Nat.le_trans (by decide) (hE.1 s hs).2⟩, fun _ => hE.2.1 (by decide), fun _ => hE.2.2.1 (by decide), fun _ y => by
    rcases y with y | y | y
    · exact absurd (i60.mpr y) z1
    · exact absurd (i62.mpr y) z2
    · exact absurd (i61.mpr y) z3, fun z => absurd z (by decide), fun z => absurd z (by decide)⟩
/-- and -/
theorem t57 {k dep : Nat} (H : PT 58 3 4 (k + 9) dep false) : PT 57 2 2 (k + 10) dep false := by
  intro Q hi hl sw kp n f S P U a hI hn w
  refine e_57 (d := k + 9) (H _ hi hl sw kp n f S P U a (hI.mono (by decide)) hn (fun r hi1 hl1 pc pf => ?_))
  obtain ⟨_, _, _, hB, hd, _, _⟩ := hI
  rcases pc with ⟨rfl, e, p1, p2, p3⟩ | ⟨rfl, px⟩
  · exact k_57_5 (fun _ => w 0 hi1 hl1 (Or.inl ⟨rfl, e, p1, p2, p3⟩) pf) (fun z => absurd rfl z)
  refine k_57_5 (fun z => absurd z (by decide)) (fun _ => ?_)
  refine lpu (σ := (Nat → Nat → Int32) × (Nat → Nat → Int64)) 1600 (fun i s => cW cd_57 (k + 9) Q 12 [some (.ref 18), some (.int (nI dep)), some (.int (nI i))] [] (mkH s.1 s.2 sw kp)) (fun i s => PX 2 3 n f S P U a (a + i) s.1 s.2 ∧ PF s.1 hi s.2 hl) ?_ ?_ 1600 0 (hi1, hl1) (Nat.zero_add _) ⟨px.fin (fun T a2 r1 r2 r3 => r3) (Nat.le_refl _) |>.wk (by decide), pf⟩
  · intro s ⟨p, q⟩
    refine k_57_12 (fun _ => w 1 s.1 s.2 (Or.inr ⟨rfl, p.fin (fun T a2 r1 r2 r3 => ?_) (Nat.le_add_right _ _)⟩) q) (fun z => absurd (by decide) z) (fun z => absurd (by decide) z)
    have h0 := no_tk r1 (by omega)
    exact r3.z2 h0
  · intro i s hi16 ⟨p, q⟩ ih
    have h16 : ¬ (1600 : Int32) ≤ nI i := nI_ge (b := 1600) hi16 (by decide)
    obtain ⟨T, P2, U2, a2, hR, hC, hz, hE, hlen, hU, hia, reach⟩ := p
    have go : sgt (tk (byt n f) a2) = 38 → 38 ≠ 0 → 38 ≠ 20 → 38 ≠ 21 → tg (38) = 2 → ts (tk (byt n f) a2) ≠ 0 → ts (tk (byt n f) a2) ≠ 3 → (-216) = f_cnv (nI (sp (38)).1) (nI (sp (38)).2) → cS (k + 9) 67 [.ref 3] (mkH s.1 s.2 sw kp) (am_ret (cW cd_57 (k + 9) Q) 39 [some (.ref 18), some (.int (nI dep)), some (.int (nI i))] []) := fun g1 g2 g3 g4 g5 g6 g7 g8 => by
      have hlt := hR.lt g6 g7
      have r0 : ∀ o, PM (byt n f) (false, 38 :: S, P2 ++ T.map sp, U2, te (tk (byt n f) a2)) o → PM (byt n f) (false, S, P, U, a) o := fun o y => reach o (pj g1 g2 (fun z => by omega) (by rw [g5]; exact hB) (fun y hy => by rw [g5]; exact hE.1 y hy) y)
      refine f67r (d := k + 5) hR g7 (fun hi2 hl2 r2 q2 => k_57_39 (H _ hi2 hl2 sw kp n f (38 :: S) (P2 ++ T.map sp) U2 (te (tk (byt n f) a2)) (lp_pi hC hz hd hlen hU hlt r2 q2 g3 g4 (by rw [g5]; decide)) (fun z => by cases z) (fun r hi3 hl3 pc pf3 => ?_)))
      have F3 : PF hi3 hi hl3 hl := (q.ft q2).tr pf3
      rcases pc with ⟨rfl, e, p1, p2, p3⟩ | ⟨rfl, T3, P3, U3, a3, hR3, hC3, hz3, hE3, hlen3, hU3, hge3, reach3⟩
      · exact k_57_44 (fun _ => w 0 hi3 hl3 (Or.inl ⟨rfl, e, r0 _ p1, p2, p3⟩) F3) (fun z => absurd rfl z)
      · refine k_57_44 (fun z => absurd z (by decide)) (fun _ => f8 (d := k + 8) (sp (38)) g8 hC3 (lp_ln hlen3 hU3) (fun hi4 c4 fr4 => k_57_59 ?_))
        rw [← nI_succ]
        exact ih (hi4, hl3) ⟨PX.ad g3 (by rw [g5]; decide) hR3 c4 hz3 fr4 (hE3.le (by decide)) hlen3 hU3 (by omega) (fun o y => r0 o (reach3 o y)), F3.fr fr4⟩
    have iw : s.1 3 2 = 216 ↔ isW (tk (byt n f) a2) 16 := hR.wd (i := 16) (by decide)
    refine k_57_12 (fun z => absurd z h16) (fun _ z => ?_) (fun _ z => ?_)
    · have hw := iw.mp z
      exact go (sgt_and hw) (by decide) (by decide) (by decide) (by decide) (by rw [hw.1]; decide) (by rw [hw.1]; decide) (by decide)
    · exact w 1 s.1 s.2 (Or.inr ⟨rfl, T, P2, U2, a2, hR, hC, hz, hE.y2 (fun y => z (iw.mpr y)), hlen, hU, by omega, reach⟩) q
/-- or -/
theorem t56 {k dep : Nat} (H : PT 57 2 2 (k + 10) dep false) : PT 56 1 1 (k + 11) dep false := by
  intro Q hi hl sw kp n f S P U a hI hn w
  refine e_56 (d := k + 10) (H _ hi hl sw kp n f S P U a (hI.mono (by decide)) hn (fun r hi1 hl1 pc pf => ?_))
  obtain ⟨_, _, _, hB, hd, _, _⟩ := hI
  rcases pc with ⟨rfl, e, p1, p2, p3⟩ | ⟨rfl, px⟩
  · exact k_56_5 (fun _ => w 0 hi1 hl1 (Or.inl ⟨rfl, e, p1, p2, p3⟩) pf) (fun z => absurd rfl z)
  refine k_56_5 (fun z => absurd z (by decide)) (fun _ => ?_)
  refine lpu (σ := (Nat → Nat → Int32) × (Nat → Nat → Int64)) 1600 (fun i s => cW cd_56 (k + 10) Q 12 [some (.ref 18), some (.int (nI dep)), some (.int (nI i))] [] (mkH s.1 s.2 sw kp)) (fun i s => PX 1 2 n f S P U a (a + i) s.1 s.2 ∧ PF s.1 hi s.2 hl) ?_ ?_ 1600 0 (hi1, hl1) (Nat.zero_add _) ⟨px.fin (fun T a2 r1 r2 r3 => r3) (Nat.le_refl _) |>.wk (by decide), pf⟩
  · intro s ⟨p, q⟩
    refine k_56_12 (fun _ => w 1 s.1 s.2 (Or.inr ⟨rfl, p.fin (fun T a2 r1 r2 r3 => ?_) (Nat.le_add_right _ _)⟩) q) (fun z => absurd (by decide) z) (fun z => absurd (by decide) z)
    have h0 := no_tk r1 (by omega)
    exact r3.z1 h0
  · intro i s hi16 ⟨p, q⟩ ih
    have h16 : ¬ (1600 : Int32) ≤ nI i := nI_ge (b := 1600) hi16 (by decide)
    obtain ⟨T, P2, U2, a2, hR, hC, hz, hE, hlen, hU, hia, reach⟩ := p
    have go : sgt (tk (byt n f) a2) = 124 → 124 ≠ 0 → 124 ≠ 20 → 124 ≠ 21 → tg (124) = 1 → ts (tk (byt n f) a2) ≠ 0 → ts (tk (byt n f) a2) ≠ 3 → (-215) = f_cnv (nI (sp (124)).1) (nI (sp (124)).2) → cS (k + 10) 67 [.ref 3] (mkH s.1 s.2 sw kp) (am_ret (cW cd_56 (k + 10) Q) 39 [some (.ref 18), some (.int (nI dep)), some (.int (nI i))] []) := fun g1 g2 g3 g4 g5 g6 g7 g8 => by
      have hlt := hR.lt g6 g7
      have r0 : ∀ o, PM (byt n f) (false, 124 :: S, P2 ++ T.map sp, U2, te (tk (byt n f) a2)) o → PM (byt n f) (false, S, P, U, a) o := fun o y => reach o (pj g1 g2 (fun z => by omega) (by rw [g5]; exact hB) (fun y hy => by rw [g5]; exact hE.1 y hy) y)
      refine f67r (d := k + 6) hR g7 (fun hi2 hl2 r2 q2 => k_56_39 (H _ hi2 hl2 sw kp n f (124 :: S) (P2 ++ T.map sp) U2 (te (tk (byt n f) a2)) (lp_pi hC hz hd hlen hU hlt r2 q2 g3 g4 (by rw [g5]; decide)) (fun z => by cases z) (fun r hi3 hl3 pc pf3 => ?_)))
      have F3 : PF hi3 hi hl3 hl := (q.ft q2).tr pf3
      rcases pc with ⟨rfl, e, p1, p2, p3⟩ | ⟨rfl, T3, P3, U3, a3, hR3, hC3, hz3, hE3, hlen3, hU3, hge3, reach3⟩
      · exact k_56_44 (fun _ => w 0 hi3 hl3 (Or.inl ⟨rfl, e, r0 _ p1, p2, p3⟩) F3) (fun z => absurd rfl z)
      · refine k_56_44 (fun z => absurd z (by decide)) (fun _ => f8 (d := k + 9) (sp (124)) g8 hC3 (lp_ln hlen3 hU3) (fun hi4 c4 fr4 => k_56_59 ?_))
        rw [← nI_succ]
        exact ih (hi4, hl3) ⟨PX.ad g3 (by rw [g5]; decide) hR3 c4 hz3 fr4 (hE3.le (by decide)) hlen3 hU3 (by omega) (fun o y => r0 o (reach3 o y)), F3.fr fr4⟩
    have iw : s.1 3 2 = 215 ↔ isW (tk (byt n f) a2) 15 := hR.wd (i := 15) (by decide)
    refine k_56_12 (fun z => absurd z h16) (fun _ z => ?_) (fun _ z => ?_)
    · have hw := iw.mp z
      exact go (sgt_or hw) (by decide) (by decide) (by decide) (by decide) (by rw [hw.1]; decide) (by rw [hw.1]; decide) (by decide)
    · exact w 1 s.1 s.2 (Or.inr ⟨rfl, T, P2, U2, a2, hR, hC, hz, hE.y1 (fun y => z (iw.mpr y)), hlen, hU, by omega, reach⟩) q
theorem t_all : ∀ m dep, dep + m = 7 → ∀ d, PT 56 1 1 (d + 6 * m + 11) dep false ∧ PT 58 3 4 (d + 6 * m + 9) dep false
  | 0, dep, h, d => by
    have h0 : dep = 7 := by omega
    have u := t60 (k := d + 6 * 0) (dep := dep) (t61 (t62 (k := d + 6 * 0) (by omega) (fun z => by omega)))
    have v := t58 (k := d + 6 * 0) (dep := dep) (by omega) (fun z => by omega) u
    exact ⟨t56 (t57 v), v⟩
  | m + 1, dep, h, d => by
    have ih := fun d' => t_all m (dep + 1) (by omega) d'
    have h1 : PT 56 1 1 (d + 6 * (m + 1) + 5) (dep + 1) false := by
      have := (ih d).1
      rw [show d + 6 * m + 11 = d + 6 * (m + 1) + 5 by omega] at this
      exact this
    have h2 : PT 58 3 4 (d + 6 * (m + 1) + 7) (dep + 1) false := by
      have := (ih (d + 4)).2
      rw [show d + 4 + 6 * m + 9 = d + 6 * (m + 1) + 7 by omega] at this
      exact this
    have u := t60 (k := d + 6 * (m + 1)) (dep := dep) (t61 (t62 (k := d + 6 * (m + 1)) (by omega) (fun _ => h1)))
    have v := t58 (k := d + 6 * (m + 1)) (dep := dep) (by omega) (fun _ => h2) u
    exact ⟨t56 (t57 v), v⟩
end VPD
