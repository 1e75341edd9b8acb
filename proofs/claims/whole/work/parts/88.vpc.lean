/-! ===== village: the class tells the pull ===== -/
section VPC
variable {d : Nat} {Q : am_Q} {hi hi' : Nat → Nat → Int32} {hl hl' : Nat → Nat → Int64} {sw : Bool} {kp : Nat → Nat} {n a : Nat} {f : Nat → Int32}
def PF (hi' hi : Nat → Nat → Int32) (hl' hl : Nat → Nat → Int64) : Prop := (∀ c, c ≠ 3 → c ≠ 11 → c ≠ 12 → hi' c = hi c) ∧ ∀ c, c ≠ 3 → hl' c = hl c
theorem PF.rf : PF hi hi hl hl := ⟨fun _ _ _ _ => rfl, fun _ _ => rfl⟩
theorem PF.tr {hj : Nat → Nat → Int32} {hm : Nat → Nat → Int64} (h : PF hi' hi hl' hl) (e : PF hj hi' hm hl') : PF hj hi hm hl := ⟨fun c q1 q2 q3 => (e.1 c q1 q2 q3).trans (h.1 c q1 q2 q3), fun c q => (e.2 c q).trans (h.2 c q)⟩
theorem PF.ft {hj : Nat → Nat → Int32} {hm : Nat → Nat → Int64} (h : PF hi' hi hl' hl) (e : FT hj hi' hm hl') : PF hj hi hm hl := ⟨fun c q1 q2 q3 => (e.row q1).trans (h.1 c q1 q2 q3), fun c q => (e.2 c q).trans (h.2 c q)⟩
theorem PF.u {k j : Nat} {x : Int32} (h : PF hi' hi hl' hl) (hk : k = 3 ∨ k = 11 ∨ k = 12) : PF (u2 hi' k j x) hi hl' hl := ⟨fun c q1 q2 q3 => by rw [u2_row_ne (by omega)]; exact h.1 c q1 q2 q3, h.2⟩
theorem CPs.ft {P : List (Nat × Nat)} {U : Nat} (h : CPs P U hi) (e : FT hi' hi hl' hl) : CPs P U hi' := h.cg (e.row (by decide)) (e.row (by decide))
theorem CPs.un {P : List (Nat × Nat)} {U : Nat} (h : CPs P U hi) : CPs P (U + 1) (u2 hi 11 3 (hi 11 3 + 1)) := by
  obtain ⟨h1, h2, h3⟩ := h
  refine ⟨by rw [u2_nn (by decide)]; exact h1, by rw [u2_s, h2]; exact (nI_succ _).symm, fun j x q => by rw [u2_nn (by omega)]; exact h3 j x q⟩
theorem CPs.ad {P : List (Nat × Nat)} {U : Nat} (h : CPs P U hi) (x : Nat × Nat) : CPs (P ++ [x]) U (u2 (u2 hi 12 P.length (f_cnv (nI x.1) (nI x.2))) 11 2 (hi 11 2 + 1)) := by
  obtain ⟨h1, h2, h3⟩ := h
  refine ⟨?_, ?_, fun j y q => ?_⟩
  · rw [u2_s, h1, List.length_append]
    exact (nI_succ _).symm
  · rw [u2_nn (by decide), u2_nn (by omega)]
    exact h2
  · rw [u2_nn (by omega)]
    rcases Nat.lt_trichotomy j P.length with z | z | z
    · rw [List.getElem?_append_left z] at q
      rw [u2_nn (by omega)]
      exact h3 j y q
    · subst z
      rw [List.getElem?_append_right (Nat.le_refl _), Nat.sub_self] at q
      have e : x = y := by simpa using q
      rw [u2_s, e]
    · rw [List.getElem?_append_right (by omega), List.getElem?_eq_none (by show 1 ≤ j - P.length; omega)] at q
      cases q
theorem f8 {P : List (Nat × Nat)} {U : Nat} {v : Int32} (x : Nat × Nat) (hv : v = f_cnv (nI x.1) (nI x.2)) (h : CPs P U hi) (hP : P.length < 269) (w' : ∀ hi', CPs (P ++ [x]) U hi' → (∀ c, c ≠ 11 → c ≠ 12 → hi' c = hi c) → Q none (mkH hi' hl sw kp)) : cS (d + 1) 8 [.ref 11, .int v] (mkH hi hl sw kp) Q := by
  have hc : (hi 11 2).toNatClampNeg = P.length := by rw [h.1, nI_clamp (by omega)]
  refine e_8 (fun c => absurd c (by rw [h.1]; exact nI_ge (b := 269) hP (by decide))) (fun _ => by rw [h.1]; exact vp_in_nI (by omega) (by decide)) (fun _ => ?_)
  rw [hc, hv]
  exact w' _ (h.ad x) (fun c a1 a2 => by rw [u2_row_ne a1, u2_row_ne a2])
theorem RS.fr (h : RS n f a hi hl) (e : ∀ c, c ≠ 11 → c ≠ 12 → hi' c = hi c) : RS n f a hi' hl := h.cg (e 1 (by decide) (by decide)) (e 2 (by decide) (by decide)) (e 3 (by decide) (by decide)) rfl rfl
theorem PF.fr {hj : Nat → Nat → Int32} (h : PF hi' hi hl' hl) (e : ∀ c, c ≠ 11 → c ≠ 12 → hj c = hi' c) : PF hj hi hl' hl := ⟨fun c q1 q2 q3 => (e c q2 q3).trans (h.1 c q1 q2 q3), h.2⟩
abbrev Zf (hi : Nat → Nat → Int32) : Prop := hi 3 7 = 0 ∧ hi 3 8 = -1
theorem Zf.ft (h : Zf hi) (e : FT hi' hi hl' hl) : Zf hi' := ⟨e.z7 h.1, e.z8 h.2⟩
theorem Zf.cg (h : Zf hi) (e : hi' 3 = hi 3) : Zf hi' := by
  unfold Zf
  rw [e]
  exact h
/-- before a piece of the formula -/
def PI (n : Nat) (f : Nat → Int32) (S : List Nat) (P : List (Nat × Nat)) (U a dep kb : Nat) (hi : Nat → Nat → Int32) (hl : Nat → Nat → Int64) : Prop := RS n f a hi hl ∧ CPs P U hi ∧ Zf hi ∧ PB kb S ∧ dp S = dep ∧ (P.length + S.length ≤ 9 * U + nt S ∧ a ≤ 1600) ∧ U ≤ 30
/-- what may stand behind a piece -/
def PE (le lt : Nat) (b : Nat → Int32) (S T : List Nat) (a : Nat) : Prop := (∀ s, s ∈ T → s ≠ 20 ∧ le ≤ tg s) ∧ (lt ≤ 6 → ¬ tmT (tk b a)) ∧ (lt ≤ 5 → ¬ pnT (tk b a)) ∧ (lt ≤ 3 → rlT (tk b a) → hr (T ++ S)) ∧ (lt ≤ 2 → ¬ isW (tk b a) 16) ∧ (lt ≤ 1 → ¬ isW (tk b a) 15)
/-- behind a piece: the machine has come to the same place, with the signs T still open -/
def PX (le lt n : Nat) (f : Nat → Int32) (S : List Nat) (P : List (Nat × Nat)) (U a i : Nat) (hi : Nat → Nat → Int32) (hl : Nat → Nat → Int64) : Prop := ∃ (T : List Nat) (P2 : List (Nat × Nat)) (U2 a2 : Nat), RS n f a2 hi hl ∧ CPs (P2 ++ T.map sp) U2 hi ∧ Zf hi ∧ PE le lt (byt n f) S T a2 ∧ (P2.length + T.length + S.length + 1 ≤ 9 * U2 ∧ a2 ≤ 1600) ∧ U2 ≤ 30 ∧ i ≤ a2 ∧ ∀ o, PM (byt n f) (true, T ++ S, P2, U2, a2) o → PM (byt n f) (false, S, P, U, a) o
def PC (lv n : Nat) (f : Nat → Int32) (S : List Nat) (P : List (Nat × Nat)) (U a : Nat) (r : Int32) (hi : Nat → Nat → Int32) (hl : Nat → Nat → Int64) : Prop := (r = 0 ∧ ∃ e, PM (byt n f) (false, S, P, U, a) (.inl e) ∧ hi 3 7 = nI e.1 ∧ hi 3 8 = nI e.2) ∨ (r = 1 ∧ PX lv lv n f S P U a a hi hl)
def PT (mi lv kb k dep : Nat) (nn : Bool) : Prop := ∀ (Q : am_Q) (hi : Nat → Nat → Int32) (hl : Nat → Nat → Int64) (sw : Bool) (kp : Nat → Nat) (n : Nat) (f : Nat → Int32) (S : List Nat) (P : List (Nat × Nat)) (U a : Nat), PI n f S P U a dep kb hi hl → (nn = true → ¬ (isW (tk (byt n f) a) 17 ∧ PB 4 S)) → (∀ r hi' hl', PC lv n f S P U a r hi' hl' → PF hi' hi hl' hl → Q (some (.int r)) (mkH hi' hl' sw kp)) → cS k mi [.ref 18, .int (nI dep)] (mkH hi hl sw kp) Q
theorem PB.mono {k k' : Nat} (hk : k ≤ k') {S : List Nat} (h : PB k S) : PB k' S := by
  cases S with
  | nil => exact trivial
  | cons s S =>
    rcases (show s = 20 ∨ tg s < k from h) with z | z
    · exact Or.inl z
    · exact Or.inr (by omega)
theorem PI.mono {k k' U dep : Nat} {S : List Nat} {P : List (Nat × Nat)} (h : PI n f S P U a dep k hi hl) (hk : k ≤ k') : PI n f S P U a dep k' hi hl := ⟨h.1, h.2.1, h.2.2.1, h.2.2.2.1.mono hk, h.2.2.2.2⟩
theorem RS.lt (h : RS n f a hi hl) (h0 : ts (tk (byt n f) a) ≠ 0) (h3 : ts (tk (byt n f) a) ≠ 3) : a < te (tk (byt n f) a) ∧ te (tk (byt n f) a) ≤ 1600 := ⟨tk_e h0 h3, Nat.le_trans (h.2.2.2 h3) h.1.1⟩
/-- the machine closes and opens a sign -/
theorem pj {b : Nat → Int32} {S T : List Nat} {P : List (Nat × Nat)} {U a s : Nat} {o : PO} (hs : sgt (tk b a) = s) (hs0 : s ≠ 0) (hno : ¬ (tg s = 4 ∧ hr (T ++ S))) (hB : PB (tg s) S) (hel : ∀ x, x ∈ T → x ≠ 20 ∧ tg s ≤ tg x) (q : PM b (false, s :: S, P ++ T.map sp, U, te (tk b a)) o) : PM b (true, T ++ S, P, U, a) o := by
  refine PM.s ?_ q
  rw [st_sg (by rw [hs]; exact hs0) (by rw [hs]; exact hno), hs, cls_ap hB T hel]
theorem g64 (h : RS n f a hi hl) : (g_64 (hi 3 2) = 0 ∧ ask (tk (byt n f) a) = none) ∨ (¬ g_64 (hi 3 2) = 0 ∧ ∃ k, ask (tk (byt n f) a) = some k ∧ -(hi 3 2) = f_cnv (nI 1) (nI k) ∧ ts (tk (byt n f) a) = 1 ∧ ¬ isW (tk (byt n f) a) 17) := by
  have i11 : hi 3 2 = 211 ↔ isW (tk (byt n f) a) 11 := h.wd (i := 11) (by decide)
  have i18 : hi 3 2 = 218 ↔ isW (tk (byt n f) a) 18 := h.wd (i := 18) (by decide)
  have i19 : hi 3 2 = 219 ↔ isW (tk (byt n f) a) 19 := h.wd (i := 19) (by decide)
  have i9 : hi 3 2 = 209 ↔ isW (tk (byt n f) a) 9 := h.wd (i := 9) (by decide)
  have i20 : hi 3 2 = 220 ↔ isW (tk (byt n f) a) 20 := h.wd (i := 20) (by decide)
  unfold g_64 ask
  by_cases c1 : hi 3 2 = 211
  · have q := i11.mp c1
    rw [if_pos c1, cI_1 q]
    exact Or.inr ⟨by decide, 0, rfl, by rw [c1]; decide, q.1, OW_ne (by decide) (by decide) (by decide) q⟩
  rw [if_neg c1, cI_0 (fun z => c1 (i11.mpr z))]
  by_cases c2 : hi 3 2 = 218
  · have q := i18.mp c2
    rw [if_pos c2, cI_1 q]
    exact Or.inr ⟨by decide, 1, rfl, by rw [c2]; decide, q.1, OW_ne (by decide) (by decide) (by decide) q⟩
  rw [if_neg c2, cI_0 (fun z => c2 (i18.mpr z))]
  by_cases c3 : hi 3 2 = 219
  · have q := i19.mp c3
    rw [if_pos c3, cI_1 q]
    exact Or.inr ⟨by decide, 2, rfl, by rw [c3]; decide, q.1, OW_ne (by decide) (by decide) (by decide) q⟩
  rw [if_neg c3, cI_0 (fun z => c3 (i19.mpr z))]
  by_cases c4 : hi 3 2 = 209
  · have q := i9.mp c4
    rw [if_pos c4, cI_1 q]
    exact Or.inr ⟨by decide, 3, rfl, by rw [c4]; decide, q.1, OW_ne (by decide) (by decide) (by decide) q⟩
  rw [if_neg c4, cI_0 (fun z => c4 (i9.mpr z))]
  by_cases c5 : hi 3 2 = 220
  · have q := i20.mp c5
    rw [if_pos c5, cI_1 q]
    exact Or.inr ⟨by decide, 4, rfl, by rw [c5]; decide, q.1, OW_ne (by decide) (by decide) (by decide) q⟩
  rw [if_neg c5, cI_0 (fun z => c5 (i20.mpr z))]
  exact Or.inl ⟨rfl, rfl⟩
theorem cnvA {v : Nat} : nI v = f_cnv (nI 0) (nI v) := by
  unfold f_cnv
  rw [if_pos (show nI 0 = 0 from rfl)]
theorem cnvD : ∀ s, s < 64 → s ≠ 38 → -(nI s) = f_cnv (nI 3) (nI s) := by decide
/-- a unit -/
theorem t62 {k dep : Nat} (hdep : dep ≤ 7) (H : dep < 7 → PT 56 1 1 (k + 5) (dep + 1) false) : PT 62 7 7 (k + 6) dep true := by
  intro Q hi hl sw kp n f S P U a hI hn w
  obtain ⟨hR, hP, hz, hB, hd, hlen, hU⟩ := hI
  have hn := hn rfl
  have hnt := nt_le S
  have h40 : hi 3 2 = 40 ↔ ts (tk (byt n f) a) = 40 := hR.sg (k := 40) (by decide) (by decide)
  have h30 : (30 : Int32) ≤ hi 11 3 ↔ 30 ≤ U := by
    rw [hP.2.1]
    exact nI_leI (a := 30) (by decide) (by omega)
  have h7 : nI dep < 7 ↔ dep < 7 := nIlt (y := 7) (by omega) (by decide)
  have fl : stP (byt n f) (false, S, P, U, a) = .inr (flt (byt n f) 2 a) → Q (some (.int 0)) (mkH (u2 (u2 hi 3 7 (nI (ftw (tk (byt n f) a) 2))) 3 8 (nI (tp (tk (byt n f) a)))) hl sw kp) := fun h => w 0 _ _ (Or.inl ⟨rfl, _, PM.o h, by rw [u2_nn (by decide), u2_s], u2_s⟩) ((PF.rf.u (by decide)).u (by decide))
  have on : ∀ x : Nat × Nat, ts (tk (byt n f) a) ≠ 0 → ts (tk (byt n f) a) ≠ 3 → stP (byt n f) (false, S, P, U, a) = .inl (true, S, P ++ [x], U + 1, te (tk (byt n f) a)) → U < 30 → ∀ (v : Int32) (y : Int32), v = f_cnv (nI x.1) (nI x.2) → cS (k + 5) 8 [.ref 11, .int v] (mkH (u2 hi 11 3 (hi 11 3 + 1)) hl sw kp) (am_ret (cW cd_62 (k + 4 + 1) Q) 117 [some (.ref 18), some (.int (nI dep)), some (.int y), some (.int 0)] []) := fun x s0 s3 st hU2 v y hv => by
    have hlt := hR.lt s0 s3
    refine f8 (d := k + 4) x hv hP.un (by omega) (fun hi1 c1 fr1 => k_62_117 (f67r (d := k + 1) ((hR.u (by decide)).fr fr1) s3 (fun hi2 hl2 r2 q2 => k_62_124 (fun _ => w 1 hi2 hl2 (Or.inr ⟨rfl, [], P ++ [x], U + 1, te (tk (byt n f) a), r2, ?_, ?_, ?_, ?_, by omega, by omega, fun o q => PM.s st q⟩) ((PF.rf.u (Or.inr (Or.inl rfl))).fr fr1 |>.ft q2)) (fun z => absurd rfl z))))
    · rw [List.map_nil, List.append_nil]
      exact c1.ft q2
    · exact (hz.cg ((fr1 3 (by decide) (by decide)).trans (u2_row_ne (by decide)))).ft q2
    · exact ⟨fun s hs => absurd hs List.not_mem_nil, fun z => absurd z (by decide), fun z => absurd z (by decide), fun z => absurd z (by decide), fun z => absurd z (by decide), fun z => absurd z (by decide)⟩
    · rw [List.length_append]
      show P.length + 1 + 0 + S.length + 1 ≤ 9 * (U + 1) ∧ _
      omega
  refine e_62 (d := k + 4) (fun c1 c2 => ?_) (fun c1 c2 c3 => ?_) (fun c1 c2 c3 => ?_) (fun c1 c2 c3 => ?_) (fun c1 c2 c3 _ => ?_) (fun c1 c2 c3 c4 => absurd c2 c4) (fun c1 c2 c3 => ?_) (fun c1 c2 c3 c4 => ?_) (fun c1 c2 c3 c4 c5 => absurd c5 c2) (fun c1 c2 c3 c4 c5 => ?_)
  · exact f72 (d := k + 3) (w := 2) hR (k_62_75 (Or.inl rfl) (fl (st_brf (h40.mp c1) (fun z => by have := h30.mp c2; omega))))
  · have hs := h40.mp c1
    have hU2 : U < 30 := Nat.lt_of_not_le (fun z => c2 (h30.mpr z))
    have hd7 := h7.mp c3
    have st : stP (byt n f) (false, S, P, U, a) = _ := st_br (P := P) hs hU2 (by omega)
    have hlt := hR.lt (by omega) (by omega)
    refine k_62_117 (f67r (d := k + 1) (hR.u (by decide)) (by omega) (fun hi2 hl2 r2 q2 => k_62_124 (fun z => absurd z (by decide)) (fun _ => ?_)))
    rw [← nI_succ]
    refine H hd7 _ hi2 hl2 sw kp n f (20 :: S) P (U + 1) (te (tk (byt n f) a)) ⟨r2, hP.un.ft q2, (hz.cg (u2_row_ne (by decide))).ft q2, Or.inl rfl, ?_, ?_, by omega⟩ (fun z => by cases z) (fun r hi3 hl3 pc pf => ?_)
    · show dp S + (if 20 = 20 ∨ 20 = 21 then 1 else 0) = dep + 1
      rw [if_pos (Or.inl rfl), hd]
    · show P.length + (S.length + 1) ≤ 9 * (U + 1) + 0 ∧ _
      omega
    · have F3 : PF hi3 hi hl3 hl := (((PF.rf (hi := hi) (hl := hl)).u (Or.inr (Or.inl rfl))).ft q2).tr pf
      rcases pc with ⟨rfl, e, p1, p2, p3⟩ | ⟨rfl, T, P2, U2, a2, hR3, hC3, hz3, hE3, hl3', hU3, hge, reach⟩
      · exact k_62_137 (fun _ => w 0 hi3 hl3 (Or.inl ⟨rfl, e, PM.s st p1, p2, p3⟩) F3) (fun z => absurd rfl z) (fun z => absurd rfl z)
      · have h41 : hi3 3 2 = 41 ↔ ts (tk (byt n f) a2) = 41 := hR3.sg (k := 41) (by decide) (by decide)
        have hin : 20 ∈ T ++ 20 :: S := List.mem_append_right _ (List.mem_cons_self ..)
        refine k_62_137 (fun z => absurd z (by decide)) (fun _ c => ?_) (fun _ c => ?_)
        · have h41' := h41.mp c
          have hlt4 := hR3.lt (by omega) (by omega)
          refine f67r (d := k + 1) hR3 (by omega) (fun hi4 hl4 r4 q4 => k_62_170 (w 1 hi4 hl4 (Or.inr ⟨rfl, [], P2 ++ T.map sp, U2, te (tk (byt n f) a2), r4, ?_, hz3.ft q4, ?_, ?_, hU3, by omega, fun o q => PM.s st (reach o (PM.s ?_ q))⟩) (F3.ft q4)))
          · rw [List.map_nil, List.append_nil]
            exact hC3.ft q4
          · exact ⟨fun s hs => absurd hs List.not_mem_nil, fun z => absurd z (by decide), fun z => absurd z (by decide), fun z => absurd z (by decide), fun z => absurd z (by decide), fun z => absurd z (by decide)⟩
          · rw [List.length_append, List.length_map]
            have hl5 : P2.length + T.length + (S.length + 1) + 1 ≤ 9 * U2 := hl3'.1
            show P2.length + T.length + 0 + S.length + 1 ≤ 9 * U2 ∧ _
            omega
          · rw [st_cl h41' hin, cls_ap (k := 0) (S := 20 :: S) (Or.inl rfl) T (fun s hs => ⟨(hE3.1 s hs).1, Nat.zero_le _⟩)]
            rfl
        · have hst : stP (byt n f) (true, T ++ 20 :: S, P2, U2, a2) = .inr (flt (byt n f) 2 a2) := by
            refine st_ef (fun z => c (h41.mpr z.1)) (fun z => ?_) hin
            obtain ⟨e1, e2, e3, e4, e5, e6⟩ := hE3
            by_cases cr : rlT (tk (byt n f) a2)
            · have hs := sgt_sg (t := tk (byt n f) a2) (Or.inr (Or.inr cr))
              refine z.2 ⟨?_, e4 (by decide) cr⟩
              rw [hs]
              rcases cr with cr | cr | cr <;> rw [cr] <;> decide
            · exact z.1 (sgt_0 (e5 (by decide)) (e6 (by decide)) (fun y => by
                rcases y with y | y | y
                · exact e2 (by decide) y
                · exact e3 (by decide) y
                · exact cr y))
          exact f72 (d := k + 3) (w := 2) hR3 (k_62_162 (Or.inl rfl) (w 0 _ _ (Or.inl ⟨rfl, _, PM.s st (reach _ (PM.o hst)), by rw [u2_nn (by decide), u2_s], u2_s⟩) ((F3.u (by decide)).u (by decide))))
  · exact f72 (d := k + 3) (w := 2) hR (k_62_75 (Or.inl rfl) (fl (st_brf (h40.mp c1) (fun z => c3 (h7.mpr (by omega))))))
  · have hs := hR.num.mp c2
    exact f72 (d := k + 3) (w := 2) hR (k_62_75 (Or.inl rfl) (fl (st_wf hn (fun z => c1 (h40.mpr z)) (Or.inl (by have := h30.mp c3; omega)))))
  · have hs := hR.num.mp c2
    have hU2 : U < 30 := Nat.lt_of_not_le (fun z => c3 (h30.mpr z))
    have e4 : hi 3 4 = nI (tv (tk (byt n f) a)) := (hR.2.2.1.2.2.2.1 hs).2
    exact on (0, tv (tk (byt n f) a)) (by omega) (by omega) (st_num hs hU2) hU2 _ _ (by rw [e4]; exact cnvA)
  · rcases g64 hR with ⟨g1, g2⟩ | ⟨g1, _⟩
    · exact f72 (d := k + 3) (w := 2) hR (k_62_44 (Or.inl rfl) (fl (st_wf hn (fun z => c1 (h40.mpr z)) (Or.inr ⟨fun z => c2 (hR.num.mpr z), g2⟩))))
    · exact absurd c3 g1
  · exact f72 (d := k + 3) (w := 2) hR (k_62_75 (Or.inl rfl) (fl (st_wf hn (fun z => c1 (h40.mpr z)) (Or.inl (by have := h30.mp c4; omega)))))
  · rcases g64 hR with ⟨g1, g2⟩ | ⟨g1, j, g2, g3, g4, g5⟩
    · exact absurd g1 c3
    · have hU2 : U < 30 := Nat.lt_of_not_le (fun z => c4 (h30.mpr z))
      exact on (1, j) (by omega) (by omega) (st_ask g2 g4 g5 hU2) hU2 _ _ g3
end VPC
