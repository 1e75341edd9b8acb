/-! ===== village: the reference tells the pull ===== -/
section VPR
variable {d : Nat} {Q : am_Q} {hi hi' : Nat → Nat → Int32} {hl hl' : Nat → Nat → Int64} {sw : Bool} {kp : Nat → Nat} {n a : Nat} {f : Nat → Int32} {S : List Nat} {P : List (Nat × Nat)} {U : Nat}
abbrev GFc (c j : Nat) : Prop := (c = 279 ∧ (j = 4 ∨ j = 6 ∨ j = 7 ∨ j = 8 ∨ j = 17 ∨ j = 19 ∨ j = 20 ∨ j = 22 ∨ j = 23)) ∨ c = 282 ∨ c = 283 ∨ c = 286
def GF (hi' hi : Nat → Nat → Int32) (hl' hl : Nat → Nat → Int64) : Prop := (∀ c j, ¬ GFc c j → hi' c j = hi c j) ∧ ∀ c j, ¬ (c = 279 ∧ j = 9) → hl' c j = hl c j
theorem GF.rf : GF hi hi hl hl := ⟨fun _ _ _ => rfl, fun _ _ _ => rfl⟩
theorem GF.tr {hj : Nat → Nat → Int32} {hm : Nat → Nat → Int64} (h : GF hi' hi hl' hl) (e : GF hj hi' hm hl') : GF hj hi hm hl := ⟨fun c j q => (e.1 c j q).trans (h.1 c j q), fun c j q => (e.2 c j q).trans (h.2 c j q)⟩
theorem GF.fr {hj : Nat → Nat → Int32} {hm : Nat → Nat → Int64} (h : GF hi' hi hl' hl) (e : FR hj hi' hm hl') : GF hj hi hm hl := ⟨fun c j q => (e.1 c j (by omega)).trans (h.1 c j q), fun c j q => (e.2 c j q).trans (h.2 c j q)⟩
theorem GF.u {k j : Nat} {x : Int32} (h : GF hi' hi hl' hl) (hk : GFc k j) : GF (u2 hi' k j x) hi hl' hl := ⟨fun c i q => by
  rw [u2_nn (fun z => q (by rw [z.1, z.2]; exact hk))]
  exact h.1 c i q, h.2⟩
theorem GF.rF (h : GF hi' hi hl' hl) : RF hi' hi hl' hl := ⟨fun c j q => h.1 c j (by omega), fun c q1 q2 => by
  funext j
  exact h.2 c j (by omega)⟩
def OPN : List Nat → (Nat → Int32) → Prop
  | [], _ => True
  | s :: S, g => g S.length = nI s ∧ OPN S g
theorem OPN.cg {g g' : Nat → Int32} : ∀ (S : List Nat), OPN S g → (∀ j, j < S.length → g' j = g j) → OPN S g'
  | [], _, _ => trivial
  | s :: S, h, e => ⟨by rw [e S.length (Nat.lt_succ_self _)]; exact h.1, OPN.cg S h.2 (fun j hj => e j (Nat.lt_succ_of_lt hj))⟩
theorem OPN.mem {g : Nat → Int32} : ∀ (S : List Nat), VSg S → OPN S g → ((∃ j, j < S.length ∧ g j = 20) ↔ 20 ∈ S)
  | [], _, _ => ⟨fun ⟨j, hj, _⟩ => absurd hj (Nat.not_lt_zero j), fun h => absurd h List.not_mem_nil⟩
  | s :: S, hv, h => by
    have ih := OPN.mem S hv.t h.2
    have hs := hv.h
    constructor
    · intro ⟨j, hj, e⟩
      have hj2 : j < S.length + 1 := hj
      by_cases c : j = S.length
      · rw [c, h.1, show (20 : Int32) = nI 20 from rfl, nI_eq (by omega) (by decide)] at e
        rw [e]
        exact List.mem_cons_self ..
      · exact List.mem_cons_of_mem _ (ih.mp ⟨j, by omega, e⟩)
    · intro q
      rcases List.mem_cons.mp q with z | z
      · exact ⟨S.length, Nat.lt_succ_self _, by rw [h.1, ← z]; rfl⟩
      · obtain ⟨j, hj, e⟩ := ih.mpr z
        exact ⟨j, Nat.lt_succ_of_lt hj, e⟩
/-- the reference's state within the pull -/
def RPS (n : Nat) (f : Nat → Int32) (S : List Nat) (P : List (Nat × Nat)) (U a : Nat) (hi : Nat → Nat → Int32) (hl : Nat → Nat → Int64) : Prop := MS n f a hi hl ∧ RP P U hi ∧ hi 279 22 = nI U ∧ hi 279 19 = nI S.length ∧ hi 279 23 = nI (dp S) ∧ OPN S (hi 286)
theorem RP.fr (h : RP P U hi) (e : FR hi' hi hl' hl) : RP P U hi' := h.cg (e.1 279 17 (by omega)) (e.1 279 20 (by omega)) (e.row (by decide)) (e.row (by decide))
theorem RPS.tk (h : RPS n f S P U a hi hl) (m : MS n f a hi' hl') (e : FR hi' hi hl' hl) : RPS n f S P U a hi' hl' := by
  obtain ⟨h1, h2, h3, h4, h5, h6⟩ := h
  exact ⟨m, h2.fr e, by rw [e.1 279 22 (by omega)]; exact h3, by rw [e.1 279 19 (by omega)]; exact h4, by rw [e.1 279 23 (by omega)]; exact h5, by rw [e.row (by decide)]; exact h6⟩
theorem RP.ad (h : RP P U hi) (x : Nat × Nat) : RP (P ++ [x]) U (u2 (u2 (u2 hi 282 P.length (nI x.1)) 283 P.length (nI x.2)) 279 17 (hi 279 17 + 1)) := by
  obtain ⟨h1, h2, h3⟩ := h
  refine ⟨?_, ?_, fun j y q => ?_⟩
  · rw [u2_s, h1, List.length_append]
    exact (nI_succ _).symm
  · rw [u2_nn (by omega), u2_nn (by omega), u2_nn (by omega)]
    exact h2
  · have r1 : u2 (u2 (u2 hi 282 P.length (nI x.1)) 283 P.length (nI x.2)) 279 17 (hi 279 17 + 1) 282 j = u2 hi 282 P.length (nI x.1) 282 j := by rw [u2_row_ne (a := 282) (by decide), u2_row_ne (a := 282) (by decide)]
    have r2 : u2 (u2 (u2 hi 282 P.length (nI x.1)) 283 P.length (nI x.2)) 279 17 (hi 279 17 + 1) 283 j = u2 (u2 hi 282 P.length (nI x.1)) 283 P.length (nI x.2) 283 j := by rw [u2_row_ne (a := 283) (by decide)]
    rw [r1, r2]
    rcases Nat.lt_trichotomy j P.length with z | z | z
    · rw [List.getElem?_append_left z] at q
      rw [u2_nn (by omega), u2_nn (by omega), u2_row_ne (a := 283) (by decide)]
      exact h3 j y q
    · subst z
      rw [List.getElem?_append_right (Nat.le_refl _), Nat.sub_self] at q
      have e : x = y := by simpa using q
      rw [u2_s, u2_s, e]
      exact ⟨rfl, rfl⟩
    · rw [List.getElem?_append_right (by omega), List.getElem?_eq_none (by show 1 ≤ j - P.length; omega)] at q
      cases q
/-- add a step -/
theorem f181 (x : Nat × Nat) (h : RPS n f S P U a hi hl) (hP : P.length < 320) (w' : ∀ hi', RPS n f S (P ++ [x]) U a hi' hl → GF hi' hi hl hl → Q none (mkH hi' hl sw kp)) : cS (d + 1) 181 [.ref 279, .int (nI x.1), .int (nI x.2)] (mkH hi hl sw kp) Q := by
  obtain ⟨h1, h2, h3, h4, h5, h6⟩ := h
  have hc : (hi 279 17).toNatClampNeg = P.length := by rw [h2.1, nI_clamp (by omega)]
  refine e_181 (by rw [h2.1]; exact vp_in_nI (by omega) (by decide)) ?_
  rw [hc]
  refine w' _ ⟨((h1.u (by omega)).u (by omega)).u (by omega), h2.ad x, ?_, ?_, ?_, ?_⟩ (((GF.rf.u (by omega)).u (by omega)).u (by omega))
  · rw [u2_nn (by omega), u2_nn (by omega), u2_nn (by omega)]; exact h3
  · rw [u2_nn (by omega), u2_nn (by omega), u2_nn (by omega)]; exact h4
  · rw [u2_nn (by omega), u2_nn (by omega), u2_nn (by omega)]; exact h5
  · rw [u2_row_ne (by decide), u2_row_ne (by decide), u2_row_ne (by decide)]; exact h6
theorem nIm1 (m : Nat) : nI (m + 1) - 1 = nI m := by
  rw [show (1 : Int32) = nI 1 from rfl, nI_sb (by omega)]
  rfl
theorem g182 : ∀ s, s < 128 → g_182 (nI s) = nI (tg s) := by decide +kernel
/-- close -/
theorem c183 {k : Nat} (hk : k < 10) : ∀ (S : List Nat) (P : List (Nat × Nat)) (hi : Nat → Nat → Int32), RPS n f S P U a hi hl → VSg S → S.length ≤ 100 → P.length + S.length < 320 → (∀ hi', RPS n f (cls k S).1 (P ++ (cls k S).2) U a hi' hl → GF hi' hi hl hl → Q none (mkH hi' hl sw kp)) → cW cd_183 (d + 1) Q 0 [some (.ref 279), some (.int (nI k))] [] (mkH hi hl sw kp)
  | [], P, hi, h, hv, hl1, hl2, w => by
    have e19 : hi 279 19 = nI 0 := h.2.2.2.1
    have hw : Q none (mkH hi hl sw kp) := w hi (by show RPS n f [] (P ++ []) U a hi hl; rw [List.append_nil]; exact h) GF.rf
    refine k_183_0 (fun _ => hw) (fun z => absurd (by rw [e19]; decide) z) (fun z => absurd (by rw [e19]; decide) z) (fun z => absurd (by rw [e19]; decide) z) (fun z => absurd (by rw [e19]; decide) z) (fun z => absurd (by rw [e19]; decide) z)
  | s :: S, P, hi, h, hv, hl1, hl2, w => by
    have hL : S.length + 1 ≤ 100 := hl1
    have e19 : hi 279 19 = nI (S.length + 1) := h.2.2.2.1
    have ne : ¬ hi 279 19 ≤ 0 := by rw [e19]; exact nI_ge (a := 0) (by omega) (by omega)
    have ei : (hi 279 19 - 1).toNatClampNeg = S.length := by rw [e19, nIm1, nI_clamp (by omega)]
    have es : hi 286 S.length = nI s := h.2.2.2.2.2.1
    have hs := hv.h
    have hs2 : s < 128 := by omega
    have i20 : nI s = 20 ↔ s = 20 := nI_eq (b := 20) (by omega) (by decide)
    have i21 : nI s = 21 ↔ s = 21 := nI_eq (b := 21) (by omega) (by decide)
    have ht := tg_le s
    have itg : g_182 (nI s) < nI k ↔ tg s < k := by rw [g182 s hs2]; exact nIlt (by omega) (by omega)
    by_cases c : s ≠ 20 ∧ k ≤ tg s
    · have e : cls k (s :: S) = ((cls k S).1, sp s :: (cls k S).2) := if_pos c
      have ea : P ++ [sp s] ++ (cls k S).2 = P ++ (sp s :: (cls k S).2) := by rw [List.append_assoc]; rfl
      rw [e] at w
      obtain ⟨h1, h2, h3, h4, h5, h6⟩ := h
      have hl3 : P.length + (S.length + 1) < 320 := hl2
      have hX : RPS n f S P U a (u2 (u2 hi 279 19 (hi 279 19 - 1)) 279 23 (nI (dp S))) hl := by
        refine ⟨(h1.u (by omega)).u (by omega), h2.cg (by rw [u2_nn (by omega), u2_nn (by omega)]) (by rw [u2_nn (by omega), u2_nn (by omega)]) (by rw [u2_row_ne (by decide), u2_row_ne (by decide)]) (by rw [u2_row_ne (by decide), u2_row_ne (by decide)]), ?_, ?_, u2_s, ?_⟩
        · rw [u2_nn (by omega), u2_nn (by omega)]; exact h3
        · rw [u2_nn (by omega), u2_s, e19, nIm1]
        · rw [u2_row_ne (by decide), u2_row_ne (by decide)]; exact h6.2
      by_cases c21 : s = 21
      · have e23 : hi 279 23 = nI (dp S + 1) := by
          rw [h5]
          show nI (dp S + (if s = 20 ∨ s = 21 then 1 else 0)) = _
          rw [if_pos (Or.inr c21)]
        have hsp : sp s = (2, 0) := if_pos c21
        refine k_183_0 (fun z => absurd z ne) (fun _ => by rw [e19, nIm1]; exact vp_in_nI (by omega) (by decide)) (fun _ z => absurd (i20.mp (by rw [ei, es] at z; exact z)) c.1) (fun _ _ z => absurd (itg.mp (by rw [ei, es] at z; exact z)) (by omega)) (fun _ _ _ _ => ?_) (fun _ _ _ z => absurd (by rw [ei, es]; exact i21.mpr c21) z)
        have hY : RPS n f S P U a (u2 hi 279 19 (hi 279 19 - 1)) hl ∨ True := Or.inr trivial
        have hc : ((u2 hi 279 19 (hi 279 19 - 1)) 279 17).toNatClampNeg = P.length := by rw [u2_nn (by omega), h2.1, nI_clamp (by omega)]
        refine e_181 (d := d) (by rw [u2_nn (by omega), h2.1]; exact vp_in_nI (by omega) (by decide)) (k_183_71 ?_)
        rw [hc]
        have e23' : (u2 (u2 (u2 (u2 hi 279 19 (hi 279 19 - 1)) 282 P.length 2) 283 P.length 0) 279 17 ((u2 hi 279 19 (hi 279 19 - 1)) 279 17 + 1)) 279 23 - 1 = nI (dp S) := by
          rw [u2_nn (by omega), u2_nn (by omega), u2_nn (by omega), u2_nn (by omega), e23, nIm1]
        rw [e23']
        refine c183 hk S (P ++ [sp s]) _ ?_ hv.t (by omega) (by rw [List.length_append]; show P.length + 1 + S.length < 320; omega) (fun hi' r1 r2 => w hi' (by rw [ea] at r1; exact r1) (((((GF.rf.u (by omega)).u (by omega)).u (by omega)).u (by omega)).u (by omega) |>.tr r2))
        rw [hsp]
        obtain ⟨x1, x2, x3, x4, x5, x6⟩ := hX
        have A := (h2.cg (hi' := u2 hi 279 19 (hi 279 19 - 1)) (u2_nn (by omega)) (u2_nn (by omega)) (u2_row_ne (by decide)) (u2_row_ne (by decide))).ad (2, 0)
        refine ⟨((((h1.u (by omega)).u (by omega)).u (by omega)).u (by omega)).u (by omega), A.cg (u2_nn (by omega)) (u2_nn (by omega)) (u2_row_ne (by decide)) (u2_row_ne (by decide)), ?_, ?_, u2_s, ?_⟩
        · rw [u2_nn (by omega), u2_nn (by omega), u2_nn (by omega), u2_nn (by omega), u2_nn (by omega)]; exact h3
        · rw [u2_nn (by omega), u2_nn (by omega), u2_nn (by omega), u2_nn (by omega), u2_s, e19, nIm1]
        · rw [u2_row_ne (by decide), u2_row_ne (by decide), u2_row_ne (by decide), u2_row_ne (by decide), u2_row_ne (by decide)]; exact h6.2
      · have e23 : hi 279 23 = nI (dp S) := by
          rw [h5]
          show nI (dp S + (if s = 20 ∨ s = 21 then 1 else 0)) = _
          rw [if_neg (by omega)]
          rfl
        have hsp : sp s = (3, s) := if_neg c21
        refine k_183_0 (fun z => absurd z ne) (fun _ => by rw [e19, nIm1]; exact vp_in_nI (by omega) (by decide)) (fun _ z => absurd (i20.mp (by rw [ei, es] at z; exact z)) c.1) (fun _ _ z => absurd (itg.mp (by rw [ei, es] at z; exact z)) (by omega)) (fun _ _ _ z => absurd (i21.mp (by rw [ei, es] at z; exact z)) c21) (fun _ _ _ _ => ?_)
        rw [ei, es]
        have hc : ((u2 hi 279 19 (hi 279 19 - 1)) 279 17).toNatClampNeg = P.length := by rw [u2_nn (by omega), h2.1, nI_clamp (by omega)]
        refine e_181 (d := d) (by rw [u2_nn (by omega), h2.1]; exact vp_in_nI (by omega) (by decide)) (k_183_98 ?_)
        rw [hc]
        refine c183 hk S (P ++ [sp s]) _ ?_ hv.t (by omega) (by rw [List.length_append]; show P.length + 1 + S.length < 320; omega) (fun hi' r1 r2 => w hi' (by rw [ea] at r1; exact r1) ((((GF.rf.u (by omega)).u (by omega)).u (by omega)).u (by omega) |>.tr r2))
        rw [hsp]
        have A := (h2.cg (hi' := u2 hi 279 19 (hi 279 19 - 1)) (u2_nn (by omega)) (u2_nn (by omega)) (u2_row_ne (by decide)) (u2_row_ne (by decide))).ad (3, s)
        refine ⟨(((h1.u (by omega)).u (by omega)).u (by omega)).u (by omega), A, ?_, ?_, ?_, ?_⟩
        · rw [u2_nn (by omega), u2_nn (by omega), u2_nn (by omega), u2_nn (by omega)]; exact h3
        · rw [u2_nn (by omega), u2_nn (by omega), u2_nn (by omega), u2_s, e19, nIm1]
        · rw [u2_nn (by omega), u2_nn (by omega), u2_nn (by omega), u2_nn (by omega)]; exact e23
        · rw [u2_row_ne (by decide), u2_row_ne (by decide), u2_row_ne (by decide), u2_row_ne (by decide)]; exact h6.2
    · have e : cls k (s :: S) = (s :: S, []) := if_neg c
      rw [e] at w
      have hw : Q none (mkH hi hl sw kp) := w hi (by show RPS n f (s :: S) (P ++ []) U a hi hl; rw [List.append_nil]; exact h) GF.rf
      refine k_183_0 (fun _ => hw) (fun _ => by rw [e19, nIm1]; exact vp_in_nI (by omega) (by decide)) (fun _ _ => hw) (fun _ _ _ => hw) (fun _ z1 z2 => ?_) (fun _ z1 z2 => ?_)
      · rw [ei, es] at z1 z2
        exact absurd ⟨fun z => z1 (i20.mpr z), Nat.le_of_not_lt (fun z => z2 (itg.mpr z))⟩ c
      · rw [ei, es] at z1 z2
        exact absurd ⟨fun z => z1 (i20.mpr z), Nat.le_of_not_lt (fun z => z2 (itg.mpr z))⟩ c
end VPR
