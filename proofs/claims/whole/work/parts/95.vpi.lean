/-! ===== village: what holds of the pull's machine ===== -/
section VPI
abbrev okO (s : Nat) : Prop := s = 43 ∨ s = 45 ∨ s = 42 ∨ s = 47 ∨ s = 37 ∨ s = 60 ∨ s = 62 ∨ s = 61 ∨ s = 38 ∨ s = 124
def VSg (S : List Nat) : Prop := ∀ s, s ∈ S → s = 20 ∨ s = 21 ∨ okO s
theorem VSg.t {s : Nat} {S : List Nat} (h : VSg (s :: S)) : VSg S := fun x hx => h x (List.mem_cons_of_mem _ hx)
theorem VSg.h {s : Nat} {S : List Nat} (h : VSg (s :: S)) : s = 20 ∨ s = 21 ∨ okO s := h s (List.mem_cons_self ..)
theorem VSg.c {s : Nat} {S : List Nat} (h : VSg S) (h1 : s = 20 ∨ s = 21 ∨ okO s) : VSg (s :: S) := fun x hx => by
  rcases List.mem_cons.mp hx with z | z
  · rw [z]; exact h1
  · exact h x z
def bn : List Nat → Nat
  | [] => 0
  | s :: S => bn S + (if s = 20 ∨ s = 21 then 0 else 1)
theorem bn_dp : ∀ S : List Nat, S.length = bn S + dp S
  | [] => rfl
  | s :: S => by
    have := bn_dp S
    show S.length + 1 = bn S + (if s = 20 ∨ s = 21 then 0 else 1) + (dp S + (if s = 20 ∨ s = 21 then 1 else 0))
    by_cases c : s = 20 ∨ s = 21
    · rw [if_pos c, if_pos c]; omega
    · rw [if_neg c, if_neg c]; omega
def fds (o : Option Nat) (x : Nat × Nat) : Option Nat := match o with
  | some k => f_dep (nI x.1) (nI x.2) k
  | none => none
def fdl (P : List (Nat × Nat)) : Option Nat := P.foldl fds (some 0)
theorem fdl_ap {P : List (Nat × Nat)} {x : Nat × Nat} : fdl (P ++ [x]) = fds (fdl P) x := by
  unfold fdl
  rw [List.foldl_append]
  rfl
theorem fds_not {k : Nat} (hk : 1 ≤ k) : fds (some k) (2, 0) = some k := by
  show f_dep (nI 2) (nI 0) k = some k
  unfold f_dep
  rw [if_neg (by decide), if_neg (by decide), if_pos (show nI 2 = 2 from rfl), if_pos hk]
theorem fds_op {k s : Nat} (hs : okO s) (hk : 2 ≤ k) : fds (some k) (3, s) = some (k - 1) := by
  show f_dep (nI 3) (nI s) k = some (k - 1)
  unfold f_dep
  have ho : nI s = 43 ∨ nI s = 45 ∨ nI s = 42 ∨ nI s = 47 ∨ nI s = 37 ∨ nI s = 60 ∨ nI s = 62 ∨ nI s = 61 ∨ nI s = 38 ∨ nI s = 124 := by
    rcases hs with rfl | rfl | rfl | rfl | rfl | rfl | rfl | rfl | rfl | rfl <;> decide
  rw [if_neg (by decide), if_neg (by decide), if_neg (by decide), if_pos ⟨rfl, ho⟩, if_pos hk]
theorem fds_num {k v : Nat} (hk : k < 30) (hv : v < 2 ^ 31) : fds (some k) (0, v) = some (k + 1) := by
  show f_dep (nI 0) (nI v) k = some (k + 1)
  unfold f_dep
  rw [if_pos (show nI 0 = 0 from rfl), if_pos ⟨nI_pos' hv, hk⟩]
theorem fds_ask {k v : Nat} (hk : k < 30) (hv : v < 5) : fds (some k) (1, v) = some (k + 1) := by
  show f_dep (nI 1) (nI v) k = some (k + 1)
  unfold f_dep
  rw [if_neg (by decide), if_pos (show nI 1 = 1 from rfl), if_pos ⟨nI_pos' (by omega), nI_lt (b := 5) hv (by decide), hk⟩]
/-- what closing does to the counts -/
theorem cls_iv {k : Nat} : ∀ (S : List Nat) (P : List (Nat × Nat)), VSg S → fdl P = some (bn S + 1) → fdl (P ++ (cls k S).2) = some (bn (cls k S).1 + 1) ∧ VSg (cls k S).1 ∧ dp (cls k S).1 ≤ dp S ∧ bn (cls k S).1 ≤ bn S ∧ P.length + S.length = (P ++ (cls k S).2).length + (cls k S).1.length
  | [], P, hv, hf => by
    show fdl (P ++ []) = _ ∧ _
    rw [List.append_nil]
    exact ⟨hf, hv, Nat.le_refl _, Nat.le_refl _, by show _ = (P ++ []).length + 0; rw [List.append_nil]; rfl⟩
  | s :: S, P, hv, hf => by
    by_cases c : s ≠ 20 ∧ k ≤ tg s
    · have e : cls k (s :: S) = ((cls k S).1, sp s :: (cls k S).2) := if_pos c
      rw [e]
      have hb : bn (s :: S) = bn S + (if s = 20 ∨ s = 21 then 0 else 1) := rfl
      have hf1 : fdl (P ++ [sp s]) = some (bn S + 1) := by
        rw [fdl_ap, hf]
        rcases hv.h with z | z | z
        · exact absurd z c.1
        · rw [hb, if_pos (Or.inr z), z]
          exact fds_not (by omega)
        · rw [hb, if_neg (by omega), show sp s = (3, s) from if_neg (by omega)]
          exact fds_op z (by omega)
      have ih := cls_iv (k := k) S (P ++ [sp s]) hv.t hf1
      have ea : P ++ [sp s] ++ (cls k S).2 = P ++ (sp s :: (cls k S).2) := by rw [List.append_assoc]; rfl
      rw [ea] at ih
      obtain ⟨i1, i2, i3, i4, i5⟩ := ih
      refine ⟨i1, i2, Nat.le_trans i3 (Nat.le_add_right _ _), Nat.le_trans i4 (Nat.le_add_right _ _), ?_⟩
      rw [List.length_append] at i5
      show P.length + (S.length + 1) = (P ++ (sp s :: (cls k S).2)).length + (cls k S).1.length
      rw [← i5]
      show P.length + (S.length + 1) = P.length + 1 + S.length
      omega
    · have e : cls k (s :: S) = (s :: S, []) := if_neg c
      rw [e, List.append_nil]
      exact ⟨hf, hv, Nat.le_refl _, Nat.le_refl _, rfl⟩
theorem cls_br : ∀ (S : List Nat), 20 ∈ S → ∃ R, (cls 0 S).1 = 20 :: R
  | [], h => absurd h List.not_mem_nil
  | s :: S, h => by
    by_cases c : s ≠ 20 ∧ 0 ≤ tg s
    · have e : cls 0 (s :: S) = ((cls 0 S).1, sp s :: (cls 0 S).2) := if_pos c
      rw [e]
      rcases List.mem_cons.mp h with z | z
      · exact absurd z.symm c.1
      · exact cls_br S z
    · have e : cls 0 (s :: S) = (s :: S, []) := if_neg c
      have e20 : s = 20 := Classical.byContradiction (fun z => c ⟨z, Nat.zero_le _⟩)
      rw [e]
      exact ⟨S, by rw [e20]⟩
theorem cls_nb : ∀ (S : List Nat), ¬ 20 ∈ S → (cls 0 S).1 = []
  | [], _ => rfl
  | s :: S, h => by
    have e : cls 0 (s :: S) = ((cls 0 S).1, sp s :: (cls 0 S).2) := if_pos ⟨fun z => h (by rw [z]; exact List.mem_cons_self ..), Nat.zero_le _⟩
    rw [e]
    exact cls_nb S (fun z => h (List.mem_cons_of_mem _ z))
def PIV (m : Bool) (S : List Nat) (P : List (Nat × Nat)) (U : Nat) : Prop := VSg S ∧ dp S ≤ 7 ∧ U ≤ 30 ∧ (if m = true then fdl P = some (bn S + 1) ∧ bn S + 1 ≤ U ∧ P.length + S.length + 1 ≤ 9 * U else fdl P = some (bn S) ∧ bn S ≤ U ∧ P.length + S.length ≤ 9 * U + nt S)
variable {S : List Nat} {P : List (Nat × Nat)} {U : Nat}
theorem PIV.w (h : PIV false S P U) : fdl P = some (bn S) ∧ bn S ≤ U ∧ P.length + S.length ≤ 9 * U + nt S := by
  have := h.2.2.2
  rw [if_neg (by decide)] at this
  exact this
theorem PIV.h (h : PIV true S P U) : fdl P = some (bn S + 1) ∧ bn S + 1 ≤ U ∧ P.length + S.length + 1 ≤ 9 * U := by
  have := h.2.2.2
  rw [if_pos rfl] at this
  exact this
theorem PIV.mw (h1 : VSg S) (h2 : dp S ≤ 7) (h3 : U ≤ 30) (h : fdl P = some (bn S) ∧ bn S ≤ U ∧ P.length + S.length ≤ 9 * U + nt S) : PIV false S P U := ⟨h1, h2, h3, by rw [if_neg (by decide)]; exact h⟩
theorem PIV.mh (h1 : VSg S) (h2 : dp S ≤ 7) (h3 : U ≤ 30) (h : fdl P = some (bn S + 1) ∧ bn S + 1 ≤ U ∧ P.length + S.length + 1 ≤ 9 * U) : PIV true S P U := ⟨h1, h2, h3, by rw [if_pos rfl]; exact h⟩
theorem PIV.not (h : PIV false S P U) (hd : dp S ≤ 6) : PIV false (21 :: S) P U := by
  obtain ⟨f1, f2, f3⟩ := h.w
  refine PIV.mw (h.1.c (Or.inr (Or.inl rfl))) (by show dp S + 1 ≤ 7; omega) h.2.2.1 ⟨f1, f2, ?_⟩
  show P.length + (S.length + 1) ≤ 9 * U + (nt S + 1)
  omega
theorem PIV.br (h : PIV false S P U) (hd : dp S ≤ 6) (hU : U < 30) : PIV false (20 :: S) P (U + 1) := by
  obtain ⟨f1, f2, f3⟩ := h.w
  have := nt_le S
  refine PIV.mw (h.1.c (Or.inl rfl)) (by show dp S + 1 ≤ 7; omega) (by omega) ⟨f1, by show bn S + 0 ≤ U + 1; omega, ?_⟩
  show P.length + (S.length + 1) ≤ 9 * (U + 1) + 0
  omega
theorem PIV.un {x : Nat × Nat} (h : PIV false S P U) (hU : U < 30) (hx : ∀ k, k < 30 → fds (some k) x = some (k + 1)) : PIV true S (P ++ [x]) (U + 1) := by
  obtain ⟨f1, f2, f3⟩ := h.w
  have := nt_le S
  have h7 := h.2.1
  refine PIV.mh h.1 h7 (by omega) ⟨?_, by omega, ?_⟩
  · rw [fdl_ap, f1]
    exact hx _ (by omega)
  · rw [List.length_append]
    show P.length + 1 + S.length + 1 ≤ 9 * (U + 1)
    omega
theorem PIV.cl (h : PIV true S P U) (hb : 20 ∈ S) : ∃ R, (cls 0 S).1 = 20 :: R ∧ PIV true R (P ++ (cls 0 S).2) U := by
  obtain ⟨f1, f2, f3⟩ := h.h
  obtain ⟨R, hR⟩ := cls_br S hb
  obtain ⟨i1, i2, i3, i4, i5⟩ := cls_iv (k := 0) S P h.1 f1
  rw [hR] at i1 i2 i3 i4 i5
  have h7 := h.2.1
  have d1 : dp R + 1 ≤ dp S := i3
  have b1 : bn R + 0 ≤ bn S := i4
  have l1 : P.length + S.length = (P ++ (cls 0 S).2).length + (R.length + 1) := i5
  exact ⟨R, hR, PIV.mh i2.t (by omega) h.2.2.1 ⟨i1, by omega, by omega⟩⟩
theorem PIV.sg {s k : Nat} (h : PIV true S P U) (hs : okO s) : PIV false (s :: (cls k S).1) (P ++ (cls k S).2) U := by
  obtain ⟨f1, f2, f3⟩ := h.h
  obtain ⟨i1, i2, i3, i4, i5⟩ := cls_iv (k := k) S P h.1 f1
  have h7 := h.2.1
  have hn : ¬ (s = 20 ∨ s = 21) := by omega
  refine PIV.mw (i2.c (Or.inr (Or.inr hs))) ?_ h.2.2.1 ⟨?_, ?_, ?_⟩
  · show dp (cls k S).1 + (if s = 20 ∨ s = 21 then 1 else 0) ≤ 7
    rw [if_neg hn]
    omega
  · show _ = some (bn (cls k S).1 + (if s = 20 ∨ s = 21 then 0 else 1))
    rw [if_neg hn]
    exact i1
  · show bn (cls k S).1 + (if s = 20 ∨ s = 21 then 0 else 1) ≤ U
    rw [if_neg hn]
    omega
  · show (P ++ (cls k S).2).length + ((cls k S).1.length + 1) ≤ 9 * U + _
    omega
theorem PIV.dn (h : PIV true S P U) (hb : ¬ 20 ∈ S) : fdl (P ++ (cls 0 S).2) = some 1 ∧ (P ++ (cls 0 S).2).length ≤ 269 := by
  obtain ⟨f1, f2, f3⟩ := h.h
  obtain ⟨i1, i2, i3, i4, i5⟩ := cls_iv (k := 0) S P h.1 f1
  rw [cls_nb S hb] at i1 i5
  have l1 : P.length + S.length = (P ++ (cls 0 S).2).length + 0 := i5
  have := h.2.2.1
  exact ⟨i1, by omega⟩
theorem sgt_ok {t : Tk} (h : sgt t ≠ 0) : okO (sgt t) := by
  by_cases c1 : isW t 16
  · rw [sgt_and c1]; omega
  · by_cases c2 : isW t 15
    · rw [sgt_or c2]; omega
    · by_cases c3 : tmT t ∨ pnT t ∨ rlT t
      · rw [sgt_sg c3]; omega
      · exact absurd (sgt_0 c1 c2 c3) h
theorem sgt_t {t : Tk} (h : sgt t ≠ 0) : ts t ≠ 0 ∧ ts t ≠ 3 := by
  by_cases c1 : isW t 16
  · have := c1.1; omega
  · by_cases c2 : isW t 15
    · have := c2.1; omega
    · by_cases c3 : tmT t ∨ pnT t ∨ rlT t
      · omega
      · exact absurd (sgt_0 c1 c2 c3) h
theorem ask_i {t : Tk} {v : Nat} (h : ask t = some v) : v < 5 ∧ ts t = 1 ∧ ¬ isW t 17 := by
  unfold ask at h
  by_cases c1 : isW t 11
  · rw [cI_1 c1] at h
    cases h
    exact ⟨by decide, c1.1, OW_ne (by decide) (by decide) (by decide) c1⟩
  rw [cI_0 c1] at h
  by_cases c2 : isW t 18
  · rw [cI_1 c2] at h
    cases h
    exact ⟨by decide, c2.1, OW_ne (by decide) (by decide) (by decide) c2⟩
  rw [cI_0 c2] at h
  by_cases c3 : isW t 19
  · rw [cI_1 c3] at h
    cases h
    exact ⟨by decide, c3.1, OW_ne (by decide) (by decide) (by decide) c3⟩
  rw [cI_0 c3] at h
  by_cases c4 : isW t 9
  · rw [cI_1 c4] at h
    cases h
    exact ⟨by decide, c4.1, OW_ne (by decide) (by decide) (by decide) c4⟩
  rw [cI_0 c4] at h
  by_cases c5 : isW t 20
  · rw [cI_1 c5] at h
    cases h
    exact ⟨by decide, c5.1, OW_ne (by decide) (by decide) (by decide) c5⟩
  rw [cI_0 c5] at h
  cases h
/-- a formula that was told -/
theorem pm_ok {b : Nat → Int32} {P' : List (Nat × Nat)} {U' a' : Nat} : ∀ (k : Nat) (m : Bool) (S : List Nat) (P : List (Nat × Nat)) (U a : Nat), PIV m S P U → pm b k (m, S, P, U, a) = some (.inr ((P', U'), a')) → fdl P' = some 1 ∧ P'.length ≤ 269 ∧ a ≤ a'
  | 0, _, _, _, _, _, _, h => by cases h
  | k + 1, m, S, P, U, a, hI, h => by
    have h1 : (match stP b (m, S, P, U, a) with
      | .inl s' => pm b k s'
      | .inr o => some o) = some (.inr ((P', U'), a')) := h
    have tke : ∀ x, ts (tk b x) ≠ 0 → ts (tk b x) ≠ 3 → x < te (tk b x) := fun x q1 q2 => tk_e q1 q2
    cases m with
    | false =>
      by_cases c1 : isW (tk b a) 17 ∧ PB 4 S
      · by_cases c2 : dp S ≤ 6
        · rw [st_not c1.1 c1.2 c2] at h1
          have ih := pm_ok k false _ _ _ _ (hI.not c2) h1
          have := tke a (by rw [c1.1.1]; decide) (by rw [c1.1.1]; decide)
          exact ⟨ih.1, ih.2.1, by omega⟩
        · rw [st_notf c1.1 c1.2 c2] at h1
          cases h1
      · by_cases c2 : ts (tk b a) = 40
        · by_cases c3 : U < 30 ∧ dp S ≤ 6
          · rw [st_br c2 c3.1 c3.2] at h1
            have ih := pm_ok k false _ _ _ _ (hI.br c3.2 c3.1) h1
            have := tke a (by omega) (by omega)
            exact ⟨ih.1, ih.2.1, by omega⟩
          · rw [st_brf c2 c3] at h1
            cases h1
        · by_cases c3 : U < 30
          · by_cases c4 : ts (tk b a) = 2
            · rw [st_num c4 c3] at h1
              have ih := pm_ok k true _ _ _ _ (hI.un c3 (fun j hj => fds_num hj (Nat.lt_trans tk_v (by decide)))) h1
              have := tke a (by omega) (by omega)
              exact ⟨ih.1, ih.2.1, by omega⟩
            · cases ha : ask (tk b a) with
              | none =>
                rw [st_wf c1 c2 (Or.inr ⟨c4, ha⟩)] at h1
                cases h1
              | some v =>
                obtain ⟨v1, v2, v3⟩ := ask_i ha
                rw [st_ask ha v2 v3 c3] at h1
                have ih := pm_ok k true _ _ _ _ (hI.un c3 (fun j hj => fds_ask hj v1)) h1
                have := tke a (by omega) (by omega)
                exact ⟨ih.1, ih.2.1, by omega⟩
          · rw [st_wf c1 c2 (Or.inl c3)] at h1
            cases h1
    | true =>
      by_cases c1 : ts (tk b a) = 41 ∧ 20 ∈ S
      · rw [st_cl c1.1 c1.2] at h1
        obtain ⟨R, r1, r2⟩ := hI.cl c1.2
        rw [r1] at h1
        have ih := pm_ok k true R _ _ _ r2 h1
        have := tke a (by omega) (by omega)
        exact ⟨ih.1, ih.2.1, by omega⟩
      · by_cases c2 : sgt (tk b a) ≠ 0 ∧ ¬ (tg (sgt (tk b a)) = 4 ∧ hr S)
        · rw [st_sg c2.1 c2.2] at h1
          have ih := pm_ok k false _ _ _ _ (hI.sg (sgt_ok c2.1)) h1
          have := sgt_t c2.1
          have := tke a this.1 this.2
          exact ⟨ih.1, ih.2.1, by omega⟩
        · by_cases c3 : 20 ∈ S
          · rw [st_ef c1 c2 c3] at h1
            cases h1
          · rw [st_dn c2 c3] at h1
            cases h1
            have := hI.dn c3
            exact ⟨this.1, this.2, Nat.le_refl _⟩
end VPI
