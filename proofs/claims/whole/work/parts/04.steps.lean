/-! ===== steps of constants, locals, the stack, numbers, branches ===== -/
theorem am_bif {b : Bool} {P : Prop} (h : bif b then P else False) : b = true ∧ P := by cases b with
  | true => exact ⟨rfl, h⟩
  | false => exact h.elim
theorem am_cat {b0 : Nat} {ro : Nat → Nat} (v : Value) : (am_con b0 ro v).category = v.category := by
  cases v with
  | retAddr k =>
    show (bif Nat.beq k 3 && Nat.beq (ro 4) 0 then Value.null else Value.ref (ro k)).category = 1
    cases Nat.beq k 3 && Nat.beq (ro 4) 0 <;> rfl
  | _ => rfl
theorem am_con_ro {b0 x : Nat} {ro : Nat → Nat} (h : Nat.blt x 3 = true) : am_con b0 ro (.retAddr x) = .ref (ro x) := by
  have h1 : Nat.beq x 3 = false := am_beq (Nat.ne_of_lt (Nat.blt_eq.mp h))
  show (bif Nat.beq x 3 && Nat.beq (ro 4) 0 then Value.null else Value.ref (ro x)) = .ref (ro x)
  rw [h1]
  rfl
theorem am_Lh.at {b0 : Nat} {ro : Nat → Nat} {LS : Array Slot} {nL : Nat} {ls : am_Ls} (h : am_Lh b0 ro LS nL ls) {i : Nat} {v : Value} (hv : am_nth ls i = some (some v)) : LS[i]? = some (.val (am_con b0 ro v)) := h.2.2.2 i v hv
/-- the list of all that is known of the locals -/
def am_al (b0 : Nat) (ro : Nat → Nat) (ls : am_Ls) : List (Nat × Value) := (List.range ls.length).filterMap (fun i => match am_nth ls i with
  | some (some v) => some (i, am_con b0 ro v)
  | _ => none)
theorem am_al_mem {b0 : Nat} {ro : Nat → Nat} {ls : am_Ls} {q : Nat × Value} : q ∈ am_al b0 ro ls ↔ ∃ v, am_nth ls q.1 = some (some v) ∧ q.2 = am_con b0 ro v := by
  simp only [am_al, List.mem_filterMap, List.mem_range]
  constructor
  · rintro ⟨i, hi, hq⟩
    split at hq
    · rename_i v hv
      cases hq
      exact ⟨v, hv, rfl⟩
    · cases hq
  · rintro ⟨v, h1, h2⟩
    refine ⟨q.1, ?_, ?_⟩
    · rw [am_nth_eq] at h1
      exact (List.getElem?_eq_some_iff.mp h1).1
    · rw [h1]
      show some (q.1, am_con b0 ro v) = some q
      rw [← h2]
theorem am_Lh.has {b0 : Nat} {ro : Nat → Nat} {LS : Array Slot} {nL : Nat} {ls : am_Ls} (h : am_Lh b0 ro LS nL ls) : lv_has LS nL (am_al b0 ro ls) := by
  refine ⟨h.1, h.2.1, fun q hq => ?_⟩
  obtain ⟨v, h1, h2⟩ := am_al_mem.mp hq
  rw [h2]
  exact h.2.2.2 _ _ h1
theorem am_clr_len (ls : am_Ls) (i : Nat) : (am_clr ls i).length = ls.length := by
  unfold am_clr
  cases i with
  | zero => rfl
  | succ j =>
    dsimp only
    split <;> simp
theorem am_clr_nth {ls : am_Ls} {i k : Nat} {v : Value} (h : am_nth (am_clr ls i) k = some (some v)) : am_nth ls k = some (some v) ∧ (k + 1 = i → ¬ v.category = 2) := by
  unfold am_clr at h
  cases i with
  | zero => exact ⟨h, fun q => by omega⟩
  | succ j =>
    dsimp only at h
    have key : ∀ (w : Value), am_nth ls j = some (some w) → (am_nth (ls.set j none) k = some (some v)) → am_nth ls k = some (some v) ∧ (k + 1 = j + 1 → ¬ v.category = 2) := by
      intro w hw hk
      rw [am_nth_eq, List.getElem?_set] at hk
      by_cases hjk : j = k
      · subst hjk
        rw [if_pos rfl] at hk
        split at hk <;> cases hk
      · rw [if_neg hjk, ← am_nth_eq] at hk
        exact ⟨hk, fun q => absurd q (by omega)⟩
    split at h
    · rename_i x hx; exact key _ hx h
    · rename_i x hx; exact key _ hx h
    · rename_i h1 h2
      refine ⟨h, fun q => ?_⟩
      have hjk : k = j := by omega
      subst hjk
      cases v <;> simp_all [Value.category]
theorem am_set_nth {ls : am_Ls} {i k : Nat} {x : Option Value} {v : Value} (h : am_nth (ls.set i x) k = some (some v)) : (k = i ∧ x = some v) ∨ (k ≠ i ∧ am_nth ls k = some (some v)) := by
  rw [am_nth_eq, List.getElem?_set] at h
  by_cases hik : i = k
  · subst hik
    rw [if_pos rfl] at h
    split at h
    · cases h; exact Or.inl ⟨rfl, rfl⟩
    · cases h
  · rw [if_neg hik, ← am_nth_eq] at h
    exact Or.inr ⟨fun q => hik q.symm, h⟩
theorem am_Lh.s1 {b0 : Nat} {ro : Nat → Nat} {LS LS' : Array Slot} {nL i : Nat} {ls : am_Ls} {v : Value} (h : am_Lh b0 ro LS nL ls) (h' : lv_has LS' nL ((i, am_con b0 ro v) :: (am_al b0 ro ls).filter (fun q => !(q.1 == i) && !(q.1 + 1 == i && q.2.category == 2)))) : am_Lh b0 ro LS' nL (am_st1 ls i v) := by
  refine ⟨h'.1, h'.2.1, by rw [am_st1, List.length_set, am_clr_len]; exact h.2.2.1, fun k w hw => ?_⟩
  rcases am_set_nth hw with ⟨rfl, hx⟩ | ⟨hk, hx⟩
  · cases hx
    exact h'.2.2 (k, am_con b0 ro v) List.mem_cons_self
  · obtain ⟨h1, h2⟩ := am_clr_nth hx
    refine h'.2.2 (k, am_con b0 ro w) (List.mem_cons_of_mem _ (List.mem_filter.mpr ⟨am_al_mem.mpr ⟨w, h1, rfl⟩, ?_⟩))
    simp only [am_cat, Bool.and_eq_true, Bool.not_eq_true', beq_eq_false_iff_ne, Bool.and_eq_false_iff]
    refine ⟨hk, ?_⟩
    by_cases q : k + 1 = i
    · exact Or.inr (h2 q)
    · exact Or.inl q
theorem am_Lh.s2 {b0 : Nat} {ro : Nat → Nat} {LS LS' : Array Slot} {nL i : Nat} {ls : am_Ls} {v : Value} (h : am_Lh b0 ro LS nL ls) (h' : lv_has LS' nL ((i, am_con b0 ro v) :: (am_al b0 ro ls).filter (fun q => !(q.1 == i) && (!(q.1 == i + 1) && !(q.1 + 1 == i && q.2.category == 2))))) : am_Lh b0 ro LS' nL (am_st2 ls i v) := by
  refine ⟨h'.1, h'.2.1, by rw [am_st2, List.length_set, List.length_set, am_clr_len]; exact h.2.2.1, fun k w hw => ?_⟩
  rcases am_set_nth hw with ⟨-, hx0⟩ | ⟨hk0, hx1⟩
  · cases hx0
  rcases am_set_nth hx1 with ⟨hki, hx2⟩ | ⟨hk, hx⟩
  · cases hx2
    subst hki
    exact h'.2.2 (k, am_con b0 ro v) List.mem_cons_self
  · obtain ⟨h1, h2⟩ := am_clr_nth hx
    refine h'.2.2 (k, am_con b0 ro w) (List.mem_cons_of_mem _ (List.mem_filter.mpr ⟨am_al_mem.mpr ⟨w, h1, rfl⟩, ?_⟩))
    simp only [am_cat, Bool.and_eq_true, Bool.not_eq_true', beq_eq_false_iff_ne, Bool.and_eq_false_iff]
    refine ⟨hk, hk0, ?_⟩
    by_cases q : k + 1 = i
    · exact Or.inr (h2 q)
    · exact Or.inl q
-- the transformers
def tm_push (nx : Nat) (v : Value) : am_T := fun _ K _ _ ls st h => K nx ls (v :: st) h
def tm_ild (nx i : Nat) : am_T := fun _ K _ _ ls st h => match am_nth ls i with
  | some (some (.int x)) => K nx ls (.int x :: st) h
  | _ => False
def tm_lld (nx i : Nat) : am_T := fun _ K _ _ ls st h => match am_nth ls i with
  | some (some (.long x)) => K nx ls (.long x :: st) h
  | _ => False
def tm_ald (nx i : Nat) : am_T := fun _ K _ _ ls st h => match am_nth ls i with
  | some (some (.ref x)) => K nx ls (.ref x :: st) h
  | some (some (.retAddr x)) => bif Nat.blt x 3 then K nx ls (.retAddr x :: st) h else False
  | _ => False
def tm_ist (nx i : Nat) : am_T := fun _ K _ _ ls st h => match st with
  | .int x :: st' => i < ls.length ∧ K nx (am_st1 ls i (.int x)) st' h
  | _ => False
def tm_ast (nx i : Nat) : am_T := fun _ K _ _ ls st h => match st with
  | .ref x :: st' => i < ls.length ∧ K nx (am_st1 ls i (.ref x)) st' h
  | _ => False
def tm_lst (nx i : Nat) : am_T := fun _ K _ _ ls st h => match st with
  | .long x :: st' => i + 1 < ls.length ∧ K nx (am_st2 ls i (.long x)) st' h
  | _ => False
def tm_iinc (nx i : Nat) (n : Int32) : am_T := fun _ K _ _ ls st h => match am_nth ls i with
  | some (some (.int x)) => i < ls.length ∧ K nx (am_st1 ls i (.int (x + n))) st h
  | _ => False
def tm_i2 (nx : Nat) (f : Int32 → Int32 → Int32) : am_T := fun _ K _ _ ls st h => match st with
  | .int y :: .int x :: st' => K nx ls (.int (f x y) :: st') h
  | _ => False
def tm_i2d (nx : Nat) (f : Int32 → Int32 → Int32) : am_T := fun _ K _ _ ls st h => match st with
  | .int y :: .int x :: st' => ¬ y = 0 ∧ K nx ls (.int (f x y) :: st') h
  | _ => False
def tm_i1 (nx : Nat) (f : Int32 → Int32) : am_T := fun _ K _ _ ls st h => match st with
  | .int x :: st' => K nx ls (.int (f x) :: st') h
  | _ => False
def tm_l2 (nx : Nat) (f : Int64 → Int64 → Int64) : am_T := fun _ K _ _ ls st h => match st with
  | .long y :: .long x :: st' => K nx ls (.long (f x y) :: st') h
  | _ => False
def tm_l2d (nx : Nat) (f : Int64 → Int64 → Int64) : am_T := fun _ K _ _ ls st h => match st with
  | .long y :: .long x :: st' => ¬ y = 0 ∧ K nx ls (.long (f x y) :: st') h
  | _ => False
def tm_i2l (nx : Nat) : am_T := fun _ K _ _ ls st h => match st with
  | .int x :: st' => K nx ls (.long x.toInt64 :: st') h
  | _ => False
def am_c1 : Value → Bool
  | .long _ => false
  | .double _ => false
  | _ => true
def tm_dup (nx : Nat) : am_T := fun _ K _ _ ls st h => match st with
  | v :: st' => am_c1 v = true ∧ K nx ls (v :: v :: st') h
  | _ => False
def tm_pop (nx : Nat) : am_T := fun _ K _ _ ls st h => match st with
  | v :: st' => am_c1 v = true ∧ K nx ls st' h
  | _ => False
def tm_dup2 (nx : Nat) : am_T := fun _ K _ _ ls st h => match st with
  | v :: w :: st' => am_c1 v = true ∧ am_c1 w = true ∧ K nx ls (v :: w :: v :: w :: st') h
  | _ => False
def tm_pop2 (nx : Nat) : am_T := fun _ K _ _ ls st h => match st with
  | .long _ :: st' => K nx ls st' h
  | _ => False
def tm_goto (tgt : Nat) : am_T := fun _ K _ _ ls st h => K tgt ls st h
def tm_if (r : Int32 → Prop) (tgt nx : Nat) : am_T := fun _ K _ _ ls st h => match st with
  | .int x :: st' => (r x → K tgt ls st' h) ∧ (¬ r x → K nx ls st' h)
  | _ => False
def tm_cmp (r : Int32 → Int32 → Prop) (tgt nx : Nat) : am_T := fun _ K _ _ ls st h => match st with
  | .int y :: .int x :: st' => (r x y → K tgt ls st' h) ∧ (¬ r x y → K nx ls st' h)
  | _ => False
def tm_lcmp (nx : Nat) : am_T := fun _ K _ _ ls st h => match st with
  | .long y :: .long x :: st' => K nx ls (.int (lg_cmp x y) :: st') h
  | _ => False
def tm_lshl (nx : Nat) : am_T := fun _ K _ _ ls st h => match st with
  | .int y :: .long x :: st' => K nx ls (.long (x <<< (y.toInt64 &&& 63)) :: st') h
  | _ => False
def am_sw (cs : List (Int32 × Nat)) (dflt : Nat) (x : Int32) (K : Nat → Prop) : Prop := match cs with
  | [] => K dflt
  | (v, t) :: cs => (x = v → K t) ∧ (¬ x = v → am_sw cs dflt x K)
def am_sel (cs : List (Int32 × Nat)) (dflt : Nat) (x : Int32) : Nat := match cs with
  | [] => dflt
  | (v, t) :: cs => if x = v then t else am_sel cs dflt x
def tm_sw (cs : List (Int32 × Nat)) (dflt : Nat) : am_T := fun _ K _ _ ls st h => match st with
  | .int x :: st' => am_sw cs dflt x (fun t => K t ls st' h)
  | _ => False
def am_chkL (pc : Nat) : List (Int × Int) → List (Int32 × Nat) → Bool
  | [], [] => true
  | (a, o) :: ps, (v, t) :: cs => decide (v.toInt = a) && decide ((pc : Int) + o = t) && am_chkL pc ps cs
  | _, _ => false
def am_chkT (pc : Nat) : Int → List Int → List (Int32 × Nat) → Bool
  | _, [], [] => true
  | lo, o :: os, (v, t) :: cs => decide (v.toInt = lo) && decide ((pc : Int) + o = t) && am_chkT pc (lo + 1) os cs
  | _, _, _ => false
theorem am_c1_cat {b0 : Nat} {ro : Nat → Nat} {v : Value} (h : am_c1 v = true) : (am_con b0 ro v).category = 1 := by
  rw [am_cat]
  cases v <;> first | rfl | cases h
section STEPS
variable {pr : am_P} {mi pc : Nat}
theorem ns_iconst {n : Int} {v : Int32} (hd : decode (pr mi).2.1 pc = .ok (.iconst n, 1)) (hv : Int32.ofInt n = v) : am_Snd pr mi pc (tm_push (pc + 1) (.int v)) := by
  intro b0 ro ca D p l e R s m args below meth c Qm n0 z0 d B K C Q cx hB HK HC HQ ls st h x H locs LS hR hS hL hn hz
  exact lv_iconst cx.1 cx.2.1 hd hv (HK _ _ _ _ x H locs LS hR hS hL hn hz)
theorem ns_bipush {n : Int} {v : Int32} (hd : decode (pr mi).2.1 pc = .ok (.bipush n, 2)) (hv : (Int8.ofInt n).toInt32 = v) : am_Snd pr mi pc (tm_push (pc + 2) (.int v)) := by
  intro b0 ro ca D p l e R s m args below meth c Qm n0 z0 d B K C Q cx hB HK HC HQ ls st h x H locs LS hR hS hL hn hz
  exact lv_bipush cx.1 cx.2.1 hd hv (HK _ _ _ _ x H locs LS hR hS hL hn hz)
theorem ns_sipush {n : Int} {v : Int32} (hd : decode (pr mi).2.1 pc = .ok (.sipush n, 3)) (hv : (Int16.ofInt n).toInt32 = v) : am_Snd pr mi pc (tm_push (pc + 3) (.int v)) := by
  intro b0 ro ca D p l e R s m args below meth c Qm n0 z0 d B K C Q cx hB HK HC HQ ls st h x H locs LS hR hS hL hn hz
  exact lv_sipush cx.1 cx.2.1 hd hv (HK _ _ _ _ x H locs LS hR hS hL hn hz)
theorem ns_lconst {n : Fin 2} {v : Int64} (hd : decode (pr mi).2.1 pc = .ok (.lconst n, 1)) (hv : Int64.ofNat (n : Nat) = v) : am_Snd pr mi pc (tm_push (pc + 1) (.long v)) := by
  intro b0 ro ca D p l e R s m args below meth c Qm n0 z0 d B K C Q cx hB HK HC HQ ls st h x H locs LS hR hS hL hn hz
  exact lv_lconst cx.1 cx.2.1 hd hv (HK _ _ _ _ x H locs LS hR hS hL hn hz)
theorem ns_ldc {index : Nat} {v : Int32} (hd : decode (pr mi).2.1 pc = .ok (.ldc index, 2)) (hw : Cond.constant (pr mi).1.cls index v ∈ tblG) : am_Snd pr mi pc (tm_push (pc + 2) (.int v)) := by
  intro b0 ro ca D p l e R s m args below meth c Qm n0 z0 d B K C Q cx hB HK HC HQ ls st h x H locs LS hR hS hL hn hz
  exact lv_ldc cx.1 cx.2.1 cx.2.2.1 (cx.2.2.2.1 _ hw) hd (HK _ _ _ _ x H locs LS hR hS hL hn hz)
theorem ns_ldcw {index : Nat} {v : Int32} (hd : decode (pr mi).2.1 pc = .ok (.ldc_w index, 3)) (hw : Cond.constant (pr mi).1.cls index v ∈ tblG) : am_Snd pr mi pc (tm_push (pc + 3) (.int v)) := by
  intro b0 ro ca D p l e R s m args below meth c Qm n0 z0 d B K C Q cx hB HK HC HQ ls st h x H locs LS hR hS hL hn hz
  exact lv_ldcw cx.1 cx.2.1 cx.2.2.1 (cx.2.2.2.1 _ hw) hd (HK _ _ _ _ x H locs LS hR hS hL hn hz)
theorem ns_ldc2 {index : Nat} {v : Int64} (hd : decode (pr mi).2.1 pc = .ok (.ldc2_w index, 3)) (hw : Cond.constantLong (pr mi).1.cls index v ∈ tblG) : am_Snd pr mi pc (tm_push (pc + 3) (.long v)) := by
  intro b0 ro ca D p l e R s m args below meth c Qm n0 z0 d B K C Q cx hB HK HC HQ ls st h x H locs LS hR hS hL hn hz
  exact lv_ldc2 cx.1 cx.2.1 cx.2.2.1 (cx.2.2.2.1 _ hw) hd (HK _ _ _ _ x H locs LS hR hS hL hn hz)
theorem ns_iload_n {k : Fin 4} {i : Nat} (hd : decode (pr mi).2.1 pc = .ok (.iload_n k, 1)) (hi : (k : Nat) = i) : am_Snd pr mi pc (tm_ild (pc + 1) i) := by
  intro b0 ro ca D p l e R s m args below meth c Qm n0 z0 d B K C Q cx hB HK HC HQ ls st h x H locs LS hR hS hL hn hz
  unfold tm_ild at x
  split at x
  · rename_i y hy
    exact lv_iload_n cx.1 cx.2.1 hd hi (hL.at hy) (HK _ _ _ _ x H locs LS hR hS hL hn hz)
  · exact x.elim
theorem ns_iload {i : Nat} (hd : decode (pr mi).2.1 pc = .ok (.iload i, 2)) : am_Snd pr mi pc (tm_ild (pc + 2) i) := by
  intro b0 ro ca D p l e R s m args below meth c Qm n0 z0 d B K C Q cx hB HK HC HQ ls st h x H locs LS hR hS hL hn hz
  unfold tm_ild at x
  split at x
  · rename_i y hy
    exact lv_iload cx.1 cx.2.1 hd (hL.at hy) (HK _ _ _ _ x H locs LS hR hS hL hn hz)
  · exact x.elim
theorem ns_lload_n {k : Fin 4} {i : Nat} (hd : decode (pr mi).2.1 pc = .ok (.lload_n k, 1)) (hi : (k : Nat) = i) : am_Snd pr mi pc (tm_lld (pc + 1) i) := by
  intro b0 ro ca D p l e R s m args below meth c Qm n0 z0 d B K C Q cx hB HK HC HQ ls st h x H locs LS hR hS hL hn hz
  unfold tm_lld at x
  split at x
  · rename_i y hy
    exact lv_lload_n cx.1 cx.2.1 hd hi (hL.at hy) (HK _ _ _ _ x H locs LS hR hS hL hn hz)
  · exact x.elim
theorem ns_lload {i : Nat} (hd : decode (pr mi).2.1 pc = .ok (.lload i, 2)) : am_Snd pr mi pc (tm_lld (pc + 2) i) := by
  intro b0 ro ca D p l e R s m args below meth c Qm n0 z0 d B K C Q cx hB HK HC HQ ls st h x H locs LS hR hS hL hn hz
  unfold tm_lld at x
  split at x
  · rename_i y hy
    exact lv_lload cx.1 cx.2.1 hd (hL.at hy) (HK _ _ _ _ x H locs LS hR hS hL hn hz)
  · exact x.elim
theorem ns_aload_n {k : Fin 4} {i : Nat} (hd : decode (pr mi).2.1 pc = .ok (.aload_n k, 1)) (hi : (k : Nat) = i) : am_Snd pr mi pc (tm_ald (pc + 1) i) := by
  intro b0 ro ca D p l e R s m args below meth c Qm n0 z0 d B K C Q cx hB HK HC HQ ls st h x H locs LS hR hS hL hn hz
  unfold tm_ald at x
  split at x
  · rename_i y hy
    exact lv_aload_n cx.1 cx.2.1 hd hi (hL.at hy) (HK _ _ _ _ x H locs LS hR hS hL hn hz)
  · rename_i y hy
    obtain ⟨hy3, x⟩ := am_bif x
    have k := HK _ _ _ _ x H locs LS hR hS hL hn hz
    rw [List.map_cons, am_con_ro hy3] at k
    exact lv_aload_n cx.1 cx.2.1 hd hi ((hL.at hy).trans (by rw [am_con_ro hy3])) k
  · exact x.elim
theorem ns_aload {i : Nat} (hd : decode (pr mi).2.1 pc = .ok (.aload i, 2)) : am_Snd pr mi pc (tm_ald (pc + 2) i) := by
  intro b0 ro ca D p l e R s m args below meth c Qm n0 z0 d B K C Q cx hB HK HC HQ ls st h x H locs LS hR hS hL hn hz
  unfold tm_ald at x
  split at x
  · rename_i y hy
    exact lv_aload cx.1 cx.2.1 hd (hL.at hy) (HK _ _ _ _ x H locs LS hR hS hL hn hz)
  · rename_i y hy
    obtain ⟨hy3, x⟩ := am_bif x
    have k := HK _ _ _ _ x H locs LS hR hS hL hn hz
    rw [List.map_cons, am_con_ro hy3] at k
    exact lv_aload cx.1 cx.2.1 hd ((hL.at hy).trans (by rw [am_con_ro hy3])) k
  · exact x.elim
theorem ns_istore_n {k : Fin 4} {i : Nat} (hd : decode (pr mi).2.1 pc = .ok (.istore_n k, 1)) (hi : (k : Nat) = i) : am_Snd pr mi pc (tm_ist (pc + 1) i) := by
  intro b0 ro ca D p l e R s m args below meth c Qm n0 z0 d B K C Q cx hB HK HC HQ ls st h x H locs LS hR hS hL hn hz
  unfold tm_ist at x
  split at x
  · exact lv_istore_n cx.1 cx.2.1 hd hi hL.has (Nat.lt_of_lt_of_le x.1 hL.2.2.1) rfl (fun ls' hl' => HK _ _ _ _ x.2 H locs ls' hR hS (hL.s1 hl') hn hz)
  · exact x.elim
theorem ns_istore {i : Nat} (hd : decode (pr mi).2.1 pc = .ok (.istore i, 2)) : am_Snd pr mi pc (tm_ist (pc + 2) i) := by
  intro b0 ro ca D p l e R s m args below meth c Qm n0 z0 d B K C Q cx hB HK HC HQ ls st h x H locs LS hR hS hL hn hz
  unfold tm_ist at x
  split at x
  · exact lv_istore cx.1 cx.2.1 hd hL.has (Nat.lt_of_lt_of_le x.1 hL.2.2.1) rfl (fun ls' hl' => HK _ _ _ _ x.2 H locs ls' hR hS (hL.s1 hl') hn hz)
  · exact x.elim
theorem ns_astore_n {k : Fin 4} {i : Nat} (hd : decode (pr mi).2.1 pc = .ok (.astore_n k, 1)) (hi : (k : Nat) = i) : am_Snd pr mi pc (tm_ast (pc + 1) i) := by
  intro b0 ro ca D p l e R s m args below meth c Qm n0 z0 d B K C Q cx hB HK HC HQ ls st h x H locs LS hR hS hL hn hz
  unfold tm_ast at x
  split at x
  · exact lv_astore_n cx.1 cx.2.1 hd hi hL.has (Nat.lt_of_lt_of_le x.1 hL.2.2.1) rfl (fun ls' hl' => HK _ _ _ _ x.2 H locs ls' hR hS (hL.s1 hl') hn hz)
  · exact x.elim
theorem ns_astore {i : Nat} (hd : decode (pr mi).2.1 pc = .ok (.astore i, 2)) : am_Snd pr mi pc (tm_ast (pc + 2) i) := by
  intro b0 ro ca D p l e R s m args below meth c Qm n0 z0 d B K C Q cx hB HK HC HQ ls st h x H locs LS hR hS hL hn hz
  unfold tm_ast at x
  split at x
  · exact lv_astore cx.1 cx.2.1 hd hL.has (Nat.lt_of_lt_of_le x.1 hL.2.2.1) rfl (fun ls' hl' => HK _ _ _ _ x.2 H locs ls' hR hS (hL.s1 hl') hn hz)
  · exact x.elim
theorem ns_lstore_n {k : Fin 4} {i : Nat} (hd : decode (pr mi).2.1 pc = .ok (.lstore_n k, 1)) (hi : (k : Nat) = i) : am_Snd pr mi pc (tm_lst (pc + 1) i) := by
  intro b0 ro ca D p l e R s m args below meth c Qm n0 z0 d B K C Q cx hB HK HC HQ ls st h x H locs LS hR hS hL hn hz
  unfold tm_lst at x
  split at x
  · exact lv_lstore_n cx.1 cx.2.1 hd hi hL.has (Nat.lt_of_lt_of_le x.1 hL.2.2.1) rfl (fun ls' hl' => HK _ _ _ _ x.2 H locs ls' hR hS (hL.s2 hl') hn hz)
  · exact x.elim
theorem ns_lstore {i : Nat} (hd : decode (pr mi).2.1 pc = .ok (.lstore i, 2)) : am_Snd pr mi pc (tm_lst (pc + 2) i) := by
  intro b0 ro ca D p l e R s m args below meth c Qm n0 z0 d B K C Q cx hB HK HC HQ ls st h x H locs LS hR hS hL hn hz
  unfold tm_lst at x
  split at x
  · exact lv_lstore cx.1 cx.2.1 hd hL.has (Nat.lt_of_lt_of_le x.1 hL.2.2.1) rfl (fun ls' hl' => HK _ _ _ _ x.2 H locs ls' hR hS (hL.s2 hl') hn hz)
  · exact x.elim
theorem ns_iinc {i : Nat} {n : Int} {v : Int32} (hd : decode (pr mi).2.1 pc = .ok (.iinc i n, 3)) (hv : Int32.ofInt n = v) : am_Snd pr mi pc (tm_iinc (pc + 3) i v) := by
  intro b0 ro ca D p l e R s m args below meth c Qm n0 z0 d B K C Q cx hB HK HC HQ ls st h x H locs LS hR hS hL hn hz
  unfold tm_iinc at x
  split at x
  · rename_i y hy
    have hm : (i, am_con b0 ro (.int y)) ∈ am_al b0 ro ls := am_al_mem.mpr ⟨_, hy, rfl⟩
    obtain ⟨k, hk⟩ := List.getElem?_of_mem hm
    exact lv_iinc cx.1 cx.2.1 hd hL.has hk (by rw [hv]) (Nat.lt_of_lt_of_le x.1 hL.2.2.1) rfl (fun ls' hl' => HK _ _ _ _ x.2 H locs ls' hR hS (hL.s1 hl') hn hz)
  · exact x.elim
theorem ns_iadd (hd : decode (pr mi).2.1 pc = .ok (.iadd, 1)) : am_Snd pr mi pc (tm_i2 (pc + 1) (fun x y => x + y)) := by
  intro b0 ro ca D p l e R s m args below meth c Qm n0 z0 d B K C Q cx hB HK HC HQ ls st h x H locs LS hR hS hL hn hz
  unfold tm_i2 at x
  split at x
  · exact lv_iadd cx.1 cx.2.1 hd (HK _ _ _ _ x H locs LS hR hS hL hn hz)
  · exact x.elim
theorem ns_isub (hd : decode (pr mi).2.1 pc = .ok (.isub, 1)) : am_Snd pr mi pc (tm_i2 (pc + 1) (fun x y => x - y)) := by
  intro b0 ro ca D p l e R s m args below meth c Qm n0 z0 d B K C Q cx hB HK HC HQ ls st h x H locs LS hR hS hL hn hz
  unfold tm_i2 at x
  split at x
  · exact lv_isub cx.1 cx.2.1 hd (HK _ _ _ _ x H locs LS hR hS hL hn hz)
  · exact x.elim
theorem ns_imul (hd : decode (pr mi).2.1 pc = .ok (.imul, 1)) : am_Snd pr mi pc (tm_i2 (pc + 1) (fun x y => x * y)) := by
  intro b0 ro ca D p l e R s m args below meth c Qm n0 z0 d B K C Q cx hB HK HC HQ ls st h x H locs LS hR hS hL hn hz
  unfold tm_i2 at x
  split at x
  · exact lv_imul cx.1 cx.2.1 hd (HK _ _ _ _ x H locs LS hR hS hL hn hz)
  · exact x.elim
theorem ns_iand (hd : decode (pr mi).2.1 pc = .ok (.iand, 1)) : am_Snd pr mi pc (tm_i2 (pc + 1) (fun x y => x &&& y)) := by
  intro b0 ro ca D p l e R s m args below meth c Qm n0 z0 d B K C Q cx hB HK HC HQ ls st h x H locs LS hR hS hL hn hz
  unfold tm_i2 at x
  split at x
  · exact lv_iand cx.1 cx.2.1 hd (HK _ _ _ _ x H locs LS hR hS hL hn hz)
  · exact x.elim
theorem ns_ior (hd : decode (pr mi).2.1 pc = .ok (.ior, 1)) : am_Snd pr mi pc (tm_i2 (pc + 1) (fun x y => x ||| y)) := by
  intro b0 ro ca D p l e R s m args below meth c Qm n0 z0 d B K C Q cx hB HK HC HQ ls st h x H locs LS hR hS hL hn hz
  unfold tm_i2 at x
  split at x
  · exact lv_ior cx.1 cx.2.1 hd (HK _ _ _ _ x H locs LS hR hS hL hn hz)
  · exact x.elim
theorem ns_ishl (hd : decode (pr mi).2.1 pc = .ok (.ishl, 1)) : am_Snd pr mi pc (tm_i2 (pc + 1) (fun x y => x <<< (y &&& 31))) := by
  intro b0 ro ca D p l e R s m args below meth c Qm n0 z0 d B K C Q cx hB HK HC HQ ls st h x H locs LS hR hS hL hn hz
  unfold tm_i2 at x
  split at x
  · exact lv_ishl cx.1 cx.2.1 hd (HK _ _ _ _ x H locs LS hR hS hL hn hz)
  · exact x.elim
theorem ns_ishr (hd : decode (pr mi).2.1 pc = .ok (.ishr, 1)) : am_Snd pr mi pc (tm_i2 (pc + 1) (fun x y => x >>> (y &&& 31))) := by
  intro b0 ro ca D p l e R s m args below meth c Qm n0 z0 d B K C Q cx hB HK HC HQ ls st h x H locs LS hR hS hL hn hz
  unfold tm_i2 at x
  split at x
  · exact lv_ishr cx.1 cx.2.1 hd (HK _ _ _ _ x H locs LS hR hS hL hn hz)
  · exact x.elim
theorem ns_iushr (hd : decode (pr mi).2.1 pc = .ok (.iushr, 1)) : am_Snd pr mi pc (tm_i2 (pc + 1) (fun x y => (x.toUInt32 >>> (y.toUInt32 &&& Int32.toUInt32 31)).toInt32)) := by
  intro b0 ro ca D p l e R s m args below meth c Qm n0 z0 d B K C Q cx hB HK HC HQ ls st h x H locs LS hR hS hL hn hz
  unfold tm_i2 at x
  split at x
  · exact lv_iushr cx.1 cx.2.1 hd rfl (HK _ _ _ _ x H locs LS hR hS hL hn hz)
  · exact x.elim
theorem ns_idiv (hd : decode (pr mi).2.1 pc = .ok (.idiv, 1)) : am_Snd pr mi pc (tm_i2d (pc + 1) (fun x y => x / y)) := by
  intro b0 ro ca D p l e R s m args below meth c Qm n0 z0 d B K C Q cx hB HK HC HQ ls st h x H locs LS hR hS hL hn hz
  unfold tm_i2d at x
  split at x
  · exact lv_idiv cx.1 cx.2.1 hd x.1 (HK _ _ _ _ x.2 H locs LS hR hS hL hn hz)
  · exact x.elim
theorem ns_irem (hd : decode (pr mi).2.1 pc = .ok (.irem, 1)) : am_Snd pr mi pc (tm_i2d (pc + 1) (fun x y => x - x / y * y)) := by
  intro b0 ro ca D p l e R s m args below meth c Qm n0 z0 d B K C Q cx hB HK HC HQ ls st h x H locs LS hR hS hL hn hz
  unfold tm_i2d at x
  split at x
  · exact lv_irem cx.1 cx.2.1 hd x.1 (HK _ _ _ _ x.2 H locs LS hR hS hL hn hz)
  · exact x.elim
theorem ns_ladd (hd : decode (pr mi).2.1 pc = .ok (.ladd, 1)) : am_Snd pr mi pc (tm_l2 (pc + 1) (fun x y => x + y)) := by
  intro b0 ro ca D p l e R s m args below meth c Qm n0 z0 d B K C Q cx hB HK HC HQ ls st h x H locs LS hR hS hL hn hz
  unfold tm_l2 at x
  split at x
  · exact lv_ladd cx.1 cx.2.1 hd (HK _ _ _ _ x H locs LS hR hS hL hn hz)
  · exact x.elim
theorem ns_lmul (hd : decode (pr mi).2.1 pc = .ok (.lmul, 1)) : am_Snd pr mi pc (tm_l2 (pc + 1) (fun x y => x * y)) := by
  intro b0 ro ca D p l e R s m args below meth c Qm n0 z0 d B K C Q cx hB HK HC HQ ls st h x H locs LS hR hS hL hn hz
  unfold tm_l2 at x
  split at x
  · exact lv_lmul cx.1 cx.2.1 hd (HK _ _ _ _ x H locs LS hR hS hL hn hz)
  · exact x.elim
theorem ns_lor (hd : decode (pr mi).2.1 pc = .ok (.lor, 1)) : am_Snd pr mi pc (tm_l2 (pc + 1) (fun x y => x ||| y)) := by
  intro b0 ro ca D p l e R s m args below meth c Qm n0 z0 d B K C Q cx hB HK HC HQ ls st h x H locs LS hR hS hL hn hz
  unfold tm_l2 at x
  split at x
  · exact lv_lor cx.1 cx.2.1 hd (HK _ _ _ _ x H locs LS hR hS hL hn hz)
  · exact x.elim
theorem ns_lsub (hd : decode (pr mi).2.1 pc = .ok (.lsub, 1)) : am_Snd pr mi pc (tm_l2 (pc + 1) (fun x y => x - y)) := by
  intro b0 ro ca D p l e R s m args below meth c Qm n0 z0 d B K C Q cx hB HK HC HQ ls st h x H locs LS hR hS hL hn hz
  unfold tm_l2 at x
  split at x
  · exact lv_lsub cx.1 cx.2.1 hd (HK _ _ _ _ x H locs LS hR hS hL hn hz)
  · exact x.elim
theorem ns_ldiv (hd : decode (pr mi).2.1 pc = .ok (.ldiv, 1)) : am_Snd pr mi pc (tm_l2d (pc + 1) (fun x y => x / y)) := by
  intro b0 ro ca D p l e R s m args below meth c Qm n0 z0 d B K C Q cx hB HK HC HQ ls st h x H locs LS hR hS hL hn hz
  unfold tm_l2d at x
  split at x
  · exact lv_ldiv cx.1 cx.2.1 hd x.1 (HK _ _ _ _ x.2 H locs LS hR hS hL hn hz)
  · exact x.elim
theorem ns_lrem (hd : decode (pr mi).2.1 pc = .ok (.lrem, 1)) : am_Snd pr mi pc (tm_l2d (pc + 1) (fun x y => x - x / y * y)) := by
  intro b0 ro ca D p l e R s m args below meth c Qm n0 z0 d B K C Q cx hB HK HC HQ ls st h x H locs LS hR hS hL hn hz
  unfold tm_l2d at x
  split at x
  · exact lv_lrem cx.1 cx.2.1 hd x.1 (HK _ _ _ _ x.2 H locs LS hR hS hL hn hz)
  · exact x.elim
theorem ns_ineg (hd : decode (pr mi).2.1 pc = .ok (.ineg, 1)) : am_Snd pr mi pc (tm_i1 (pc + 1) (fun x => -x)) := by
  intro b0 ro ca D p l e R s m args below meth c Qm n0 z0 d B K C Q cx hB HK HC HQ ls st h x H locs LS hR hS hL hn hz
  unfold tm_i1 at x
  split at x
  · exact lv_ineg cx.1 cx.2.1 hd (HK _ _ _ _ x H locs LS hR hS hL hn hz)
  · exact x.elim
theorem ns_i2b (hd : decode (pr mi).2.1 pc = .ok (.i2b, 1)) : am_Snd pr mi pc (tm_i1 (pc + 1) (fun x => x.toInt8.toInt32)) := by
  intro b0 ro ca D p l e R s m args below meth c Qm n0 z0 d B K C Q cx hB HK HC HQ ls st h x H locs LS hR hS hL hn hz
  unfold tm_i1 at x
  split at x
  · exact lv_i2b cx.1 cx.2.1 hd rfl (HK _ _ _ _ x H locs LS hR hS hL hn hz)
  · exact x.elim
theorem ns_i2l (hd : decode (pr mi).2.1 pc = .ok (.i2l, 1)) : am_Snd pr mi pc (tm_i2l (pc + 1)) := by
  intro b0 ro ca D p l e R s m args below meth c Qm n0 z0 d B K C Q cx hB HK HC HQ ls st h x H locs LS hR hS hL hn hz
  unfold tm_i2l at x
  split at x
  · exact lv_i2l cx.1 cx.2.1 hd rfl (HK _ _ _ _ x H locs LS hR hS hL hn hz)
  · exact x.elim
theorem ns_dup (hd : decode (pr mi).2.1 pc = .ok (.dup, 1)) : am_Snd pr mi pc (tm_dup (pc + 1)) := by
  intro b0 ro ca D p l e R s m args below meth c Qm n0 z0 d B K C Q cx hB HK HC HQ ls st h x H locs LS hR hS hL hn hz
  unfold tm_dup at x
  split at x
  · exact lv_dup cx.1 cx.2.1 hd (am_c1_cat x.1) (HK _ _ _ _ x.2 H locs LS hR hS hL hn hz)
  · exact x.elim
theorem ns_pop (hd : decode (pr mi).2.1 pc = .ok (.pop, 1)) : am_Snd pr mi pc (tm_pop (pc + 1)) := by
  intro b0 ro ca D p l e R s m args below meth c Qm n0 z0 d B K C Q cx hB HK HC HQ ls st h x H locs LS hR hS hL hn hz
  unfold tm_pop at x
  split at x
  · exact lv_pop cx.1 cx.2.1 hd (am_c1_cat x.1) (HK _ _ _ _ x.2 H locs LS hR hS hL hn hz)
  · exact x.elim
theorem ns_dup2 (hd : decode (pr mi).2.1 pc = .ok (.dup2, 1)) : am_Snd pr mi pc (tm_dup2 (pc + 1)) := by
  intro b0 ro ca D p l e R s m args below meth c Qm n0 z0 d B K C Q cx hB HK HC HQ ls st h x H locs LS hR hS hL hn hz
  unfold tm_dup2 at x
  split at x
  · exact lv_dup2_11 cx.1 cx.2.1 hd (am_c1_cat x.1) (am_c1_cat x.2.1) (HK _ _ _ _ x.2.2 H locs LS hR hS hL hn hz)
  · exact x.elim
theorem ns_pop2 (hd : decode (pr mi).2.1 pc = .ok (.pop2, 1)) : am_Snd pr mi pc (tm_pop2 (pc + 1)) := by
  intro b0 ro ca D p l e R s m args below meth c Qm n0 z0 d B K C Q cx hB HK HC HQ ls st h x H locs LS hR hS hL hn hz
  unfold tm_pop2 at x
  split at x
  · exact lv_pop2_2 cx.1 cx.2.1 hd rfl (HK _ _ _ _ x H locs LS hR hS hL hn hz)
  · exact x.elim
theorem ns_goto {off : Int} {tgt : Nat} (hd : decode (pr mi).2.1 pc = .ok (.goto off, 3)) (ht : (pc : Int) + off = (tgt : Int)) : am_Snd pr mi pc (tm_goto tgt) := by
  intro b0 ro ca D p l e R s m args below meth c Qm n0 z0 d B K C Q cx hB HK HC HQ ls st h x H locs LS hR hS hL hn hz
  exact lv_goto cx.1 cx.2.1 hd ht (HK _ _ _ _ x H locs LS hR hS hL hn hz)
theorem ns_if_eq {off : Int} {tgt : Nat} (hd : decode (pr mi).2.1 pc = .ok (.ifCond .eq off, 3)) (ht : (pc : Int) + off = (tgt : Int)) : am_Snd pr mi pc (tm_if (fun x => x = 0) tgt (pc + 3)) := by
  intro b0 ro ca D p l e R s m args below meth c Qm n0 z0 d B K C Q cx hB HK HC HQ ls st h x H locs LS hR hS hL hn hz
  unfold tm_if at x
  split at x
  · exact lv_if_eq cx.1 cx.2.1 hd ht (fun q => HK _ _ _ _ (x.1 q) H locs LS hR hS hL hn hz) (fun q => HK _ _ _ _ (x.2 q) H locs LS hR hS hL hn hz)
  · exact x.elim
theorem ns_if_ne {off : Int} {tgt : Nat} (hd : decode (pr mi).2.1 pc = .ok (.ifCond .ne off, 3)) (ht : (pc : Int) + off = (tgt : Int)) : am_Snd pr mi pc (tm_if (fun x => x = 0) (pc + 3) tgt) := by
  intro b0 ro ca D p l e R s m args below meth c Qm n0 z0 d B K C Q cx hB HK HC HQ ls st h x H locs LS hR hS hL hn hz
  unfold tm_if at x
  split at x
  · exact lv_if_ne cx.1 cx.2.1 hd ht (fun q => HK _ _ _ _ (x.2 q) H locs LS hR hS hL hn hz) (fun q => HK _ _ _ _ (x.1 q) H locs LS hR hS hL hn hz)
  · exact x.elim
theorem ns_if_lt {off : Int} {tgt : Nat} (hd : decode (pr mi).2.1 pc = .ok (.ifCond .lt off, 3)) (ht : (pc : Int) + off = (tgt : Int)) : am_Snd pr mi pc (tm_if (fun x => x < 0) tgt (pc + 3)) := by
  intro b0 ro ca D p l e R s m args below meth c Qm n0 z0 d B K C Q cx hB HK HC HQ ls st h x H locs LS hR hS hL hn hz
  unfold tm_if at x
  split at x
  · exact lv_if_lt cx.1 cx.2.1 hd ht (fun q => HK _ _ _ _ (x.1 q) H locs LS hR hS hL hn hz) (fun q => HK _ _ _ _ (x.2 q) H locs LS hR hS hL hn hz)
  · exact x.elim
theorem ns_if_ge {off : Int} {tgt : Nat} (hd : decode (pr mi).2.1 pc = .ok (.ifCond .ge off, 3)) (ht : (pc : Int) + off = (tgt : Int)) : am_Snd pr mi pc (tm_if (fun x => 0 ≤ x) tgt (pc + 3)) := by
  intro b0 ro ca D p l e R s m args below meth c Qm n0 z0 d B K C Q cx hB HK HC HQ ls st h x H locs LS hR hS hL hn hz
  unfold tm_if at x
  split at x
  · exact lv_if_ge cx.1 cx.2.1 hd ht (fun q => HK _ _ _ _ (x.1 q) H locs LS hR hS hL hn hz) (fun q => HK _ _ _ _ (x.2 q) H locs LS hR hS hL hn hz)
  · exact x.elim
theorem ns_if_gt {off : Int} {tgt : Nat} (hd : decode (pr mi).2.1 pc = .ok (.ifCond .gt off, 3)) (ht : (pc : Int) + off = (tgt : Int)) : am_Snd pr mi pc (tm_if (fun x => 0 < x) tgt (pc + 3)) := by
  intro b0 ro ca D p l e R s m args below meth c Qm n0 z0 d B K C Q cx hB HK HC HQ ls st h x H locs LS hR hS hL hn hz
  unfold tm_if at x
  split at x
  · exact lv_if_gt cx.1 cx.2.1 hd ht (fun q => HK _ _ _ _ (x.1 q) H locs LS hR hS hL hn hz) (fun q => HK _ _ _ _ (x.2 q) H locs LS hR hS hL hn hz)
  · exact x.elim
theorem ns_if_le {off : Int} {tgt : Nat} (hd : decode (pr mi).2.1 pc = .ok (.ifCond .le off, 3)) (ht : (pc : Int) + off = (tgt : Int)) : am_Snd pr mi pc (tm_if (fun x => x ≤ 0) tgt (pc + 3)) := by
  intro b0 ro ca D p l e R s m args below meth c Qm n0 z0 d B K C Q cx hB HK HC HQ ls st h x H locs LS hR hS hL hn hz
  unfold tm_if at x
  split at x
  · exact lv_if_le cx.1 cx.2.1 hd ht (fun q => HK _ _ _ _ (x.1 q) H locs LS hR hS hL hn hz) (fun q => HK _ _ _ _ (x.2 q) H locs LS hR hS hL hn hz)
  · exact x.elim
theorem ns_cmp_eq {off : Int} {tgt : Nat} (hd : decode (pr mi).2.1 pc = .ok (.if_icmp .eq off, 3)) (ht : (pc : Int) + off = (tgt : Int)) : am_Snd pr mi pc (tm_cmp (fun x y => x = y) tgt (pc + 3)) := by
  intro b0 ro ca D p l e R s m args below meth c Qm n0 z0 d B K C Q cx hB HK HC HQ ls st h x H locs LS hR hS hL hn hz
  unfold tm_cmp at x
  split at x
  · exact lv_icmp_eq cx.1 cx.2.1 hd ht (fun q => HK _ _ _ _ (x.1 q) H locs LS hR hS hL hn hz) (fun q => HK _ _ _ _ (x.2 q) H locs LS hR hS hL hn hz)
  · exact x.elim
theorem ns_cmp_ne {off : Int} {tgt : Nat} (hd : decode (pr mi).2.1 pc = .ok (.if_icmp .ne off, 3)) (ht : (pc : Int) + off = (tgt : Int)) : am_Snd pr mi pc (tm_cmp (fun x y => x = y) (pc + 3) tgt) := by
  intro b0 ro ca D p l e R s m args below meth c Qm n0 z0 d B K C Q cx hB HK HC HQ ls st h x H locs LS hR hS hL hn hz
  unfold tm_cmp at x
  split at x
  · exact lv_icmp_ne cx.1 cx.2.1 hd ht (fun q => HK _ _ _ _ (x.2 q) H locs LS hR hS hL hn hz) (fun q => HK _ _ _ _ (x.1 q) H locs LS hR hS hL hn hz)
  · exact x.elim
theorem ns_cmp_lt {off : Int} {tgt : Nat} (hd : decode (pr mi).2.1 pc = .ok (.if_icmp .lt off, 3)) (ht : (pc : Int) + off = (tgt : Int)) : am_Snd pr mi pc (tm_cmp (fun x y => x < y) tgt (pc + 3)) := by
  intro b0 ro ca D p l e R s m args below meth c Qm n0 z0 d B K C Q cx hB HK HC HQ ls st h x H locs LS hR hS hL hn hz
  unfold tm_cmp at x
  split at x
  · exact lv_icmp_lt cx.1 cx.2.1 hd ht (fun q => HK _ _ _ _ (x.1 q) H locs LS hR hS hL hn hz) (fun q => HK _ _ _ _ (x.2 q) H locs LS hR hS hL hn hz)
  · exact x.elim
theorem ns_cmp_ge {off : Int} {tgt : Nat} (hd : decode (pr mi).2.1 pc = .ok (.if_icmp .ge off, 3)) (ht : (pc : Int) + off = (tgt : Int)) : am_Snd pr mi pc (tm_cmp (fun x y => y ≤ x) tgt (pc + 3)) := by
  intro b0 ro ca D p l e R s m args below meth c Qm n0 z0 d B K C Q cx hB HK HC HQ ls st h x H locs LS hR hS hL hn hz
  unfold tm_cmp at x
  split at x
  · exact lv_icmp_ge cx.1 cx.2.1 hd ht (fun q => HK _ _ _ _ (x.1 q) H locs LS hR hS hL hn hz) (fun q => HK _ _ _ _ (x.2 q) H locs LS hR hS hL hn hz)
  · exact x.elim
theorem ns_cmp_gt {off : Int} {tgt : Nat} (hd : decode (pr mi).2.1 pc = .ok (.if_icmp .gt off, 3)) (ht : (pc : Int) + off = (tgt : Int)) : am_Snd pr mi pc (tm_cmp (fun x y => y < x) tgt (pc + 3)) := by
  intro b0 ro ca D p l e R s m args below meth c Qm n0 z0 d B K C Q cx hB HK HC HQ ls st h x H locs LS hR hS hL hn hz
  unfold tm_cmp at x
  split at x
  · exact lv_icmp_gt cx.1 cx.2.1 hd ht (fun q => HK _ _ _ _ (x.1 q) H locs LS hR hS hL hn hz) (fun q => HK _ _ _ _ (x.2 q) H locs LS hR hS hL hn hz)
  · exact x.elim
theorem ns_cmp_le {off : Int} {tgt : Nat} (hd : decode (pr mi).2.1 pc = .ok (.if_icmp .le off, 3)) (ht : (pc : Int) + off = (tgt : Int)) : am_Snd pr mi pc (tm_cmp (fun x y => x ≤ y) tgt (pc + 3)) := by
  intro b0 ro ca D p l e R s m args below meth c Qm n0 z0 d B K C Q cx hB HK HC HQ ls st h x H locs LS hR hS hL hn hz
  unfold tm_cmp at x
  split at x
  · exact lv_icmp_le cx.1 cx.2.1 hd ht (fun q => HK _ _ _ _ (x.1 q) H locs LS hR hS hL hn hz) (fun q => HK _ _ _ _ (x.2 q) H locs LS hR hS hL hn hz)
  · exact x.elim
theorem ns_lcmp (hd : decode (pr mi).2.1 pc = .ok (.lcmp, 1)) : am_Snd pr mi pc (tm_lcmp (pc + 1)) := by
  intro b0 ro ca D p l e R s m args below meth c Qm n0 z0 d B K C Q cx hB HK HC HQ ls st h x H locs LS hR hS hL hn hz
  unfold tm_lcmp at x
  split at x
  · exact W.lcmp cx.1 cx.2.1 hd (HK _ _ _ _ x H locs LS hR hS hL hn hz)
  · exact x.elim
theorem ns_lshl (hd : decode (pr mi).2.1 pc = .ok (.lshl, 1)) : am_Snd pr mi pc (tm_lshl (pc + 1)) := by
  intro b0 ro ca D p l e R s m args below meth c Qm n0 z0 d B K C Q cx hB HK HC HQ ls st h x H locs LS hR hS hL hn hz
  unfold tm_lshl at x
  split at x
  · exact lv_lshl cx.1 cx.2.1 hd rfl (HK _ _ _ _ x H locs LS hR hS hL hn hz)
  · exact x.elim
theorem am_sw_K {K : Nat → Prop} {dflt : Nat} {x : Int32} : ∀ {cs : List (Int32 × Nat)}, am_sw cs dflt x K → K (am_sel cs dflt x)
  | [], h => h
  | (v, t) :: cs, h => by
    unfold am_sel
    by_cases hv : x = v
    · rw [if_pos hv]; exact h.1 hv
    · rw [if_neg hv]; exact am_sw_K (h.2 hv)
theorem am_chkL_ok {pc dflt : Nat} {d : Int} (hd : (pc : Int) + d = dflt) {x : Int32} : ∀ {ps : List (Int × Int)} {cs : List (Int32 × Nat)}, am_chkL pc ps cs = true → (pc : Int) + Op.lookupswitch.offset ps d x.toInt = am_sel cs dflt x
  | [], [], _ => by simpa [Op.lookupswitch.offset, am_sel] using hd
  | (a, o) :: ps, (v, t) :: cs, h => by
    simp only [am_chkL, Bool.and_eq_true, decide_eq_true_eq] at h
    obtain ⟨⟨h1, h2⟩, h3⟩ := h
    unfold am_sel
    by_cases hv : x = v
    · rw [if_pos hv, Op.lookupswitch.offset_cons, if_pos (by rw [hv, h1])]; exact h2
    · rw [if_neg hv, lv_osw hv h1]; exact am_chkL_ok hd h3
  | [], _ :: _, h => by simp [am_chkL] at h
  | _ :: _, [], h => by simp [am_chkL] at h
theorem ns_lookup {d : Int} {ps : Array (Int × Int)} {len dflt : Nat} {cs : List (Int32 × Nat)} (hd : decode (pr mi).2.1 pc = .ok (.lookupswitch d ps, len)) (hp : (ps.toList.zip (ps.toList.drop 1)).all (fun (a, next) => a.1 < next.1) = true) (h1 : (pc : Int) + d = dflt) (h2 : am_chkL pc ps.toList cs = true) : am_Snd pr mi pc (tm_sw cs dflt) := by
  intro b0 ro ca D p l e R s m args below meth c Qm n0 z0 d B K C Q cx hB HK HC HQ ls st h x H locs LS hR hS hL hn hz
  unfold tm_sw at x
  split at x
  · exact lv_lookup cx.1 cx.2.1 hd hp rfl (am_chkL_ok h1 h2) (HK _ _ _ _ (am_sw_K x) H locs LS hR hS hL hn hz)
  · exact x.elim
theorem am_chkT_len {pc : Nat} : ∀ {lo : Int} {os : List Int} {cs : List (Int32 × Nat)}, am_chkT pc lo os cs = true → os.length = cs.length
  | _, [], [], _ => rfl
  | lo, o :: os, (v, t) :: cs, h => by
    simp only [am_chkT, Bool.and_eq_true, decide_eq_true_eq] at h
    simp [am_chkT_len h.2]
  | _, [], _ :: _, h => by simp [am_chkT] at h
  | _, _ :: _, [], h => by simp [am_chkT] at h
theorem am_chkT_out {pc dflt : Nat} {x : Int32} : ∀ {lo : Int} {os : List Int} {cs : List (Int32 × Nat)}, am_chkT pc lo os cs = true → (x.toInt < lo ∨ lo + os.length ≤ x.toInt) → am_sel cs dflt x = dflt
  | _, [], [], _, _ => rfl
  | lo, o :: os, (v, t) :: cs, h, hx => by
    simp only [am_chkT, Bool.and_eq_true, decide_eq_true_eq] at h
    obtain ⟨⟨h1, h2⟩, h3⟩ := h
    simp only [List.length_cons] at hx
    unfold am_sel
    rw [if_neg (fun q => by rw [q] at hx; omega)]
    exact am_chkT_out h3 (by omega)
  | _, [], _ :: _, h, _ => by simp [am_chkT] at h
  | _, _ :: _, [], h, _ => by simp [am_chkT] at h
theorem am_chkT_in {pc dflt : Nat} {x : Int32} : ∀ {lo : Int} {os : List Int} {cs : List (Int32 × Nat)}, am_chkT pc lo os cs = true → ¬ x.toInt < lo → x.toInt < lo + os.length → ∃ o, os[(x.toInt - lo).toNat]? = some o ∧ (pc : Int) + o = am_sel cs dflt x
  | _, [], [], _, h1, h2 => by simp at h2; omega
  | lo, o :: os, (v, t) :: cs, h, h1, h2 => by
    simp only [am_chkT, Bool.and_eq_true, decide_eq_true_eq] at h
    obtain ⟨⟨g1, g2⟩, g3⟩ := h
    simp only [List.length_cons] at h2
    unfold am_sel
    by_cases hv : x = v
    · refine ⟨o, ?_, ?_⟩
      · rw [hv, g1]; simp
      · rw [if_pos hv]; exact g2
    · have hne : x.toInt ≠ lo := fun q => hv (Int32.toInt_inj.mp (by rw [q, g1]))
      obtain ⟨o', e1, e2⟩ := am_chkT_in (dflt := dflt) (x := x) g3 (by omega) (by omega)
      refine ⟨o', ?_, ?_⟩
      · rw [show (x.toInt - lo).toNat = (x.toInt - (lo + 1)).toNat + 1 by omega]
        simpa using e1
      · rw [if_neg hv]; exact e2
  | _, [], _ :: _, h, _, _ => by simp [am_chkT] at h
  | _, _ :: _, [], h, _, _ => by simp [am_chkT] at h
theorem ns_table {d lo hi : Int} {os : Array Int} {len dflt : Nat} {cs : List (Int32 × Nat)} (hd : decode (pr mi).2.1 pc = .ok (.tableswitch d lo hi os, len)) (h1 : (pc : Int) + d = dflt) (h2 : am_chkT pc lo os.toList cs = true) (h3 : hi + 1 = lo + os.toList.length) : am_Snd pr mi pc (tm_sw cs dflt) := by
  intro b0 ro ca D p l e R s m args below meth c Qm n0 z0 d B K C Q cx hB HK HC HQ ls st h x H locs LS hR hS hL hn hz
  unfold tm_sw at x
  split at x
  · rename_i y st'
    have x' := am_sw_K x
    by_cases ho : y.toInt < lo ∨ hi < y.toInt
    · rw [am_chkT_out h2 (by omega)] at x'
      exact lv_tableOut cx.1 cx.2.1 hd ho h1 (HK _ _ _ _ x' H locs LS hR hS hL hn hz)
    · obtain ⟨o, e1, e2⟩ := am_chkT_in (dflt := dflt) (x := y) h2 (by omega) (by omega)
      exact lv_tableIn cx.1 cx.2.1 hd (by omega) (by omega) (by rw [← Array.getElem?_toList]; exact e1) e2 (HK _ _ _ _ x' H locs LS hR hS hL hn hz)
  · exact x.elim
end STEPS
