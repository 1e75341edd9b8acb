/-! ===== steps of fields and arrays ===== -/
theorem am_cell_obj {b0 : Nat} {ca : Nat → ClassId} {h : am_Hp} {i ci : Nat} (hc : (hS h i).1 = ci) (hk : ci < 100) : am_cell b0 ca h i = .inr (ci, (List.range (hS h i).2).map (fun j => am_val b0 h i j (am_ty ci j))) := by
  unfold am_cell
  rw [hc, if_neg (by omega), if_neg (by omega), if_neg (by omega), if_neg (by omega), if_neg (by omega)]
theorem am_cell_100 {b0 : Nat} {ca : Nat → ClassId} {h : am_Hp} {i : Nat} (hc : (hS h i).1 = 100) : am_cell b0 ca h i = .inl (ca 0, (hS h i).2, .inl (hI h i)) := by
  unfold am_cell
  rw [hc, if_pos rfl]
theorem am_cell_101 {b0 : Nat} {ca : Nat → ClassId} {h : am_Hp} {i : Nat} (hc : (hS h i).1 = 101) : am_cell b0 ca h i = .inl (ca 1, (hS h i).2, .inl (hI h i)) := by
  unfold am_cell
  rw [hc, if_neg (by omega), if_pos rfl]
theorem am_cell_102 {b0 : Nat} {ca : Nat → ClassId} {h : am_Hp} {i : Nat} (hc : (hS h i).1 = 102) : am_cell b0 ca h i = .inl (ca 2, (hS h i).2, .inl (hI h i)) := by
  unfold am_cell
  rw [hc, if_neg (by omega), if_neg (by omega), if_pos rfl]
theorem am_cell_103 {b0 : Nat} {ca : Nat → ClassId} {h : am_Hp} {i : Nat} (hc : (hS h i).1 = 103) : am_cell b0 ca h i = .inl (ca 3, (hS h i).2, .inr (.inl (hL h i))) := by
  unfold am_cell
  rw [hc, if_neg (by omega), if_neg (by omega), if_neg (by omega), if_pos rfl]
theorem am_cell_104 {b0 : Nat} {ca : Nat → ClassId} {h : am_Hp} {i : Nat} (hc : (hS h i).1 = 104) : am_cell b0 ca h i = .inl (ca 4, (hS h i).2, .inr (.inr (.inr (.inr (fun j => (hR h i j).map (fun q => b0 + q)))))) := by
  unfold am_cell
  rw [hc, if_neg (by omega), if_neg (by omega), if_neg (by omega), if_neg (by omega), if_pos rfl]
theorem am_val_eq {b0 : Nat} {h h' : am_Hp} {i j : Nat} (h1 : hI h' i j = hI h i j) (h2 : hL h' i j = hL h i j) (h3 : hR h' i j = hR h i j) (t : FieldType) : am_val b0 h' i j t = am_val b0 h i j t := by
  cases t <;> simp only [am_val, h1, h2, h3]
theorem am_cell_eq {b0 : Nat} {ca : Nat → ClassId} {h h' : am_Hp} {i : Nat} (h0 : hS h' i = hS h i) (h1 : hI h' i = hI h i) (h2 : hL h' i = hL h i) (h3 : hR h' i = hR h i) : am_cell b0 ca h' i = am_cell b0 ca h i := by
  have hv : ∀ j t, am_val b0 h' i j t = am_val b0 h i j t := fun j t => am_val_eq (by rw [h1]) (by rw [h2]) (by rw [h3]) t
  unfold am_cell
  simp only [h0, h1, h2, h3, hv]
theorem am_map_set {α : Type} {n k : Nat} {f g : Nat → α} {v : α} (hk : g k = v) (ho : ∀ j, j ≠ k → g j = f j) : ((List.range n).map f).set k v = (List.range n).map g := by
  refine List.ext_getElem? fun i => ?_
  rw [List.getElem?_set]
  by_cases hi : k = i
  · subst hi
    rw [if_pos rfl]
    by_cases hn : k < n
    · simp [hn, hk]
    · simp [hn]
  · rw [if_neg hi]
    by_cases hn : i < n
    · simp [hn, ho i (fun q => hi q.symm)]
    · simp [hn]
theorem u2_at {α : Type} (f : Nat → Nat → α) (i j : Nat) (x : α) : u2 f i j x i j = x := by rw [u2_eq, if_pos ⟨rfl, rfl⟩]
theorem u2_col {α : Type} {f : Nat → Nat → α} {i j a b : Nat} {x : α} (h : b ≠ j) : u2 f i j x a b = f a b := by rw [u2_eq, if_neg (fun q => h q.2)]
-- transformers; a cell is asked for its kind
def am_is (h : am_Hp) (a k : Nat) : Bool := Nat.blt a (hN h) && Nat.beq (hS h a).1 k
theorem am_is_ok {h : am_Hp} {a k : Nat} (q : am_is h a k = true) : a < hN h ∧ (hS h a).1 = k := by
  simp only [am_is, Bool.and_eq_true] at q
  exact ⟨Nat.blt_eq.mp q.1, Nat.eq_of_beq_eq_true q.2⟩
def am_has (h : am_Hp) (a ci k : Nat) : Bool := Nat.blt a (hN h) && Nat.beq (hS h a).1 ci && Nat.blt k (hS h a).2
theorem am_has_ok {h : am_Hp} {a ci k : Nat} (q : am_has h a ci k = true) : a < hN h ∧ (hS h a).1 = ci ∧ k < (hS h a).2 := by
  simp only [am_has, Bool.and_eq_true] at q
  exact ⟨Nat.blt_eq.mp q.1.1, Nat.eq_of_beq_eq_true q.1.2, Nat.blt_eq.mp q.2⟩
def tm_gfi (nx ci k : Nat) : am_T := fun _ K _ _ ls st h => match st with
  | .ref a :: st' => bif am_has h a ci k then K nx ls (.int (hI h a k) :: st') h else False
  | _ => False
def tm_gfl (nx ci k : Nat) : am_T := fun _ K _ _ ls st h => match st with
  | .ref a :: st' => bif am_has h a ci k then K nx ls (.long (hL h a k) :: st') h else False
  | _ => False
def tm_gfr (nx ci k : Nat) : am_T := fun _ K _ _ ls st h => match st with
  | .ref a :: st' => bif am_has h a ci k then (match hR h a k with
    | some q => K nx ls (.ref q :: st') h
    | none => False) else False
  | _ => False
def tm_pfi (nx ci k : Nat) : am_T := fun _ K _ _ ls st h => match st with
  | .int x :: .ref a :: st' => bif am_has h a ci k then K nx ls st' (sI h (u2 (hI h) a k x)) else False
  | _ => False
def tm_pfz (nx ci k : Nat) : am_T := fun _ K _ _ ls st h => match st with
  | .int x :: .ref a :: st' => bif am_has h a ci k then (x = 0 ∨ x = 1) ∧ K nx ls st' (sI h (u2 (hI h) a k x)) else False
  | _ => False
def tm_pfl (nx ci k : Nat) : am_T := fun _ K _ _ ls st h => match st with
  | .long x :: .ref a :: st' => bif am_has h a ci k then K nx ls st' (sL h (u2 (hL h) a k x)) else False
  | _ => False
def tm_pfr (nx ci k : Nat) : am_T := fun _ K _ _ ls st h => match st with
  | .ref x :: .ref a :: st' => bif am_has h a ci k then K nx ls st' (sR h (u2 (hR h) a k (some x))) else False
  | _ => False
def tm_iald (nx kd : Nat) : am_T := fun _ K _ _ ls st h => match st with
  | .int i :: .ref a :: st' => bif am_is h a kd then vp_in i (hS h a).2 ∧ K nx ls (.int (hI h a i.toNatClampNeg) :: st') h else False
  | _ => False
def tm_lald (nx : Nat) : am_T := fun _ K _ _ ls st h => match st with
  | .int i :: .ref a :: st' => bif am_is h a 103 then vp_in i (hS h a).2 ∧ K nx ls (.long (hL h a i.toNatClampNeg) :: st') h else False
  | .int i :: .retAddr 0 :: st' => vp_in i 9 ∧ K nx ls (.long (am_pow i.toNatClampNeg) :: st') h
  | _ => False
def tm_aald (nx : Nat) : am_T := fun _ K _ _ ls st h => match st with
  | .int i :: .ref a :: st' => bif am_is h a 104 then vp_in i (hS h a).2 ∧ (match hR h a i.toNatClampNeg with
    | some q => K nx ls (.ref q :: st') h
    | none => False) else False
  | _ => False
def tm_iast (nx : Nat) : am_T := fun _ K _ _ ls st h => match st with
  | .int x :: .int i :: .ref a :: st' => bif am_is h a 100 then vp_in i (hS h a).2 ∧ K nx ls st' (sI h (u2 (hI h) a i.toNatClampNeg x)) else False
  | _ => False
def tm_bast (nx : Nat) : am_T := fun _ K _ _ ls st h => match st with
  | .int x :: .int i :: .ref a :: st' => bif am_is h a 101 then vp_in i (hS h a).2 ∧ K nx ls st' (sI h (u2 (hI h) a i.toNatClampNeg (vp_nar .byte x))) else False
  | _ => False
def tm_zast (nx : Nat) : am_T := fun _ K _ _ ls st h => match st with
  | .int x :: .int i :: .ref a :: st' => bif am_is h a 102 then vp_in i (hS h a).2 ∧ K nx ls st' (sI h (u2 (hI h) a i.toNatClampNeg (vp_nar .boolean x))) else False
  | _ => False
def tm_last (nx : Nat) : am_T := fun _ K _ _ ls st h => match st with
  | .long x :: .int i :: .ref a :: st' => bif am_is h a 103 then vp_in i (hS h a).2 ∧ K nx ls st' (sL h (u2 (hL h) a i.toNatClampNeg x)) else False
  | _ => False
def tm_aast (nx : Nat) : am_T := fun _ K _ _ ls st h => match st with
  | .ref x :: .int i :: .ref a :: st' => bif am_is h a 104 && am_is h x 7 then vp_in i (hS h a).2 ∧ K nx ls st' (sR h (u2 (hR h) a i.toNatClampNeg (some x))) else False
  | _ => False
def tm_alen (nx kd : Nat) : am_T := fun _ K _ _ ls st h => match st with
  | .ref a :: st' => bif am_is h a kd then K nx ls (.int (Int32.ofNat (hS h a).2) :: st') h else False
  | _ => False
def tm_pow (nx : Nat) : am_T := fun _ K _ _ ls st h => K nx ls (.retAddr 0 :: st) h
section CELLS
variable {pr : am_P} {mi pc : Nat}
theorem am_row_i {b0 : Nat} {ca : Nat → ClassId} {h : am_Hp} {f : Nat → Nat → Int32} {a j : Nat} (hf : ∀ b, b ≠ a → f b = hI h b) (hj : j ≠ a) : am_cell b0 ca (sI h f) j = am_cell b0 ca h j := am_cell_eq rfl (hf j hj) rfl rfl
theorem am_row_l {b0 : Nat} {ca : Nat → ClassId} {h : am_Hp} {f : Nat → Nat → Int64} {a j : Nat} (hf : ∀ b, b ≠ a → f b = hL h b) (hj : j ≠ a) : am_cell b0 ca (sL h f) j = am_cell b0 ca h j := am_cell_eq rfl rfl (hf j hj) rfl
theorem am_row_r {b0 : Nat} {ca : Nat → ClassId} {h : am_Hp} {f : Nat → Nat → Option Nat} {a j : Nat} (hf : ∀ b, b ≠ a → f b = hR h b) (hj : j ≠ a) : am_cell b0 ca (sR h f) j = am_cell b0 ca h j := am_cell_eq rfl rfl rfl (hf j hj)
theorem am_put_i {b0 : Nat} {ca : Nat → ClassId} {h : am_Hp} {a ci k : Nat} {x : Int32} (hc : (hS h a).1 = ci) (hk : ci < 100) (hv : ∀ (g : am_Hp), am_val b0 g a k (am_ty ci k) = .int (hI g a k)) :
    (am_ws b0 ca h).set a (b0 + a, .inr (ci, ((List.range (hS h a).2).map (fun j => am_val b0 h a j (am_ty ci j))).set k (.int x))) = am_ws b0 ca (sI h (u2 (hI h) a k x)) := by
  rw [am_map_set (f := fun j => am_val b0 h a j (am_ty ci j)) (k := k) (v := .int x) (g := fun j => am_val b0 (sI h (u2 (hI h) a k x)) a j (am_ty ci j)) (by rw [hv]; exact congrArg Value.int (u2_at _ _ _ _)) (fun j hj => am_val_eq (h := h) (h' := sI h (u2 (hI h) a k x)) (u2_col hj) rfl rfl _)]
  rw [← am_ws_set (h := h) (h' := sI h (u2 (hI h) a k x)) (i := a) rfl (fun j hj => am_row_i (fun b hb => u2_row_ne hb) hj), am_cell_obj (h := sI h (u2 (hI h) a k x)) hc hk]
theorem am_put_l {b0 : Nat} {ca : Nat → ClassId} {h : am_Hp} {a ci k : Nat} {x : Int64} (hc : (hS h a).1 = ci) (hk : ci < 100) (hv : ∀ (g : am_Hp), am_val b0 g a k (am_ty ci k) = .long (hL g a k)) :
    (am_ws b0 ca h).set a (b0 + a, .inr (ci, ((List.range (hS h a).2).map (fun j => am_val b0 h a j (am_ty ci j))).set k (.long x))) = am_ws b0 ca (sL h (u2 (hL h) a k x)) := by
  rw [am_map_set (f := fun j => am_val b0 h a j (am_ty ci j)) (k := k) (v := .long x) (g := fun j => am_val b0 (sL h (u2 (hL h) a k x)) a j (am_ty ci j)) (by rw [hv]; exact congrArg Value.long (u2_at _ _ _ _)) (fun j hj => am_val_eq (h := h) (h' := sL h (u2 (hL h) a k x)) rfl (u2_col hj) rfl _)]
  rw [← am_ws_set (h := h) (h' := sL h (u2 (hL h) a k x)) (i := a) rfl (fun j hj => am_row_l (fun b hb => u2_row_ne hb) hj), am_cell_obj (h := sL h (u2 (hL h) a k x)) hc hk]
theorem am_put_r {b0 : Nat} {ca : Nat → ClassId} {h : am_Hp} {a ci k x : Nat} (hc : (hS h a).1 = ci) (hk : ci < 100) (hv : ∀ (g : am_Hp), am_val b0 g a k (am_ty ci k) = va_rf ((hR g a k).map (fun q => b0 + q))) :
    (am_ws b0 ca h).set a (b0 + a, .inr (ci, ((List.range (hS h a).2).map (fun j => am_val b0 h a j (am_ty ci j))).set k (.ref (b0 + x)))) = am_ws b0 ca (sR h (u2 (hR h) a k (some x))) := by
  rw [am_map_set (f := fun j => am_val b0 h a j (am_ty ci j)) (k := k) (v := .ref (b0 + x)) (g := fun j => am_val b0 (sR h (u2 (hR h) a k (some x))) a j (am_ty ci j)) (by rw [hv]; show va_rf ((u2 (hR h) a k (some x) a k).map _) = _; rw [u2_at]; rfl) (fun j hj => am_val_eq (h := h) (h' := sR h (u2 (hR h) a k (some x))) rfl rfl (u2_col hj) _)]
  rw [← am_ws_set (h := h) (h' := sR h (u2 (hR h) a k (some x))) (i := a) rfl (fun j hj => am_row_r (fun b hb => u2_row_ne hb) hj), am_cell_obj (h := sR h (u2 (hR h) a k (some x))) hc hk]
/-- the words of a class's fields -/
def am_cls (ci N : Nat) (C : String) (T : u_T) : Prop := vwCl[ci]? = some (C, T, N) ∧ ci < 100 ∧ (∀ w ∈ u_ws C T N, w ∈ tblG) ∧ (∀ k, k < N → parseFieldDescriptor (T k).2.2.1 = some (am_ty ci k)) ∧ ∀ a, a < N → ∀ b, b < N → a ≠ b → (T a).2.1 ≠ (T b).2.1
theorem am_fs_get {n k : Nat} {f : Nat → Value} (hk : k < n) : ((List.range n).map f)[k]? = some (f k) := by simp [hk]
theorem ns_gfi {ci k index N : Nat} {C : String} {T : u_T} (hc : am_cls ci N C T) (hk : k < N) (hv : ∀ (b0 a : Nat) (g : am_Hp), am_val b0 g a k (am_ty ci k) = .int (hI g a k)) (hw : Cond.fieldLink (pr mi).1.cls index (T k).1 (T k).2.1 (T k).2.2.1 ∈ tblG) (hd : decode (pr mi).2.1 pc = .ok (.getfield index, 3)) : am_Snd pr mi pc (tm_gfi (pc + 3) ci k) := by
  intro b0 ro ca D p l e R s m args below meth c Qm n0 z0 d B K C Q cx hB HK HC HQ ls st h x H locs LS rR rS rL rn rz
  unfold tm_gfi at x
  split at x
  · rename_i a st'
    obtain ⟨x1, x2⟩ := am_bif x
    obtain ⟨g1, g2, g3⟩ := am_has_ok x1
    have he := am_ws_get (b0 := b0) (ca := ca) g1
    rw [am_cell_obj g2 hc.2.1] at he
    exact va_get cx.1 cx.2.1 cx.2.2.2.1 hc.2.2.1 cx.2.2.1 cx.2.2.2.2.2.1 rR a he hc.1 k hk (cx.2.2.2.1 _ hw) (fun _ q => q) ((am_fs_get g3).trans (congrArg some (hv b0 a h))) hd (HK _ _ _ _ x2 H locs LS rR rS rL rn rz)
  · exact x.elim
theorem ns_gfl {ci k index N : Nat} {C : String} {T : u_T} (hc : am_cls ci N C T) (hk : k < N) (hv : ∀ (b0 a : Nat) (g : am_Hp), am_val b0 g a k (am_ty ci k) = .long (hL g a k)) (hw : Cond.fieldLink (pr mi).1.cls index (T k).1 (T k).2.1 (T k).2.2.1 ∈ tblG) (hd : decode (pr mi).2.1 pc = .ok (.getfield index, 3)) : am_Snd pr mi pc (tm_gfl (pc + 3) ci k) := by
  intro b0 ro ca D p l e R s m args below meth c Qm n0 z0 d B K C Q cx hB HK HC HQ ls st h x H locs LS rR rS rL rn rz
  unfold tm_gfl at x
  split at x
  · rename_i a st'
    obtain ⟨x1, x2⟩ := am_bif x
    obtain ⟨g1, g2, g3⟩ := am_has_ok x1
    have he := am_ws_get (b0 := b0) (ca := ca) g1
    rw [am_cell_obj g2 hc.2.1] at he
    exact va_get cx.1 cx.2.1 cx.2.2.2.1 hc.2.2.1 cx.2.2.1 cx.2.2.2.2.2.1 rR a he hc.1 k hk (cx.2.2.2.1 _ hw) (fun _ q => q) ((am_fs_get g3).trans (congrArg some (hv b0 a h))) hd (HK _ _ _ _ x2 H locs LS rR rS rL rn rz)
  · exact x.elim
theorem ns_gfr {ci k index N : Nat} {C : String} {T : u_T} (hc : am_cls ci N C T) (hk : k < N) (hv : ∀ (b0 a : Nat) (g : am_Hp), am_val b0 g a k (am_ty ci k) = va_rf ((hR g a k).map (fun q => b0 + q))) (hw : Cond.fieldLink (pr mi).1.cls index (T k).1 (T k).2.1 (T k).2.2.1 ∈ tblG) (hd : decode (pr mi).2.1 pc = .ok (.getfield index, 3)) : am_Snd pr mi pc (tm_gfr (pc + 3) ci k) := by
  intro b0 ro ca D p l e R s m args below meth c Qm n0 z0 d B K C Q cx hB HK HC HQ ls st h x H locs LS rR rS rL rn rz
  unfold tm_gfr at x
  split at x
  · rename_i a st'
    obtain ⟨x1, x2⟩ := am_bif x
    obtain ⟨g1, g2, g3⟩ := am_has_ok x1
    have he := am_ws_get (b0 := b0) (ca := ca) g1
    rw [am_cell_obj g2 hc.2.1] at he
    split at x2
    · rename_i q hq
      exact va_get (v := .ref (b0 + q)) cx.1 cx.2.1 cx.2.2.2.1 hc.2.2.1 cx.2.2.1 cx.2.2.2.2.2.1 rR a he hc.1 k hk (cx.2.2.2.1 _ hw) (fun _ q => q) ((am_fs_get g3).trans (congrArg some ((hv b0 a h).trans (by rw [hq]; rfl)))) hd (HK _ _ _ _ x2 H locs LS rR rS rL rn rz)
    · exact x2.elim
  · exact x.elim
theorem ns_pfi {ci k index N : Nat} {C : String} {T : u_T} (hc : am_cls ci N C T) (hk : k < N) (hv : ∀ (b0 a : Nat) (g : am_Hp), am_val b0 g a k (am_ty ci k) = .int (hI g a k)) (ht : am_ty ci k = .int) (hf : (T k).2.2.2 = false) (hw : Cond.fieldLink (pr mi).1.cls index (T k).1 (T k).2.1 (T k).2.2.1 ∈ tblG) (hd : decode (pr mi).2.1 pc = .ok (.putfield index, 3)) : am_Snd pr mi pc (tm_pfi (pc + 3) ci k) := by
  intro b0 ro ca D p l e R s m args below meth c Qm n0 z0 d B K C Q cx hB HK HC HQ ls st h x H locs LS rR rS rL rn rz
  unfold tm_pfi at x
  split at x
  · rename_i y a st'
    obtain ⟨x1, x2⟩ := am_bif x
    obtain ⟨g1, g2, g3⟩ := am_has_ok x1
    have he := am_ws_get (b0 := b0) (ca := ca) g1
    rw [am_cell_obj g2 hc.2.1] at he
    refine va_put (v := .int y) cx.1 cx.2.1 cx.2.2.2.1 hc.2.2.1 (am_ty ci) hc.2.2.2.1 hc.2.2.2.2 cx.2.2.1 cx.2.2.2.2.2.1 rR am_D rS a he hc.1 k hk (cx.2.2.2.1 _ hw) (fun _ q => q) hf (hc.2.2.2.1 k hk) (by rw [ht]; rfl) (by rw [ht]; rfl) (by simpa using g3) hd (fun H1 locs1 hP1 hD1 hS1 => ?_)
    rw [am_put_i g2 hc.2.1 (hv b0 a)] at hP1
    exact HK _ _ _ _ x2 H1 locs1 LS hP1 hS1 rL rn rz
  · exact x.elim
theorem ns_pfz {ci k index N : Nat} {C : String} {T : u_T} (hc : am_cls ci N C T) (hk : k < N) (hv : ∀ (b0 a : Nat) (g : am_Hp), am_val b0 g a k (am_ty ci k) = .int (hI g a k)) (ht : am_ty ci k = .boolean) (hf : (T k).2.2.2 = false) (hw : Cond.fieldLink (pr mi).1.cls index (T k).1 (T k).2.1 (T k).2.2.1 ∈ tblG) (hd : decode (pr mi).2.1 pc = .ok (.putfield index, 3)) : am_Snd pr mi pc (tm_pfz (pc + 3) ci k) := by
  intro b0 ro ca D p l e R s m args below meth c Qm n0 z0 d B K C Q cx hB HK HC HQ ls st h x H locs LS rR rS rL rn rz
  unfold tm_pfz at x
  split at x
  · rename_i y a st'
    obtain ⟨x1, x2⟩ := am_bif x
    obtain ⟨g1, g2, g3⟩ := am_has_ok x1
    have he := am_ws_get (b0 := b0) (ca := ca) g1
    rw [am_cell_obj g2 hc.2.1] at he
    refine va_put (v := .int y) cx.1 cx.2.1 cx.2.2.2.1 hc.2.2.1 (am_ty ci) hc.2.2.2.1 hc.2.2.2.2 cx.2.2.1 cx.2.2.2.2.2.1 rR am_D rS a he hc.1 k hk (cx.2.2.2.1 _ hw) (fun _ q => q) hf (hc.2.2.2.1 k hk) (by rw [ht]; rcases x2.1 with q | q <;> rw [q] <;> decide) (by rw [ht]; rcases x2.1 with q | q <;> rw [q] <;> decide) (by simpa using g3) hd (fun H1 locs1 hP1 hD1 hS1 => ?_)
    rw [am_put_i g2 hc.2.1 (hv b0 a)] at hP1
    exact HK _ _ _ _ x2.2 H1 locs1 LS hP1 hS1 rL rn rz
  · exact x.elim
theorem ns_pfl {ci k index N : Nat} {C : String} {T : u_T} (hc : am_cls ci N C T) (hk : k < N) (hv : ∀ (b0 a : Nat) (g : am_Hp), am_val b0 g a k (am_ty ci k) = .long (hL g a k)) (ht : am_ty ci k = .long) (hf : (T k).2.2.2 = false) (hw : Cond.fieldLink (pr mi).1.cls index (T k).1 (T k).2.1 (T k).2.2.1 ∈ tblG) (hd : decode (pr mi).2.1 pc = .ok (.putfield index, 3)) : am_Snd pr mi pc (tm_pfl (pc + 3) ci k) := by
  intro b0 ro ca D p l e R s m args below meth c Qm n0 z0 d B K C Q cx hB HK HC HQ ls st h x H locs LS rR rS rL rn rz
  unfold tm_pfl at x
  split at x
  · rename_i y a st'
    obtain ⟨x1, x2⟩ := am_bif x
    obtain ⟨g1, g2, g3⟩ := am_has_ok x1
    have he := am_ws_get (b0 := b0) (ca := ca) g1
    rw [am_cell_obj g2 hc.2.1] at he
    refine va_put (v := .long y) cx.1 cx.2.1 cx.2.2.2.1 hc.2.2.1 (am_ty ci) hc.2.2.2.1 hc.2.2.2.2 cx.2.2.1 cx.2.2.2.2.2.1 rR am_D rS a he hc.1 k hk (cx.2.2.2.1 _ hw) (fun _ q => q) hf (hc.2.2.2.1 k hk) (by rw [ht]; rfl) (by rw [ht]; rfl) (by simpa using g3) hd (fun H1 locs1 hP1 hD1 hS1 => ?_)
    rw [am_put_l g2 hc.2.1 (hv b0 a)] at hP1
    exact HK _ _ _ _ x2 H1 locs1 LS hP1 hS1 rL rn rz
  · exact x.elim
theorem ns_pfr {ci k index N : Nat} {C : String} {T : u_T} (hc : am_cls ci N C T) (hk : k < N) (hv : ∀ (b0 a : Nat) (g : am_Hp), am_val b0 g a k (am_ty ci k) = va_rf ((hR g a k).map (fun q => b0 + q))) (ht : ∀ q : Nat, narrow (am_ty ci k) (.ref q) = .ref q ∧ fits (am_ty ci k) (.ref q) = true) (hf : (T k).2.2.2 = false) (hw : Cond.fieldLink (pr mi).1.cls index (T k).1 (T k).2.1 (T k).2.2.1 ∈ tblG) (hd : decode (pr mi).2.1 pc = .ok (.putfield index, 3)) : am_Snd pr mi pc (tm_pfr (pc + 3) ci k) := by
  intro b0 ro ca D p l e R s m args below meth c Qm n0 z0 d B K C Q cx hB HK HC HQ ls st h x H locs LS rR rS rL rn rz
  unfold tm_pfr at x
  split at x
  · rename_i y a st'
    obtain ⟨x1, x2⟩ := am_bif x
    obtain ⟨g1, g2, g3⟩ := am_has_ok x1
    have he := am_ws_get (b0 := b0) (ca := ca) g1
    rw [am_cell_obj g2 hc.2.1] at he
    refine va_put (v := .ref (b0 + y)) cx.1 cx.2.1 cx.2.2.2.1 hc.2.2.1 (am_ty ci) hc.2.2.2.1 hc.2.2.2.2 cx.2.2.1 cx.2.2.2.2.2.1 rR am_D rS a he hc.1 k hk (cx.2.2.2.1 _ hw) (fun _ q => q) hf (hc.2.2.2.1 k hk) (ht _).1 (ht _).2 (by simpa using g3) hd (fun H1 locs1 hP1 hD1 hS1 => ?_)
    rw [am_put_r g2 hc.2.1 (hv b0 a)] at hP1
    exact HK _ _ _ _ x2 H1 locs1 LS hP1 hS1 rL rn rz
  · exact x.elim
theorem ns_pfiF {ci k index N : Nat} {C : String} {T : u_T} (hc : am_cls ci N C T) (hk : k < N) (hv : ∀ (b0 a : Nat) (g : am_Hp), am_val b0 g a k (am_ty ci k) = .int (hI g a k)) (ht : am_ty ci k = .int) (hf : (T k).2.2.2 = true) (hi : (pr mi).1.name = "<init>") (ho : (T k).1 = (pr mi).1.cls) (hw : Cond.fieldLink (pr mi).1.cls index (T k).1 (T k).2.1 (T k).2.2.1 ∈ tblG) (hd : decode (pr mi).2.1 pc = .ok (.putfield index, 3)) : am_Snd pr mi pc (tm_pfi (pc + 3) ci k) := by
  intro b0 ro ca D p l e R s m args below meth c Qm n0 z0 d B K C Q cx hB HK HC HQ ls st h x H locs LS rR rS rL rn rz
  unfold tm_pfi at x
  split at x
  · rename_i y a st'
    obtain ⟨x1, x2⟩ := am_bif x
    obtain ⟨g1, g2, g3⟩ := am_has_ok x1
    have he := am_ws_get (b0 := b0) (ca := ca) g1
    rw [am_cell_obj g2 hc.2.1] at he
    refine va_putF (v := .int y) cx.1 cx.2.1 cx.2.2.2.1 hc.2.2.1 (am_ty ci) hc.2.2.2.1 hc.2.2.2.2 cx.2.2.1 cx.2.2.2.2.2.1 rR am_D rS a he hc.1 k hk (cx.2.2.2.1 _ hw) (fun _ q => q) hf (cx.2.2.2.2.1.trans hi) ho (hc.2.2.2.1 k hk) (by rw [ht]; rfl) (by rw [ht]; rfl) (by simpa using g3) hd (fun H1 locs1 hP1 hD1 hS1 => ?_)
    rw [am_put_i g2 hc.2.1 (hv b0 a)] at hP1
    exact HK _ _ _ _ x2 H1 locs1 LS hP1 hS1 rL rn rz
  · exact x.elim
theorem ns_pfzF {ci k index N : Nat} {C : String} {T : u_T} (hc : am_cls ci N C T) (hk : k < N) (hv : ∀ (b0 a : Nat) (g : am_Hp), am_val b0 g a k (am_ty ci k) = .int (hI g a k)) (ht : am_ty ci k = .boolean) (hf : (T k).2.2.2 = true) (hi : (pr mi).1.name = "<init>") (ho : (T k).1 = (pr mi).1.cls) (hw : Cond.fieldLink (pr mi).1.cls index (T k).1 (T k).2.1 (T k).2.2.1 ∈ tblG) (hd : decode (pr mi).2.1 pc = .ok (.putfield index, 3)) : am_Snd pr mi pc (tm_pfz (pc + 3) ci k) := by
  intro b0 ro ca D p l e R s m args below meth c Qm n0 z0 d B K C Q cx hB HK HC HQ ls st h x H locs LS rR rS rL rn rz
  unfold tm_pfz at x
  split at x
  · rename_i y a st'
    obtain ⟨x1, x2⟩ := am_bif x
    obtain ⟨g1, g2, g3⟩ := am_has_ok x1
    have he := am_ws_get (b0 := b0) (ca := ca) g1
    rw [am_cell_obj g2 hc.2.1] at he
    refine va_putF (v := .int y) cx.1 cx.2.1 cx.2.2.2.1 hc.2.2.1 (am_ty ci) hc.2.2.2.1 hc.2.2.2.2 cx.2.2.1 cx.2.2.2.2.2.1 rR am_D rS a he hc.1 k hk (cx.2.2.2.1 _ hw) (fun _ q => q) hf (cx.2.2.2.2.1.trans hi) ho (hc.2.2.2.1 k hk) (by rw [ht]; rcases x2.1 with q | q <;> rw [q] <;> decide) (by rw [ht]; rcases x2.1 with q | q <;> rw [q] <;> decide) (by simpa using g3) hd (fun H1 locs1 hP1 hD1 hS1 => ?_)
    rw [am_put_i g2 hc.2.1 (hv b0 a)] at hP1
    exact HK _ _ _ _ x2.2 H1 locs1 LS hP1 hS1 rL rn rz
  · exact x.elim
theorem ns_pflF {ci k index N : Nat} {C : String} {T : u_T} (hc : am_cls ci N C T) (hk : k < N) (hv : ∀ (b0 a : Nat) (g : am_Hp), am_val b0 g a k (am_ty ci k) = .long (hL g a k)) (ht : am_ty ci k = .long) (hf : (T k).2.2.2 = true) (hi : (pr mi).1.name = "<init>") (ho : (T k).1 = (pr mi).1.cls) (hw : Cond.fieldLink (pr mi).1.cls index (T k).1 (T k).2.1 (T k).2.2.1 ∈ tblG) (hd : decode (pr mi).2.1 pc = .ok (.putfield index, 3)) : am_Snd pr mi pc (tm_pfl (pc + 3) ci k) := by
  intro b0 ro ca D p l e R s m args below meth c Qm n0 z0 d B K C Q cx hB HK HC HQ ls st h x H locs LS rR rS rL rn rz
  unfold tm_pfl at x
  split at x
  · rename_i y a st'
    obtain ⟨x1, x2⟩ := am_bif x
    obtain ⟨g1, g2, g3⟩ := am_has_ok x1
    have he := am_ws_get (b0 := b0) (ca := ca) g1
    rw [am_cell_obj g2 hc.2.1] at he
    refine va_putF (v := .long y) cx.1 cx.2.1 cx.2.2.2.1 hc.2.2.1 (am_ty ci) hc.2.2.2.1 hc.2.2.2.2 cx.2.2.1 cx.2.2.2.2.2.1 rR am_D rS a he hc.1 k hk (cx.2.2.2.1 _ hw) (fun _ q => q) hf (cx.2.2.2.2.1.trans hi) ho (hc.2.2.2.1 k hk) (by rw [ht]; rfl) (by rw [ht]; rfl) (by simpa using g3) hd (fun H1 locs1 hP1 hD1 hS1 => ?_)
    rw [am_put_l g2 hc.2.1 (hv b0 a)] at hP1
    exact HK _ _ _ _ x2 H1 locs1 LS hP1 hS1 rL rn rz
  · exact x.elim
theorem ns_pfrF {ci k index N : Nat} {C : String} {T : u_T} (hc : am_cls ci N C T) (hk : k < N) (hv : ∀ (b0 a : Nat) (g : am_Hp), am_val b0 g a k (am_ty ci k) = va_rf ((hR g a k).map (fun q => b0 + q))) (ht : ∀ q : Nat, narrow (am_ty ci k) (.ref q) = .ref q ∧ fits (am_ty ci k) (.ref q) = true) (hf : (T k).2.2.2 = true) (hi : (pr mi).1.name = "<init>") (ho : (T k).1 = (pr mi).1.cls) (hw : Cond.fieldLink (pr mi).1.cls index (T k).1 (T k).2.1 (T k).2.2.1 ∈ tblG) (hd : decode (pr mi).2.1 pc = .ok (.putfield index, 3)) : am_Snd pr mi pc (tm_pfr (pc + 3) ci k) := by
  intro b0 ro ca D p l e R s m args below meth c Qm n0 z0 d B K C Q cx hB HK HC HQ ls st h x H locs LS rR rS rL rn rz
  unfold tm_pfr at x
  split at x
  · rename_i y a st'
    obtain ⟨x1, x2⟩ := am_bif x
    obtain ⟨g1, g2, g3⟩ := am_has_ok x1
    have he := am_ws_get (b0 := b0) (ca := ca) g1
    rw [am_cell_obj g2 hc.2.1] at he
    refine va_putF (v := .ref (b0 + y)) cx.1 cx.2.1 cx.2.2.2.1 hc.2.2.1 (am_ty ci) hc.2.2.2.1 hc.2.2.2.2 cx.2.2.1 cx.2.2.2.2.2.1 rR am_D rS a he hc.1 k hk (cx.2.2.2.1 _ hw) (fun _ q => q) hf (cx.2.2.2.2.1.trans hi) ho (hc.2.2.2.1 k hk) (ht _).1 (ht _).2 (by simpa using g3) hd (fun H1 locs1 hP1 hD1 hS1 => ?_)
    rw [am_put_r g2 hc.2.1 (hv b0 a)] at hP1
    exact HK _ _ _ _ x2 H1 locs1 LS hP1 hS1 rL rn rz
  · exact x.elim
theorem ns_iald (hd : decode (pr mi).2.1 pc = .ok (.iaload, 1)) : am_Snd pr mi pc (tm_iald (pc + 1) 100) := by
  intro b0 ro ca D p l e R s m args below meth c Qm n0 z0 d B K C Q cx hB HK HC HQ ls st h x H locs LS rR rS rL rn rz
  unfold tm_iald at x
  split at x
  · rename_i i a st'
    obtain ⟨x1, x2⟩ := am_bif x
    obtain ⟨g1, g2⟩ := am_is_ok x1
    have he := am_ws_get (b0 := b0) (ca := ca) g1
    rw [am_cell_100 g2] at he
    exact va_iald cx.1 cx.2.1 cx.2.2.2.2.2.1 rR a 0 he rfl x2.1 hd (HK _ _ _ _ x2.2 H locs LS rR rS rL rn rz)
  · exact x.elim
theorem ns_bald (hd : decode (pr mi).2.1 pc = .ok (.baload, 1)) : am_Snd pr mi pc (tm_iald (pc + 1) 101) := by
  intro b0 ro ca D p l e R s m args below meth c Qm n0 z0 d B K C Q cx hB HK HC HQ ls st h x H locs LS rR rS rL rn rz
  unfold tm_iald at x
  split at x
  · rename_i i a st'
    obtain ⟨x1, x2⟩ := am_bif x
    obtain ⟨g1, g2⟩ := am_is_ok x1
    have he := am_ws_get (b0 := b0) (ca := ca) g1
    rw [am_cell_101 g2] at he
    exact va_bald cx.1 cx.2.1 cx.2.2.2.2.2.1 rR a 1 he rfl x2.1 hd (HK _ _ _ _ x2.2 H locs LS rR rS rL rn rz)
  · exact x.elim
theorem ns_zald (hd : decode (pr mi).2.1 pc = .ok (.baload, 1)) : am_Snd pr mi pc (tm_iald (pc + 1) 102) := by
  intro b0 ro ca D p l e R s m args below meth c Qm n0 z0 d B K C Q cx hB HK HC HQ ls st h x H locs LS rR rS rL rn rz
  unfold tm_iald at x
  split at x
  · rename_i i a st'
    obtain ⟨x1, x2⟩ := am_bif x
    obtain ⟨g1, g2⟩ := am_is_ok x1
    have he := am_ws_get (b0 := b0) (ca := ca) g1
    rw [am_cell_102 g2] at he
    exact va_zald cx.1 cx.2.1 cx.2.2.2.2.2.1 rR a 2 he rfl x2.1 hd (HK _ _ _ _ x2.2 H locs LS rR rS rL rn rz)
  · exact x.elim
theorem ns_lald (hd : decode (pr mi).2.1 pc = .ok (.laload, 1)) : am_Snd pr mi pc (tm_lald (pc + 1)) := by
  intro b0 ro ca D p l e R s m args below meth c Qm n0 z0 d B K C Q cx hB HK HC HQ ls st h x H locs LS rR rS rL rn rz
  unfold tm_lald at x
  split at x
  · rename_i i a st'
    obtain ⟨x1, x2⟩ := am_bif x
    obtain ⟨g1, g2⟩ := am_is_ok x1
    have he := am_ws_get (b0 := b0) (ca := ca) g1
    rw [am_cell_103 g2] at he
    exact va_lald cx.1 cx.2.1 cx.2.2.2.2.2.1 rR a 3 he rfl x2.1 hd (HK _ _ _ _ x2.2 H locs LS rR rS rL rn rz)
  · rename_i i st'
    exact va_tl cx.1 cx.2.1 cx.2.2.2.2.2.2.1.2.1 rS x.1 rfl hd (HK _ _ _ _ x.2 H locs LS rR rS rL rn rz)
  · exact x.elim
theorem ns_aald (hd : decode (pr mi).2.1 pc = .ok (.aaload, 1)) : am_Snd pr mi pc (tm_aald (pc + 1)) := by
  intro b0 ro ca D p l e R s m args below meth c Qm n0 z0 d B K C Q cx hB HK HC HQ ls st h x H locs LS rR rS rL rn rz
  unfold tm_aald at x
  split at x
  · rename_i i a st'
    obtain ⟨x1, x2, x3⟩ := am_bif x
    obtain ⟨g1, g2⟩ := am_is_ok x1
    have he := am_ws_get (b0 := b0) (ca := ca) g1
    rw [am_cell_104 g2] at he
    split at x3
    · rename_i q hq
      refine va_aldq cx.1 cx.2.1 cx.2.2.2.2.2.1 rR a 4 he rfl x2 hd ?_
      show W p l e R s m args below meth c H locs _ _ Qm (F0 m (pc + 1) LS (va_rf ((hR h a i.toNatClampNeg).map (fun q => b0 + q)) :: _))
      rw [hq]
      exact HK _ _ _ _ x3 H locs LS rR rS rL rn rz
    · exact x3.elim
  · exact x.elim
theorem ns_iast (hd : decode (pr mi).2.1 pc = .ok (.iastore, 1)) : am_Snd pr mi pc (tm_iast (pc + 1)) := by
  intro b0 ro ca D p l e R s m args below meth c Qm n0 z0 d B K C Q cx hB HK HC HQ ls st h x H locs LS rR rS rL rn rz
  unfold tm_iast at x
  split at x
  · rename_i y i a st'
    obtain ⟨x1, x2⟩ := am_bif x
    obtain ⟨g1, g2⟩ := am_is_ok x1
    have he := am_ws_get (b0 := b0) (ca := ca) g1
    rw [am_cell_100 g2] at he
    refine va_iast cx.1 cx.2.1 cx.2.2.2.2.2.1 rR am_D rS a 0 he rfl x2.1 hd (fun H1 locs1 hP1 hD1 hS1 => ?_)
    have hE : am_cell b0 ca (sI h (u2 (hI h) a i.toNatClampNeg y)) a = _ := am_cell_100 (h := sI h (u2 (hI h) a i.toNatClampNeg y)) g2
    rw [show (hI (sI h (u2 (hI h) a i.toNatClampNeg y)) a) = upd (hI h a) i.toNatClampNeg y from u2_row] at hE
    have hW := am_ws_set (b0 := b0) (ca := ca) (h := h) (h' := sI h (u2 (hI h) a i.toNatClampNeg y)) (i := a) rfl (fun j hj => am_row_i (fun b hb => u2_row_ne hb) hj)
    rw [hE] at hW
    refine HK _ _ _ _ x2.2 H1 locs1 LS ?_ hS1 rL rn rz
    unfold am_Rel
    rw [← hW]
    exact hP1
  · exact x.elim
theorem ns_bast (hd : decode (pr mi).2.1 pc = .ok (.bastore, 1)) : am_Snd pr mi pc (tm_bast (pc + 1)) := by
  intro b0 ro ca D p l e R s m args below meth c Qm n0 z0 d B K C Q cx hB HK HC HQ ls st h x H locs LS rR rS rL rn rz
  unfold tm_bast at x
  split at x
  · rename_i y i a st'
    obtain ⟨x1, x2⟩ := am_bif x
    obtain ⟨g1, g2⟩ := am_is_ok x1
    have he := am_ws_get (b0 := b0) (ca := ca) g1
    rw [am_cell_101 g2] at he
    refine va_bast cx.1 cx.2.1 cx.2.2.2.2.2.1 rR am_D rS a 1 he rfl x2.1 hd (fun H1 locs1 hP1 hD1 hS1 => ?_)
    have hE : am_cell b0 ca (sI h (u2 (hI h) a i.toNatClampNeg (vp_nar .byte y))) a = _ := am_cell_101 (h := sI h (u2 (hI h) a i.toNatClampNeg (vp_nar .byte y))) g2
    rw [show (hI (sI h (u2 (hI h) a i.toNatClampNeg (vp_nar .byte y))) a) = upd (hI h a) i.toNatClampNeg (vp_nar .byte y) from u2_row] at hE
    have hW := am_ws_set (b0 := b0) (ca := ca) (h := h) (h' := sI h (u2 (hI h) a i.toNatClampNeg (vp_nar .byte y))) (i := a) rfl (fun j hj => am_row_i (fun b hb => u2_row_ne hb) hj)
    rw [hE] at hW
    refine HK _ _ _ _ x2.2 H1 locs1 LS ?_ hS1 rL rn rz
    unfold am_Rel
    rw [← hW]
    exact hP1
  · exact x.elim
theorem ns_zast (hd : decode (pr mi).2.1 pc = .ok (.bastore, 1)) : am_Snd pr mi pc (tm_zast (pc + 1)) := by
  intro b0 ro ca D p l e R s m args below meth c Qm n0 z0 d B K C Q cx hB HK HC HQ ls st h x H locs LS rR rS rL rn rz
  unfold tm_zast at x
  split at x
  · rename_i y i a st'
    obtain ⟨x1, x2⟩ := am_bif x
    obtain ⟨g1, g2⟩ := am_is_ok x1
    have he := am_ws_get (b0 := b0) (ca := ca) g1
    rw [am_cell_102 g2] at he
    refine va_zast cx.1 cx.2.1 cx.2.2.2.2.2.1 rR am_D rS a 2 he rfl x2.1 hd (fun H1 locs1 hP1 hD1 hS1 => ?_)
    have hE : am_cell b0 ca (sI h (u2 (hI h) a i.toNatClampNeg (vp_nar .boolean y))) a = _ := am_cell_102 (h := sI h (u2 (hI h) a i.toNatClampNeg (vp_nar .boolean y))) g2
    rw [show (hI (sI h (u2 (hI h) a i.toNatClampNeg (vp_nar .boolean y))) a) = upd (hI h a) i.toNatClampNeg (vp_nar .boolean y) from u2_row] at hE
    have hW := am_ws_set (b0 := b0) (ca := ca) (h := h) (h' := sI h (u2 (hI h) a i.toNatClampNeg (vp_nar .boolean y))) (i := a) rfl (fun j hj => am_row_i (fun b hb => u2_row_ne hb) hj)
    rw [hE] at hW
    refine HK _ _ _ _ x2.2 H1 locs1 LS ?_ hS1 rL rn rz
    unfold am_Rel
    rw [← hW]
    exact hP1
  · exact x.elim
theorem ns_last (hd : decode (pr mi).2.1 pc = .ok (.lastore, 1)) : am_Snd pr mi pc (tm_last (pc + 1)) := by
  intro b0 ro ca D p l e R s m args below meth c Qm n0 z0 d B K C Q cx hB HK HC HQ ls st h x H locs LS rR rS rL rn rz
  unfold tm_last at x
  split at x
  · rename_i y i a st'
    obtain ⟨x1, x2⟩ := am_bif x
    obtain ⟨g1, g2⟩ := am_is_ok x1
    have he := am_ws_get (b0 := b0) (ca := ca) g1
    rw [am_cell_103 g2] at he
    refine va_last cx.1 cx.2.1 cx.2.2.2.2.2.1 rR am_D rS a 3 he rfl x2.1 hd (fun H1 locs1 hP1 hD1 hS1 => ?_)
    have hE : am_cell b0 ca (sL h (u2 (hL h) a i.toNatClampNeg y)) a = _ := am_cell_103 (h := sL h (u2 (hL h) a i.toNatClampNeg y)) g2
    rw [show (hL (sL h (u2 (hL h) a i.toNatClampNeg y)) a) = vp_updL (hL h a) i.toNatClampNeg y from u2_row] at hE
    have hW := am_ws_set (b0 := b0) (ca := ca) (h := h) (h' := sL h (u2 (hL h) a i.toNatClampNeg y)) (i := a) rfl (fun j hj => am_row_l (fun b hb => u2_row_ne hb) hj)
    rw [hE] at hW
    refine HK _ _ _ _ x2.2 H1 locs1 LS ?_ hS1 rL rn rz
    unfold am_Rel
    rw [← hW]
    exact hP1
  · exact x.elim
end CELLS
