/-! ===== an abstract machine: cells by their numbers, values that name cells by number; a step is a predicate transformer ===== -/
abbrev am_Hp : Type := Nat × Nat × (Nat → Nat × Nat) × (Nat → Nat → Int32) × (Nat → Nat → Int64) × (Nat → Nat → Option Nat)
abbrev am_Ls : Type := List (Option Value)
abbrev am_Q : Type := Option Value → am_Hp → Prop
abbrev am_K : Type := Nat → am_Ls → List Value → am_Hp → Prop
abbrev am_C : Type := Nat → List Value → am_Hp → am_Q → Prop
abbrev am_T : Type := Nat × Nat → am_K → am_C → am_Q → am_Ls → List Value → am_Hp → Prop
abbrev hN (h : am_Hp) : Nat := h.1
abbrev hZ (h : am_Hp) : Nat := h.2.1
abbrev hS (h : am_Hp) : Nat → Nat × Nat := h.2.2.1
abbrev hI (h : am_Hp) : Nat → Nat → Int32 := h.2.2.2.1
abbrev hL (h : am_Hp) : Nat → Nat → Int64 := h.2.2.2.2.1
abbrev hR (h : am_Hp) : Nat → Nat → Option Nat := h.2.2.2.2.2
abbrev sI (h : am_Hp) (f : Nat → Nat → Int32) : am_Hp := (h.1, h.2.1, h.2.2.1, f, h.2.2.2.2.1, h.2.2.2.2.2)
abbrev sL (h : am_Hp) (f : Nat → Nat → Int64) : am_Hp := (h.1, h.2.1, h.2.2.1, h.2.2.2.1, f, h.2.2.2.2.2)
abbrev sR (h : am_Hp) (f : Nat → Nat → Option Nat) : am_Hp := (h.1, h.2.1, h.2.2.1, h.2.2.2.1, h.2.2.2.2.1, f)
/-- one place of one row -/
def u2 {α : Type} (f : Nat → Nat → α) (i j : Nat) (x : α) : Nat → Nat → α := fun a b => bif Nat.beq a i && Nat.beq b j then x else f a b
/-- one row -/
def uR {α : Type} (f : Nat → Nat → α) (i : Nat) (g : Nat → α) : Nat → Nat → α := fun a b => bif Nat.beq a i then g b else f a b
theorem am_beq {a b : Nat} (h : ¬ a = b) : Nat.beq a b = false := by
  cases hb : Nat.beq a b with
  | true => exact absurd (Nat.eq_of_beq_eq_true hb) h
  | false => rfl
theorem u2_eq {α : Type} (f : Nat → Nat → α) (i j : Nat) (x : α) (a b : Nat) : u2 f i j x a b = if a = i ∧ b = j then x else f a b := by
  by_cases h1 : a = i <;> by_cases h2 : b = j <;> simp [u2, h1, h2, am_beq]
theorem uR_eq {α : Type} (f : Nat → Nat → α) (i : Nat) (g : Nat → α) (a b : Nat) : uR f i g a b = if a = i then g b else f a b := by
  by_cases h1 : a = i <;> simp [uR, h1, am_beq]
theorem u2_row_ne {α : Type} {f : Nat → Nat → α} {i j : Nat} {x : α} {a : Nat} (h : a ≠ i) : u2 f i j x a = f a := by
  funext b; rw [u2_eq, if_neg (fun q => h q.1)]
theorem u2_row {α : Type} {f : Nat → Nat → α} {i j : Nat} {x : α} : u2 f i j x i = fun b => if b = j then x else f i b := by
  funext b; rw [u2_eq]; by_cases h : b = j <;> simp [h]
def am_nth {α : Type} : List α → Nat → Option α
  | [], _ => none
  | a :: _, 0 => some a
  | _ :: l, i + 1 => am_nth l i
theorem am_nth_eq {α : Type} : ∀ (l : List α) (i : Nat), am_nth l i = l[i]?
  | [], i => by simp [am_nth]
  | a :: l, 0 => by simp [am_nth]
  | a :: l, i + 1 => by simp [am_nth, am_nth_eq l i]
def am_clr (ls : am_Ls) (i : Nat) : am_Ls := match i with
  | 0 => ls
  | j + 1 => match am_nth ls j with
    | some (some (.long _)) => ls.set j none
    | some (some (.double _)) => ls.set j none
    | _ => ls
def am_st1 (ls : am_Ls) (i : Nat) (v : Value) : am_Ls := (am_clr ls i).set i (some v)
def am_st2 (ls : am_Ls) (i : Nat) (v : Value) : am_Ls := ((am_clr ls i).set i (some v)).set (i + 1) none
def am_exp : List Value → am_Ls
  | [] => []
  | v :: l => match v with
    | .long x => some (.long x) :: none :: am_exp l
    | .double x => some (.double x) :: none :: am_exp l
    | w => some w :: am_exp l
def am_pad : Nat → am_Ls → am_Ls
  | 0, _ => []
  | n + 1, [] => none :: am_pad n []
  | n + 1, a :: l => a :: am_pad n l
/-- the least predicate that the steps close -/
def am_WP (cd : Nat → am_T) (B : Nat × Nat) (C : am_C) (Q : am_Q) (pc : Nat) (ls : am_Ls) (st : List Value) (h : am_Hp) : Prop :=
  ∀ P : am_K, (∀ (K : am_K) (pc : Nat) (ls : am_Ls) (st : List Value) (h : am_Hp), (∀ (pc : Nat) (ls : am_Ls) (st : List Value) (h : am_Hp), K pc ls st h → P pc ls st h) → cd pc B K C Q ls st h → P pc ls st h) → P pc ls st h
theorem am_WP.fold {cd : Nat → am_T} {B : Nat × Nat} {C : am_C} {Q : am_Q} {pc : Nat} {ls : am_Ls} {st : List Value} {h : am_Hp} (x : cd pc B (am_WP cd B C Q) C Q ls st h) : am_WP cd B C Q pc ls st h :=
  fun P hP => hP (am_WP cd B C Q) pc ls st h (fun _ _ _ _ w => w P hP) x
/-- up to n steps on, as far as the next place where stop holds -/
def am_run (cd : Nat → am_T) (B : Nat × Nat) (C : am_C) (Q : am_Q) (stop : Nat → Bool) (K : am_K) : Nat → am_K
  | 0 => K
  | n + 1 => fun pc ls st h => cd pc B (fun pc' ls' st' h' => bif stop pc' then K pc' ls' st' h' else am_run cd B C Q stop K n pc' ls' st' h') C Q ls st h
theorem am_WP.run {cd : Nat → am_T} {B : Nat × Nat} {C : am_C} {Q : am_Q} (stop : Nat → Bool) : ∀ (n : Nat) {pc : Nat} {ls : am_Ls} {st : List Value} {h : am_Hp}, am_run cd B C Q stop (am_WP cd B C Q) n pc ls st h → am_WP cd B C Q pc ls st h
  | 0, _, _, _, _, x => x
  | n + 1, pc, ls, st, h, x => fun P hP => hP _ pc ls st h (fun pc' ls' st' h' w => by
      have w' : am_WP cd B C Q pc' ls' st' h' := by
        cases hs : stop pc' with
        | true => rw [hs] at w; exact w
        | false => rw [hs] at w; exact am_WP.run stop n w
      exact w' P hP) x
/-- the methods: name, bytes, locals, answer, steps -/
abbrev am_P : Type := Nat → MethodName × ByteArray × Nat × Option FieldType × (Nat → am_T)
def am_Spec (pr : am_P) : Nat → Nat → Nat × Nat → List Value → am_Hp → am_Q → Prop
  | 0 => fun _ _ _ _ _ => False
  | d + 1 => fun mi B args h Q => bif Nat.ble (am_exp args).length (pr mi).2.2.1 then am_WP (pr mi).2.2.2.2 B (fun mi' a h' Q' => ∃ B' : Nat × Nat, hN h' ≤ B'.1 ∧ B'.1 ≤ B.1 ∧ hZ h' ≤ B'.2 ∧ B'.2 ≤ B.2 ∧ am_Spec pr d mi' B' a h' Q') (fun r h' => hN h' = B.1 ∧ hZ h' = B.2 ∧ Q r h') 0 (am_pad (pr mi).2.2.1 (am_exp args)) [] h else False
/-! the picture of such a heap in the machine's heap -/
def am_con (b0 : Nat) (ro : Nat → Nat) : Value → Value
  | .ref i => .ref (b0 + i)
  | .retAddr k => bif Nat.beq k 3 && Nat.beq (ro 4) 0 then .null else .ref (ro k)
  | v => v
def am_ty : Nat → Nat → FieldType := fun ci => match ci with
  | 0 => tyX0
  | 1 => tyX1
  | 2 => tyX2
  | 3 => tyX3
  | 4 => tyX4
  | 5 => tyX5
  | 6 => tyX6
  | 7 => tyX7
  | 8 => tyX8
  | 9 => tyX9
  | 10 => tyX10
  | 11 => tyX11
  | _ => tyX12
def am_val (b0 : Nat) (h : am_Hp) (i j : Nat) : FieldType → Value
  | .long => .long (hL h i j)
  | .object _ => va_rf ((hR h i j).map (fun q => b0 + q))
  | .array _ => va_rf ((hR h i j).map (fun q => b0 + q))
  | _ => .int (hI h i j)
/-- kinds of cells: 0 .. 12 objects of that class; 100 ints, 101 bytes, 102 booleans, 103 longs, 104 references -/
def am_cell (b0 : Nat) (ca : Nat → ClassId) (h : am_Hp) (i : Nat) : va_E :=
  if (hS h i).1 = 100 then .inl (ca 0, (hS h i).2, .inl (hI h i))
  else if (hS h i).1 = 101 then .inl (ca 1, (hS h i).2, .inl (hI h i))
  else if (hS h i).1 = 102 then .inl (ca 2, (hS h i).2, .inl (hI h i))
  else if (hS h i).1 = 103 then .inl (ca 3, (hS h i).2, .inr (.inl (hL h i)))
  else if (hS h i).1 = 104 then .inl (ca 4, (hS h i).2, .inr (.inr (.inr (.inr (fun j => (hR h i j).map (fun q => b0 + q))))))
  else .inr ((hS h i).1, (List.range (hS h i).2).map (fun j => am_val b0 h i j (am_ty (hS h i).1 j)))
def am_ws (b0 : Nat) (ca : Nat → ClassId) (h : am_Hp) : va_W := (List.range (hN h)).map (fun i => (b0 + i, am_cell b0 ca h i))
theorem am_ws_get {b0 : Nat} {ca : Nat → ClassId} {h : am_Hp} {i : Nat} (hi : i < hN h) : (am_ws b0 ca h)[i]? = some (b0 + i, am_cell b0 ca h i) := by
  simp [am_ws, hi]
theorem am_ws_some {b0 : Nat} {ca : Nat → ClassId} {h : am_Hp} {i : Nat} {q : Nat × va_E} (hq : (am_ws b0 ca h)[i]? = some q) : i < hN h ∧ q = (b0 + i, am_cell b0 ca h i) := by
  simp only [am_ws, List.getElem?_map, List.getElem?_range, Option.map_eq_some_iff] at hq
  obtain ⟨a, h1, h2⟩ := hq
  by_cases hi : i < hN h
  · have := List.getElem?_eq_some_iff.mp h1
    obtain ⟨h3, h4⟩ := this
    simp at h4
    subst h4
    exact ⟨hi, h2.symm⟩
  · have := List.getElem?_eq_some_iff.mp h1
    obtain ⟨h3, h4⟩ := this
    simp at h3
    exact absurd h3 hi
theorem am_ws_len {b0 : Nat} {ca : Nat → ClassId} {h : am_Hp} : (am_ws b0 ca h).length = hN h := by simp [am_ws]
theorem am_D {b0 : Nat} {ca : Nat → ClassId} {h : am_Hp} : va_D (fun q => b0 ≤ q) (am_ws b0 ca h) := by
  refine ⟨fun i j p q hp hq hpq => ?_, fun k q hq => ?_⟩
  · obtain ⟨-, e1⟩ := am_ws_some hp
    obtain ⟨-, e2⟩ := am_ws_some hq
    rw [e1, e2] at hpq
    exact Nat.add_left_cancel hpq
  · obtain ⟨-, e1⟩ := am_ws_some hq
    rw [e1]
    exact Nat.le_add_right b0 k
/-- a heap with one cell otherwise: the picture's list with one entry otherwise -/
theorem am_ws_set {b0 : Nat} {ca : Nat → ClassId} {h h' : am_Hp} {i : Nat} (hn : hN h' = hN h) (ho : ∀ j, j ≠ i → am_cell b0 ca h' j = am_cell b0 ca h j) : (am_ws b0 ca h).set i (b0 + i, am_cell b0 ca h' i) = am_ws b0 ca h' := by
  refine List.ext_getElem? fun k => ?_
  rw [List.getElem?_set]
  by_cases hk : i = k
  · subst hk
    rw [if_pos rfl, am_ws_len]
    by_cases hi : i < hN h
    · rw [if_pos hi, am_ws_get (hn ▸ hi)]
    · rw [if_neg hi]
      refine (List.getElem?_eq_none_iff.mpr ?_).symm
      rw [am_ws_len, hn]
      omega
  · rw [if_neg hk]
    by_cases hi : k < hN h
    · rw [am_ws_get hi, am_ws_get (hn ▸ hi), ho k (fun q => hk q.symm)]
    · rw [List.getElem?_eq_none_iff.mpr (by rw [am_ws_len]; omega), List.getElem?_eq_none_iff.mpr (by rw [am_ws_len, hn]; omega)]
def am_Lh (b0 : Nat) (ro : Nat → Nat) (LS : Array Slot) (nL : Nat) (ls : am_Ls) : Prop := LS.size = nL ∧ lv_wf LS ∧ ls.length ≤ nL ∧ ∀ (i : Nat) (v : Value), am_nth ls i = some (some v) → LS[i]? = some (.val (am_con b0 ro v))
def am_Rel (b0 : Nat) (ca : Nat → ClassId) (D : va_G) (h : am_Hp) (H : Heap) : Prop := va_P D vwCl (am_ws b0 ca h) H
def am_tys (ca : Nat → ClassId) : List (ClassId × FieldType) := [(ca 0, .int), (ca 1, .byte), (ca 2, .boolean), (ca 3, .long), (ca 4, .object RX7)]
/-- the powers of 60, a constant of the class -/
def am_pow (j : Nat) : Int64 := [1, 60, 3600, 216000, 12960000, 777600000, 46656000000, 2799360000000, 167961600000000].getD j 0
def am_bytes : List Int32 := am_text.toList.map (fun ch => Int32.ofNat ch.toNat)
/-- what was there before: read, never written -/
def am_Ro (b0 : Nat) (ro : Nat → Nat) (s : State) : Prop :=
  va_Z "DogDecrees" "POWERS" "[J" (.ref (ro 0)) (fun q => b0 ≤ q) s s.heap ∧ va_T .long (ro 0) 9 (fun j => .long (am_pow j)) (fun q => b0 ≤ q) s s.heap ∧
  vk_R am_strO am_strI am_text (ro 1) s ∧ vk_S 1 [am_strN] [am_bytes] (fun _ => ro 1) (fun _ => ro 2) (fun q => b0 ≤ q) s s.heap ∧ va_Z "java/lang/String" "COMPACT_STRINGS" "Z" (.int 1) (fun q => b0 ≤ q) s s.heap ∧
  (∀ q ∈ am_nestM, va_Nw (.methodLinkNest q.1 q.2.1 q.2.2 "DogDecrees") s) ∧ va_Nw (.fieldLinkNest am_nestFo am_nestFi "DogDecrees" "POWERS" "[J" "DogDecrees") s ∧ va_AO RX7 s ∧
  va_Z "jdk/internal/util/Preconditions" "SIOOBE_FORMATTER" "Ljava/util/function/BiFunction;" (am_con b0 ro (.retAddr 3)) (fun q => b0 ≤ q) s s.heap
theorem am_Ro.next {b0 : Nat} {ro : Nat → Nat} {s U : State} {H : Heap} {locs : List Loc} (h : am_Ro b0 ro s) (hS : va_S (fun q => b0 ≤ q) s.heap H locs) (hU : U.heap = H) (hW : s.WarmedH U.vm) : am_Ro b0 ro U := by
  obtain ⟨h1, h2, h3, h4, h5, h6, h7, h8, h9⟩ := h
  have hk : ∀ a : Nat, a < s.heap.size → ¬ b0 ≤ a → U.heap[a]? = s.heap[a]? := fun a h1 h2 => by rw [hU]; exact hS.2.1 a h1 h2
  exact ⟨(h1.moved hW.alike).kept hk, (h2.moved hW.alike).kept hk, h3.warm hW, (h4.moved hW.alike).kept hk, (h5.moved hW.alike).kept hk, fun q hq => (h6 q hq).warmM hW, h7.warmF hW, h8.moved hW.alike, (h9.moved hW.alike).kept hk⟩
/-- what a method finds where it begins -/
def am_Pre (b0 : Nat) (ro : Nat → Nat) (ca : Nat → ClassId) (D : va_G) (h : am_Hp) (U : State) : Prop := am_Rel b0 ca D h U.heap ∧ U.heap.size = b0 + hN h ∧ va_K D vwCl (am_tys ca) U ∧ am_Ro b0 ro U
def am_Post (b0 : Nat) (ro : Nat → Nat) (ca : Nat → ClassId) (D : va_G) (n z : Nat) (Q : am_Q) : Array Value → State → Outcome → State → Prop := fun _ st o t => (∃ (r : Option Value) (h2 : am_Hp), o = .returned (r.map (am_con b0 ro)) ∧ Q r h2 ∧ hN h2 = n ∧ hZ h2 = z ∧ am_Rel b0 ca D h2 t.heap) ∧ va_F (fun q => b0 ≤ q) st t
def am_room (d mc ms : Nat) : Room := { frames := d, cells := mc, slots := ms, locals := 60 * d }
def am_words (pr : am_P) (mi : Nat) : List Cond := .code (pr mi).1 (pr mi).2.1 (pr mi).2.2.1 (pr mi).2.2.2.1 :: tblG
def am_Met (pr : am_P) (l : Launch) (b0 : Nat) (ro : Nat → Nat) (ca : Nat → ClassId) (D : va_G) (d mi : Nat) (args : List Value) (h : am_Hp) (Q : am_Q) (mc ms : Nat) : Prop :=
  Met l (pr mi).1 (am_words pr mi) (am_room d mc ms) (va_Pc (args.map (am_con b0 ro)) (am_Pre b0 ro ca D h)) (am_Post b0 ro ca D (hN h + mc) (hZ h + ms) Q) mc ms (fun q => b0 ≤ q)
/-- the machine at a step -/
def am_St (b0 : Nat) (ro : Nat → Nat) (ca : Nat → ClassId) (D : va_G) (p : Program) (l : Launch) (e : Env) (R : Room) (s : State) (m : MethodId) (args : Array Value) (below : List Frame) (meth : Method) (c : Code) (Qm : State → Prop) (n0 z0 : Nat) (pc : Nat) (ls : am_Ls) (st : List Value) (h : am_Hp) : Prop :=
  ∀ (H : Heap) (locs : List Loc) (LS : Array Slot), am_Rel b0 ca D h H → va_S (fun q => b0 ≤ q) s.heap H locs → am_Lh b0 ro LS c.maxLocals ls → n0 ≤ hN h → z0 ≤ hZ h → W p l e R s m args below meth c H locs (hN h - n0) (hZ h - z0) Qm (F0 m pc LS (st.map (am_con b0 ro)))
def am_retI : Option Value → Instr
  | none => .return_
  | some (.int _) => .ireturn
  | some (.long _) => .lreturn
  | some _ => .areturn
def am_retOk : Option FieldType → Option Value → Prop
  | none, none => True
  | some .long, some (.long _) => True
  | some .int, some (.int _) => True
  | some ty, some (.int v) => narrow ty (.int v) = .int v
  | _, _ => False
/-- a method's own surroundings -/
def am_Cx (pr : am_P) (b0 : Nat) (ro : Nat → Nat) (ca : Nat → ClassId) (D : va_G) (mi : Nat) (p : Program) (s : State) (m : MethodId) (args : Array Value) (meth : Method) (c : Code) (n0 : Nat) : Prop :=
  p.tables.exec = Jvm.exec ∧ c.code = (pr mi).2.1 ∧ s.vm.findClass (pr mi).1.cls = some m.cls ∧ (∀ w ∈ tblG, w.before args s = true) ∧ meth.name = (pr mi).1.name ∧ va_K D vwCl (am_tys ca) s ∧ am_Ro b0 ro s ∧ s.heap.size = b0 + n0
/-- a step is sound at its place -/
def am_Snd (pr : am_P) (mi pc : Nat) (tr : am_T) : Prop :=
  ∀ (b0 : Nat) (ro : Nat → Nat) (ca : Nat → ClassId) (D : va_G) (p : Program) (l : Launch) (e : Env) (R : Room) (s : State) (m : MethodId) (args : Array Value) (below : List Frame) (meth : Method) (c : Code) (Qm : State → Prop) (n0 z0 d : Nat) (B : Nat × Nat) (K : am_K) (C : am_C) (Q : am_Q),
    am_Cx pr b0 ro ca D mi p s m args meth c n0 → (B.1 ≤ R.cells + n0 ∧ B.2 ≤ R.slots + z0 ∧ d + 1 ≤ R.frames ∧ 60 * (d + 1) ≤ R.locals) →
    (∀ (pc : Nat) (ls : am_Ls) (st : List Value) (h : am_Hp), K pc ls st h → am_St b0 ro ca D p l e R s m args below meth c Qm n0 z0 pc ls st h) →
    (∀ (mi' : Nat) (a : List Value) (h : am_Hp) (Q' : am_Q), C mi' a h Q' → ∃ mc ms : Nat, hN h + mc ≤ B.1 ∧ hZ h + ms ≤ B.2 ∧ am_Met pr l b0 ro ca D d mi' a h Q' mc ms) →
    (∀ (r : Option Value) (h : am_Hp) (pc : Nat) (ls : am_Ls), Q r h → am_retOk (pr mi).2.2.2.1 r → decode (pr mi).2.1 pc = .ok (am_retI r, 1) → am_St b0 ro ca D p l e R s m args below meth c Qm n0 z0 pc ls r.toList h) →
    ∀ (ls : am_Ls) (st : List Value) (h : am_Hp), tr B K C Q ls st h → am_St b0 ro ca D p l e R s m args below meth c Qm n0 z0 pc ls st h
