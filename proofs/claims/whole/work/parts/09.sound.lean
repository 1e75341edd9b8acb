/-! ===== what the abstract methods do, the machine's do ===== -/
theorem am_pad_nth : ∀ (n : Nat) (l : am_Ls) {i : Nat} {v : Value}, am_nth (am_pad n l) i = some (some v) → am_nth l i = some (some v)
  | 0, l, i, v, h => by simp [am_pad, am_nth] at h
  | n + 1, [], 0, v, h => by simp [am_pad, am_nth] at h
  | n + 1, [], i + 1, v, h => by
    have h1 := am_pad_nth n [] (i := i) h
    simp [am_nth] at h1
  | n + 1, a :: l, 0, v, h => h
  | n + 1, a :: l, i + 1, v, h => am_pad_nth n l (i := i) h
theorem am_pad_len : ∀ (n : Nat) (l : am_Ls), (am_pad n l).length = n
  | 0, _ => rfl
  | n + 1, [] => by simp [am_pad, am_pad_len n]
  | n + 1, a :: l => by simp [am_pad, am_pad_len n]
theorem am_exp_args {b0 : Nat} {ro : Nat → Nat} : ∀ (args : List Value) (k : Nat) {i : Nat} {v : Value}, am_nth (am_exp args) i = some (some v) → (k + i, am_con b0 ro v) ∈ lv_args k (args.map (am_con b0 ro))
  | [], k, i, v, h => by simp [am_exp, am_nth] at h
  | a :: args, k, i, v, h => by
    have one : ∀ (w : Value), (am_con b0 ro a).category = 1 → am_exp (a :: args) = some w :: am_exp args → w = a → (k + i, am_con b0 ro v) ∈ lv_args k ((a :: args).map (am_con b0 ro)) := by
      intro w hc he hw
      subst hw
      rw [he] at h
      simp only [List.map_cons, lv_args, hc]
      cases i with
      | zero => cases h; exact List.mem_cons_self
      | succ i =>
        have h1 := am_exp_args args (k + 1) (i := i) (b0 := b0) (ro := ro) h
        refine List.mem_cons_of_mem _ ?_
        rw [if_neg (by decide), show k + (i + 1) = k + 1 + i by omega]
        exact h1
    have two : (am_con b0 ro a).category = 2 → am_exp (a :: args) = some a :: none :: am_exp args → (k + i, am_con b0 ro v) ∈ lv_args k ((a :: args).map (am_con b0 ro)) := by
      intro hc he
      rw [he] at h
      simp only [List.map_cons, lv_args, hc]
      match i, h with
      | 0, h => cases h; exact List.mem_cons_self
      | 1, h => simp [am_nth] at h
      | i + 2, h =>
        have h1 := am_exp_args args (k + 2) (i := i) (b0 := b0) (ro := ro) h
        refine List.mem_cons_of_mem _ ?_
        rw [if_pos trivial, show k + (i + 2) = k + 2 + i by omega]
        exact h1
    cases a with
    | long x => exact two rfl rfl
    | double x => exact two rfl rfl
    | int x => exact one _ rfl rfl rfl
    | float x => exact one _ rfl rfl rfl
    | null => exact one _ rfl rfl rfl
    | ref x => exact one _ rfl rfl rfl
    | retAddr x => exact one _ (am_cat _) rfl rfl
theorem am_exp_len {b0 : Nat} {ro : Nat → Nat} : ∀ (args : List Value), (lg_sl (args.map (am_con b0 ro))).length = (am_exp args).length
  | [] => rfl
  | a :: args => by
    have h := am_exp_len args (b0 := b0) (ro := ro)
    have e : ∀ (w : Value) (l : List Value), lg_sl (w :: l) = (if w.category = 2 then [.val w, .second] else [.val w]) ++ lg_sl l := fun w l => rfl
    rw [List.map_cons, e, List.length_append, h]
    cases a with
    | long x => show 2 + _ = _ + 1 + 1; omega
    | double x => show 2 + _ = _ + 1 + 1; omega
    | int x => show 1 + _ = _ + 1; omega
    | float x => show 1 + _ = _ + 1; omega
    | null => show 1 + _ = _ + 1; omega
    | ref x => show 1 + _ = _ + 1; omega
    | retAddr x =>
      rw [if_neg (by rw [am_cat]; exact (by decide : ¬ (1 : Nat) = 2))]
      show 1 + _ = _ + 1
      omega
theorem am_entry {b0 n : Nat} {ro : Nat → Nat} {args : List Value} (h : (am_exp args).length ≤ n) : am_Lh b0 ro ((lg_sl (args.map (am_con b0 ro)) ++ List.replicate (n - (lg_sl (args.map (am_con b0 ro))).length) Slot.unset).toArray) n (am_pad n (am_exp args)) := by
  have hl := lv_entry (args.map (am_con b0 ro)) (n := n) (by rw [am_exp_len]; exact h)
  refine ⟨hl.1, hl.2.1, by rw [am_pad_len]; exact Nat.le_refl n, fun i v hv => ?_⟩
  have h1 := am_exp_args args 0 (b0 := b0) (ro := ro) (am_pad_nth n _ hv)
  rw [Nat.zero_add] at h1
  exact hl.2.2 _ h1
/-- a method's steps are sound, and it is no other's -/
def am_OK (pr : am_P) (mi : Nat) : Prop := plainName (pr mi).1.cls = true ∧ ∀ pc : Nat, am_Snd pr mi pc ((pr mi).2.2.2.2 pc)
theorem am_sound (pr : am_P) (hok : ∀ mi : Nat, am_OK pr mi) : ∀ (d mi : Nat) (B : Nat × Nat) (args : List Value) (h : am_Hp) (Q : am_Q), hN h ≤ B.1 → hZ h ≤ B.2 → am_Spec pr d mi B args h Q → ∀ (l : Launch) (b0 : Nat) (ro : Nat → Nat) (ca : Nat → ClassId) (D : va_G), am_Met pr l b0 ro ca D d mi args h Q (B.1 - hN h) (B.2 - hZ h) := by
  intro d
  induction d with
  | zero => intro mi B args h Q _ _ hx; exact hx.elim
  | succ d ih =>
    intro mi B av h Q hB1 hB2 hx l b0 ro ca D
    obtain ⟨hfit, hx⟩ := am_bif hx
    have hfit := Nat.le_of_ble_eq_true hfit
    refine Met.ofW (cc := (pr mi).2.1) (maxL := (pr mi).2.2.1) (ret := (pr mi).2.2.2.1) (hok mi).1 rfl ?_
    intro p e s m args below meth c s₁ B' hml hv
    obtain ⟨rfl, rR, hs, hK, hRo⟩ := hv
    have hts := atoms_spec (ws := am_words pr mi) B'.pre
    have hlocks := B'.notSynchronized
    have hxe := B'.exec
    have hbe := B'.bytes
    have hre := B'.returns
    have cx : am_Cx pr b0 ro ca D mi p s m (av.map (am_con b0 ro)).toArray meth c (hN h) := ⟨B'.exec, B'.bytes, findClass_of_methodNamed B'.named, fun w hw => hts w (List.mem_cons_of_mem _ hw), (name_of_methodNamed B'.named B'.method).1, hK, hRo, hs⟩
    rw [lg_entry_eq]
    have key := hx (am_St b0 ro ca D p l e (headSpec (am_words pr mi) (am_room (d + 1) (B.1 - hN h) (B.2 - hZ h))).room s m (av.map (am_con b0 ro)).toArray below meth c (MQ below (am_Post b0 ro ca D (hN h + (B.1 - hN h)) (hZ h + (B.2 - hZ h)) Q) (av.map (am_con b0 ro)).toArray s (B.1 - hN h) (B.2 - hZ h) (fun q => b0 ≤ q)) (hN h) (hZ h)) ?_
    · unfold am_St at key
      rw [hml] at key
      have k1 := key s.heap [] _ rR va_S.rf (am_entry hfit) (Nat.le_refl _) (Nat.le_refl _)
      rw [Nat.sub_self, Nat.sub_self] at k1
      exact k1
    · intro K pc ls st h' HK x
      refine (hok mi).2 pc b0 ro ca D p l e _ s m _ below meth c _ (hN h) (hZ h) d B K _ _ cx ⟨?_, ?_, Nat.le_refl _, Nat.le_refl _⟩ HK ?_ ?_ ls st h' x
      · show B.1 ≤ B.1 - hN h + hN h
        omega
      · show B.2 ≤ B.2 - hZ h + hZ h
        omega
      · rintro mi' a h1 Q' ⟨B2, c1, c2, c3, c4, hsp⟩
        exact ⟨B2.1 - hN h1, B2.2 - hZ h1, by omega, by omega, ih mi' B2 a h1 Q' c1 c3 hsp l b0 ro ca D⟩
      · rintro r h2 pc ls ⟨q1, q2, hQ⟩ hro hd H locs LS rR2 rS2 rL2 rn2 rz2
        have post : ∀ t : State, t.heap = H → am_Post b0 ro ca D (hN h + (B.1 - hN h)) (hZ h + (B.2 - hZ h)) Q (av.map (am_con b0 ro)).toArray s (.returned (r.map (am_con b0 ro))) t := fun t ht => ⟨⟨r, h2, rfl, hQ, by omega, by omega, by rw [ht]; exact rR2⟩, rS2.F ht⟩
        rw [q1, q2]
        cases r with
        | none =>
          have hr0 : (pr mi).2.2.2.1 = none := by
            revert hro
            cases (pr mi).2.2.2.1 with
            | none => exact fun _ => rfl
            | some ty => cases ty <;> exact fun q => q.elim
          exact W.vret hxe hbe (hre.trans hr0) (fun t ht _ => post t ht) rS2.2.2 hd
        | some v =>
          cases v with
          | int x =>
            revert hro hre
            cases (pr mi).2.2.2.1 with
            | none => exact fun _ q => q.elim
            | some ty =>
              intro hre hro
              have hnar : narrow ty (.int x) = .int x := by
                cases ty <;> first | exact hro | rfl | exact hro.elim
              exact W.zret hxe hbe hre hnar (fun t ht _ => post t ht) rS2.2.2 hd
          | long x =>
            have hr0 : (pr mi).2.2.2.1 = some .long := by
              revert hro
              cases (pr mi).2.2.2.1 with
              | none => exact fun q => q.elim
              | some ty => cases ty <;> first | exact fun _ => rfl | exact fun q => q.elim
            exact W.lret hxe hbe (hre.trans hr0) (fun t ht _ => post t ht) rS2.2.2 hd
          | _ =>
            exfalso
            revert hro
            cases (pr mi).2.2.2.1 with
            | none => exact fun q => q
            | some ty => cases ty <;> exact fun q => q
