/-! ===== where the law begins: classes, arrays, constants ===== -/
theorem am_arrK {s : State} {args : Array Value} {ty : FieldType} (h : (Cond.arrayClass ty).before args s = true) (hp : ∀ C, ty ≠ .object C) : ∃ cA : ClassId, ArrOfT s cA ty ∧ va_RA s cA ty := by
  obtain ⟨c, k, comp, h1, h2, h3⟩ := Cond.arrayClass_spec h
  refine ⟨c, fun n z => ⟨fun k h => (by cases h), k, h2, comp, h3⟩, ?_⟩
  cases ty with
  | object C => exact absurd rfl (hp C)
  | _ => exact h1
theorem am_arrQ {s : State} {args : Array Value} {C : String} (h : (Cond.arrayOver (.object C)).before args s = true) : ∃ cA : ClassId, ArrOfT s cA (.object C) ∧ va_RA s cA (.object C) := by
  obtain ⟨comp, c, k, h1, h2, h3, h4, h5⟩ := Cond.arrayOver_spec h
  exact ⟨c, fun n z => ⟨(fun k h => by cases h), k, h3, comp, h4⟩, k, comp, h3, h4, h1, h5⟩
set_option maxRecDepth 100000 in
set_option maxHeartbeats 4000000 in
theorem am_start {s : State} {args : Array Value} (b : Nat) (hts : ∀ w ∈ lw_tbl, w.before args s = true) (hgv : (Jvm.Cond.and given_1 narrow_1).before args s = true) : ∃ (ro : Nat → Nat) (ca : Nat → ClassId) (D : va_G), ro 5 = b ∧ va_K D vwCl (am_tys ca) s ∧ am_Ro s.heap.size ro s := by
  have hs := flat_of_before _ hgv
  have hA : ∀ a : Nat, a < s.heap.size → ¬ s.heap.size ≤ a := fun a h => Nat.not_le.mpr h
  obtain ⟨c0, i0, hk0⟩ := u_known (C := RX0) (T := TX0) (N := 3) (n := 3) hts (fun w h => tblG_in w (lay_0 w h)) (hts _ (List.mem_of_getElem? (i := 441) (by decide +kernel)))
  obtain ⟨c1, i1, hk1⟩ := u_known (C := RX1) (T := TX1) (N := 4) (n := 4) hts (fun w h => tblG_in w (lay_1 w h)) (hts _ (List.mem_of_getElem? (i := 257) (by decide +kernel)))
  obtain ⟨c2, i2, hk2⟩ := u_known (C := RX2) (T := TX2) (N := 9) (n := 9) hts (fun w h => tblG_in w (lay_2 w h)) (hts _ (List.mem_of_getElem? (i := 516) (by decide +kernel)))
  obtain ⟨c3, i3, hk3⟩ := u_known (C := RX3) (T := TX3) (N := 14) (n := 14) hts (fun w h => tblG_in w (lay_3 w h)) (hts _ (List.mem_of_getElem? (i := 555) (by decide +kernel)))
  obtain ⟨c4, i4, hk4⟩ := u_known (C := RX4) (T := TX4) (N := 15) (n := 15) hts (fun w h => tblG_in w (lay_4 w h)) (hts _ (List.mem_of_getElem? (i := 462) (by decide +kernel)))
  obtain ⟨c5, i5, hk5⟩ := u_known (C := RX5) (T := TX5) (N := 2) (n := 2) hts (fun w h => tblG_in w (lay_5 w h)) (hts _ (List.mem_of_getElem? (i := 361) (by decide +kernel)))
  obtain ⟨c6, i6, hk6⟩ := u_known (C := RX6) (T := TX6) (N := 9) (n := 9) hts (fun w h => tblG_in w (lay_6 w h)) (hts _ (List.mem_of_getElem? (i := 158) (by decide +kernel)))
  obtain ⟨c7, i7, hk7⟩ := u_known (C := RX7) (T := TX7) (N := 7) (n := 7) hts (fun w h => tblG_in w (lay_7 w h)) (hts _ (List.mem_of_getElem? (i := 399) (by decide +kernel)))
  obtain ⟨c8, i8, hk8⟩ := u_known (C := RX8) (T := TX8) (N := 2) (n := 2) hts (fun w h => tblG_in w (lay_8 w h)) (hts _ (List.mem_of_getElem? (i := 142) (by decide +kernel)))
  obtain ⟨c9, i9, hk9⟩ := u_known (C := RX9) (T := TX9) (N := 8) (n := 8) hts (fun w h => tblG_in w (lay_9 w h)) (hts _ (List.mem_of_getElem? (i := 355) (by decide +kernel)))
  obtain ⟨c10, i10, hk10⟩ := u_known (C := RX10) (T := TX10) (N := 15) (n := 15) hts (fun w h => tblG_in w (lay_10 w h)) (hts _ (List.mem_of_getElem? (i := 251) (by decide +kernel)))
  obtain ⟨c11, i11, hk11⟩ := u_known (C := RX11) (T := TX11) (N := 14) (n := 14) hts (fun w h => tblG_in w (lay_11 w h)) (hts _ (List.mem_of_getElem? (i := 134) (by decide +kernel)))
  obtain ⟨c12, i12, hk12⟩ := u_known (C := RX12) (T := TX12) (N := 92) (n := 92) hts (fun w h => tblG_in w (lay_12 w h)) (hts _ (List.mem_of_getElem? (i := 1311) (by decide +kernel)))
  obtain ⟨a0, ha0, hb0⟩ := am_arrK (ty := .int) (hts _ (List.mem_of_getElem? (i := 277) (by decide +kernel))) (fun _ q => by cases q)
  obtain ⟨a1, ha1, hb1⟩ := am_arrK (ty := .byte) (hts _ (List.mem_of_getElem? (i := 156) (by decide +kernel))) (fun _ q => by cases q)
  obtain ⟨a2, ha2, hb2⟩ := am_arrK (ty := .boolean) (hts _ (List.mem_of_getElem? (i := 1593) (by decide +kernel))) (fun _ q => by cases q)
  obtain ⟨a3, ha3, hb3⟩ := am_arrK (ty := .long) (hts _ (List.mem_of_getElem? (i := 249) (by decide +kernel))) (fun _ q => by cases q)
  have hAO : (Cond.arrayOver (.object RX7)).before args s = true := hts _ (List.mem_of_getElem? (i := 447) (by decide +kernel))
  obtain ⟨a4, ha4, hb4⟩ := am_arrQ hAO
  obtain ⟨tp, hp1, hp2⟩ := va_Tof (args := args) (s := s) (tm := .static "DogDecrees" "POWERS" "[J") (ty := .long) (N := 9) (f := fun j => .long (am_pow j)) (A := fun q => s.heap.size ≤ q) (by decide) (hs _ (by decide +kernel)) (va_eqt (hs _ (by decide +kernel))) (fun j hj => by
    rcases (show j = 0 ∨ j = 1 ∨ j = 2 ∨ j = 3 ∨ j = 4 ∨ j = 5 ∨ j = 6 ∨ j = 7 ∨ j = 8 by omega) with rfl | rfl | rfl | rfl | rfl | rfl | rfl | rfl | rfl <;> exact va_eqtl (hs _ (by decide +kernel))) hA
  have hZp := va_Zof (args := args) (hts _ (List.mem_of_getElem? (i := 1088) (by decide +kernel))) (hts _ (List.mem_of_getElem? (i := 112) (by decide +kernel))) hp1 hA
  obtain ⟨adK, adV, hv1, hv2⟩ := vk_Sof (args := args) (s := s) (N := 1) (tm := fun _ => .string am_strO am_strI) (len := [am_strN]) (byt := [am_bytes]) (A := fun q => s.heap.size ≤ q)
    (fun i hi => by rw [show i = 0 by omega]; decide) (fun i hi => hs _ (by decide +kernel)) (fun i hi => hs _ (by decide +kernel)) (fun i hi => hs _ (by decide +kernel)) (fun i hi => by rw [show i = 0 by omega]; exact hs _ (by decide +kernel))
    (fun i hi j hj => by
      have hi0 : i = 0 := by omega
      subst hi0
      have hall : ∀ j, j < am_strN → Cond.eq (.elem (.field (.string am_strO am_strI) "java/lang/String" "value" "[B") (.int (Int32.ofNat j))) (.int (([am_bytes].getD 0 []).getD j 0)) ∈ flatC (Jvm.Cond.and given_1 narrow_1) := by decide +kernel
      exact hs _ (hall j hj))
    (fun i j hi hj hne => absurd (show i = j by omega) hne) hA
  have hR1 : vk_R am_strO am_strI am_text (adK 0) s := vk_R.of (hts _ (List.mem_of_getElem? (i := 163) (by decide +kernel))) (hv2 0 (by decide))
  have hZc := va_Zof (args := args) (hts _ (List.mem_of_getElem? (i := 173) (by decide +kernel))) (hts _ (List.mem_of_getElem? (i := 115) (by decide +kernel))) (va_eqi (hs (.eq (.static "java/lang/String" "COMPACT_STRINGS" "Z") (.int 1)) (by decide +kernel))) hA
  have hZq := va_Zqof (args := args) (s := s) (A := fun q => s.heap.size ≤ q) (hts (.laysStatic "jdk/internal/util/Preconditions" "SIOOBE_FORMATTER" "Ljava/util/function/BiFunction;") (List.mem_of_getElem? (i := 189) (by decide +kernel))) (hts _ (List.mem_of_getElem? (i := 117) (by decide +kernel))) (hs _ (by decide +kernel)) hA
  obtain ⟨f3, f4, hf⟩ : ∃ f3 f4 : Nat, va_Z "jdk/internal/util/Preconditions" "SIOOBE_FORMATTER" "Ljava/util/function/BiFunction;" (bif Nat.beq f4 0 then .null else .ref f3) (fun q => s.heap.size ≤ q) s s.heap := by
    rcases hZq with h | ⟨t, h⟩
    · exact ⟨0, 0, h⟩
    · exact ⟨t, 1, h⟩
  refine ⟨fun k => match k with | 0 => tp | 1 => adK 0 | 2 => adV 0 | 3 => f3 | 4 => f4 | _ => b, fun k => match k with | 0 => a0 | 1 => a1 | 2 => a2 | 3 => a3 | _ => a4, (fun k => match k with | 0 => c0 | 1 => c1 | 2 => c2 | 3 => c3 | 4 => c4 | 5 => c5 | 6 => c6 | 7 => c7 | 8 => c8 | 9 => c9 | 10 => c10 | 11 => c11 | _ => c12, fun k => match k with | 0 => i0 | 1 => i1 | 2 => i2 | 3 => i3 | 4 => i4 | 5 => i5 | 6 => i6 | 7 => i7 | 8 => i8 | 9 => i9 | 10 => i10 | 11 => i11 | _ => i12), rfl, ⟨?_, ?_⟩, ?_⟩
  · intro k q hq
    match k, hq with
    | 0, hq => cases hq; exact hk0
    | 1, hq => cases hq; exact hk1
    | 2, hq => cases hq; exact hk2
    | 3, hq => cases hq; exact hk3
    | 4, hq => cases hq; exact hk4
    | 5, hq => cases hq; exact hk5
    | 6, hq => cases hq; exact hk6
    | 7, hq => cases hq; exact hk7
    | 8, hq => cases hq; exact hk8
    | 9, hq => cases hq; exact hk9
    | 10, hq => cases hq; exact hk10
    | 11, hq => cases hq; exact hk11
    | 12, hq => cases hq; exact hk12
    | k + 13, hq => simp [vwCl] at hq
  · intro k q hq
    match k, hq with
    | 0, hq => cases hq; exact ⟨ha0, hb0⟩
    | 1, hq => cases hq; exact ⟨ha1, hb1⟩
    | 2, hq => cases hq; exact ⟨ha2, hb2⟩
    | 3, hq => cases hq; exact ⟨ha3, hb3⟩
    | 4, hq => cases hq; exact ⟨ha4, hb4⟩
    | k + 5, hq => simp [am_tys] at hq
  · refine ⟨hZp, hp2, hR1, ⟨fun i hi => ?_, fun i j hi hj _ => by omega⟩, hZc, fun q hq => ?_, va_Nw.of rfl (hts _ (List.mem_of_getElem? (i := 1108) (by decide +kernel))), va_AO.of hAO, hf⟩
    · rw [show i = 0 by omega]
      exact hv1.1 0 (by decide)
    · have hall : ∀ q ∈ am_nestM, Cond.methodLinkNest q.1 q.2.1 q.2.2 "DogDecrees" ∈ lw_tbl := by
        unfold am_nestM
        refine List.forall_mem_cons.mpr ⟨List.mem_of_getElem? (i := 143) (by decide +kernel), List.forall_mem_cons.mpr ⟨List.mem_of_getElem? (i := 252) (by decide +kernel), List.forall_mem_cons.mpr ⟨List.mem_of_getElem? (i := 258) (by decide +kernel), List.forall_mem_cons.mpr ⟨List.mem_of_getElem? (i := 400) (by decide +kernel), List.forall_mem_cons.mpr ⟨List.mem_of_getElem? (i := 448) (by decide +kernel), List.forall_mem_cons.mpr ⟨List.mem_of_getElem? (i := 556) (by decide +kernel), List.forall_mem_cons.mpr ⟨List.mem_of_getElem? (i := 762) (by decide +kernel), List.forall_mem_cons.mpr ⟨List.mem_of_getElem? (i := 960) (by decide +kernel), List.forall_mem_cons.mpr ⟨List.mem_of_getElem? (i := 1071) (by decide +kernel), fun _ h => absurd h List.not_mem_nil⟩⟩⟩⟩⟩⟩⟩⟩⟩
      exact va_Nw.of rfl (hts _ (hall q hq))
