/-! ===== steps: new cells ===== -/
def am_grow (h : am_Hp) (kd len : Nat) : am_Hp := (hN h + 1, hZ h + len, fun i => bif Nat.beq i (hN h) then (kd, len) else hS h i, uR (hI h) (hN h) (fun _ => 0), uR (hL h) (hN h) (fun _ => 0), uR (hR h) (hN h) (fun _ => none))
def tm_new (nx ci N : Nat) : am_T := fun B K _ _ ls st h => hN h + 1 ≤ B.1 ∧ hZ h + N ≤ B.2 ∧ K nx ls (.ref (hN h) :: st) (am_grow h ci N)
def tm_newa (nx kd : Nat) : am_T := fun B K _ _ ls st h => match st with
  | .int n :: st' => ¬ n < 0 ∧ n.toNatClampNeg ≤ 10000 ∧ hN h + 1 ≤ B.1 ∧ hZ h + n.toNatClampNeg ≤ B.2 ∧ K nx ls (.ref (hN h) :: st') (am_grow h kd n.toNatClampNeg)
  | _ => False
theorem uR_at {α : Type} (f : Nat → Nat → α) (i : Nat) (g : Nat → α) : uR f i g i = g := by funext b; rw [uR_eq, if_pos rfl]
theorem uR_ne {α : Type} {f : Nat → Nat → α} {i : Nat} {g : Nat → α} {a : Nat} (h : a ≠ i) : uR f i g a = f a := by funext b; rw [uR_eq, if_neg h]
theorem am_grow_S {h : am_Hp} {kd len : Nat} : hS (am_grow h kd len) (hN h) = (kd, len) := by
  show (bif Nat.beq (hN h) (hN h) then (kd, len) else hS h (hN h)) = (kd, len)
  rw [Nat.beq_refl]; rfl
theorem am_grow_cell {b0 : Nat} {ca : Nat → ClassId} {h : am_Hp} {kd len i : Nat} (hi : i ≠ hN h) : am_cell b0 ca (am_grow h kd len) i = am_cell b0 ca h i := by
  refine am_cell_eq ?_ (uR_ne hi) (uR_ne hi) (uR_ne hi)
  show (bif Nat.beq i (hN h) then (kd, len) else hS h i) = hS h i
  rw [am_beq hi]; rfl
theorem am_grow_ws {b0 : Nat} {ca : Nat → ClassId} {h : am_Hp} {kd len : Nat} : am_ws b0 ca (am_grow h kd len) = am_ws b0 ca h ++ [(b0 + hN h, am_cell b0 ca (am_grow h kd len) (hN h))] := by
  show (List.range (hN h + 1)).map _ = _
  rw [List.range_succ, List.map_append]
  congr 1
  refine List.map_congr_left fun i hi => ?_
  rw [am_grow_cell (Nat.ne_of_lt (List.mem_range.mp hi))]
theorem am_grow_rel {b0 : Nat} {ca : Nat → ClassId} {D : va_G} {h : am_Hp} {kd len : Nat} {H H1 : Heap} (rR : am_Rel b0 ca D h H) (hs : H.size = b0 + hN h) (o1 : ∀ q, q < H.size → H1[q]? = H[q]?) (hc : va_at D vwCl (b0 + hN h, am_cell b0 ca (am_grow h kd len) (hN h)) H1) : am_Rel b0 ca D (am_grow h kd len) H1 := by
  unfold am_Rel
  rw [am_grow_ws]
  intro k q hq
  by_cases hk : k < (am_ws b0 ca h).length
  · rw [List.getElem?_append_left hk] at hq
    exact (rR k q hq).kept (o1 _ (rR k q hq).lt)
  · rw [List.getElem?_append_right (by omega)] at hq
    have hz : k - (am_ws b0 ca h).length < 1 := (List.getElem?_eq_some_iff.mp hq).1
    rw [show k - (am_ws b0 ca h).length = 0 by omega] at hq
    cases hq
    exact hc
theorem am_grow_S2 {b0 : Nat} {H0 H H1 : Heap} {locs : List Loc} (rS : va_S (fun q => b0 ≤ q) H0 H locs) (z1 : H1.size = H.size + 1) (o1 : ∀ q, q < H.size → H1[q]? = H[q]?) : va_S (fun q => b0 ≤ q) H0 H1 locs :=
  ⟨Nat.le_trans rS.1 (by omega), fun x h1 h2 => (o1 x (Nat.lt_of_lt_of_le h1 rS.1)).trans (rS.2.1 x h1 h2), rS.2.2⟩
section MAKE
variable {pr : am_P} {mi pc : Nat}
theorem ns_new {ci index N : Nat} {C : String} {T : u_T} (hc : am_cls ci N C T) (hty : ∀ j, j < N → am_ty ci j ≠ .float ∧ am_ty ci j ≠ .double) (hl : Cond.classLink (pr mi).1.cls index C ∈ tblG) (hi : Cond.instantiable C N ∈ tblG) (hn : Cond.initialized C ∈ tblG) (hd : decode (pr mi).2.1 pc = .ok (.new index, 3)) : am_Snd pr mi pc (tm_new (pc + 3) ci N) := by
  intro b0 ro ca D p l e R s m args below meth c Qm n0 z0 d B K C' Q cx hB HK HC HQ ls st h x H locs LS rR rS rL rn rz
  obtain ⟨x1, x2, x3⟩ := x
  refine am_size rR rS cx.2.2.2.2.2.2.2 rn fun hs => ?_
  have hKn := cx.2.2.2.2.2.1.1 ci _ hc.1
  refine W.newcK cx.1 cx.2.1 cx.2.2.1 (cx.2.2.2.1 _ hl) (cx.2.2.2.1 _ hi) (cx.2.2.2.1 _ hn) rfl hd (by omega) (by omega) hKn.2.1 hs fun H1 kC hkC e1 z1 o1 => ?_
  have g2 : (hS (am_grow h ci N) (hN h)).1 = ci := by rw [am_grow_S]
  have hcell : va_at D vwCl (b0 + hN h, am_cell b0 ca (am_grow h ci N) (hN h)) H1 := by
    rw [am_cell_obj g2 hc.2.1, am_grow_S]
    refine ⟨_, hc.1, (u_born (am_ty ci) cx.2.2.2.1 hc.2.2.1 hKn hkC e1 hc.2.2.2.1).to (fun j hj => ?_)⟩
    have e2 : vp_V ((List.range N).map (fun j => am_val b0 (am_grow h ci N) (hN h) j (am_ty ci j))) j = am_val b0 (am_grow h ci N) (hN h) j (am_ty ci j) := by simp [vp_V, hj]
    have i0 : hI (am_grow h ci N) (hN h) j = 0 := congrFun (uR_at (hI h) (hN h) (fun _ => 0)) j
    have l0 : hL (am_grow h ci N) (hN h) j = 0 := congrFun (uR_at (hL h) (hN h) (fun _ => 0)) j
    have r0 : hR (am_grow h ci N) (hN h) j = none := congrFun (uR_at (hR h) (hN h) (fun _ => none)) j
    show defaultValue (am_ty ci j) = _
    rw [e2]
    have ht := hty j hj
    cases hq : am_ty ci j <;> simp only [am_val, i0, l0, r0, defaultValue, va_rf, Option.map_none] <;> first | rfl | exact absurd hq ht.1 | exact absurd hq ht.2
  have k1 := HK _ _ _ _ x3 H1 locs LS (am_grow_rel rR hs (fun q hq => o1 q (by omega)) hcell) (am_grow_S2 rS (by omega) (fun q hq => o1 q (by omega))) rL (Nat.le_succ_of_le rn) (Nat.le_trans rz (Nat.le_add_right _ _))
  rw [show hN h - n0 + 1 = hN (am_grow h ci N) - n0 from (by show _ = hN h + 1 - n0; omega), show hZ h - z0 + N = hZ (am_grow h ci N) - z0 from (by show _ = hZ h + N - z0; omega)]
  exact k1
theorem ns_newa {at0 : ArrayType} (kd t0 : Nat) {ty : FieldType} (hty : newarray.typeOf at0 = ty) (hq : (kd = 100 ∧ ty = .int ∧ t0 = 0) ∨ (kd = 101 ∧ ty = .byte ∧ t0 = 1) ∨ (kd = 102 ∧ ty = .boolean ∧ t0 = 2) ∨ (kd = 103 ∧ ty = .long ∧ t0 = 3)) (hw : Cond.arrayClass ty ∈ tblG) (hd : decode (pr mi).2.1 pc = .ok (.newarray at0, 2)) : am_Snd pr mi pc (tm_newa (pc + 2) kd) := by
  intro b0 ro ca D p l e R s m args below meth c Qm n0 z0 d B K C' Q cx hB HK HC HQ ls st h x H locs LS rR rS rL rn rz
  subst hty
  unfold tm_newa at x
  split at x
  · rename_i n st'
    obtain ⟨x0, xb, x1, x2, x3⟩ := x
    refine am_size rR rS cx.2.2.2.2.2.2.2 rn fun hs => ?_
    have hcb : componentBytes (newarray.typeOf at0) ≤ 8 := by
      cases at0 <;> decide
    refine va_newaK (h := b0 + hN h) cx.1 cx.2.1 (cx.2.2.2.1 _ hw) rfl hd rfl x0 rfl (Nat.le_trans (Nat.mul_le_mul xb hcb) (by decide)) (by omega) (by omega) hs fun H1 cA e1 z1 o1 hAr hNm => ?_
    have hcell : va_at D vwCl (b0 + hN h, am_cell b0 ca (am_grow h kd n.toNatClampNeg) (hN h)) H1 := by
      have i0 : hI (am_grow h kd n.toNatClampNeg) (hN h) = fun _ => 0 := uR_at (hI h) (hN h) (fun _ => 0)
      have l0 : hL (am_grow h kd n.toNatClampNeg) (hN h) = fun _ => 0 := uR_at (hL h) (hN h) (fun _ => 0)
      have hkd : (hS (am_grow h kd n.toNatClampNeg) (hN h)).1 = kd := by rw [am_grow_S]
      have hK := cx.2.2.2.2.2.1.2
      rcases hq with ⟨rfl, ht, rfl⟩ | ⟨rfl, ht, rfl⟩ | ⟨rfl, ht, rfl⟩ | ⟨rfl, ht, rfl⟩
      · rw [am_cell_100 hkd, am_grow_S, i0]
        have h9 : s.vm.findClass _ = some (ca 0) := (hK 0 (ca 0, .int) rfl).2
        rw [ht] at hNm e1
        cases h9.symm.trans hNm
        exact e1
      · rw [am_cell_101 hkd, am_grow_S, i0]
        have h9 : s.vm.findClass _ = some (ca 1) := (hK 1 (ca 1, .byte) rfl).2
        rw [ht] at hNm e1
        cases h9.symm.trans hNm
        exact e1
      · rw [am_cell_102 hkd, am_grow_S, i0]
        have h9 : s.vm.findClass _ = some (ca 2) := (hK 2 (ca 2, .boolean) rfl).2
        rw [ht] at hNm e1
        cases h9.symm.trans hNm
        exact e1
      · rw [am_cell_103 hkd, am_grow_S, l0]
        have h9 : s.vm.findClass _ = some (ca 3) := (hK 3 (ca 3, .long) rfl).2
        rw [ht] at hNm e1
        cases h9.symm.trans hNm
        exact e1
    have k1 := HK _ _ _ _ x3 H1 locs LS (am_grow_rel rR hs (fun q hq => o1 q (by omega)) hcell) (am_grow_S2 rS (by omega) (fun q hq => o1 q (by omega))) rL (Nat.le_succ_of_le rn) (Nat.le_trans rz (Nat.le_add_right _ _))
    rw [show hN h - n0 + 1 = hN (am_grow h kd n.toNatClampNeg) - n0 from (by show _ = hN h + 1 - n0; omega), show hZ h - z0 + n.toNatClampNeg = hZ (am_grow h kd n.toNatClampNeg) - z0 from (by show _ = hZ h + n.toNatClampNeg - z0; omega)]
    exact k1
  · exact x.elim
theorem ns_anew {index : Nat} (hw : Cond.classLink (pr mi).1.cls index RX7 ∈ tblG) (hd : decode (pr mi).2.1 pc = .ok (.anewarray index, 3)) : am_Snd pr mi pc (tm_newa (pc + 3) 104) := by
  intro b0 ro ca D p l e R s m args below meth c Qm n0 z0 d B K C' Q cx hB HK HC HQ ls st h x H locs LS rR rS rL rn rz
  unfold tm_newa at x
  split at x
  · rename_i n st'
    obtain ⟨x0, xb, x1, x2, x3⟩ := x
    refine am_size rR rS cx.2.2.2.2.2.2.2 rn fun hs => ?_
    refine W.anew cx.1 cx.2.1 cx.2.2.1 (cx.2.2.2.1 _ hw) (va_AO.use cx.2.2.2.2.2.2.1.2.2.2.2.2.2.2.1) rfl hd rfl x0 (by omega) (by omega) (by omega) fun cA kA comp f1 f2 f3 f4 => ?_
    generalize hH1 : H.push ({ cls := cA, slots := Array.replicate n.toNatClampNeg .null, vm := .none } : Cell) = H1
    have z1 : H1.size = H.size + 1 := by rw [← hH1, Array.size_push]
    have e1 : H1[H.size]? = some (arrV cA n.toNatClampNeg (fun _ => .null)) := by rw [← hH1, Array.getElem?_push_size, ← arrV_new]
    have o1 : ∀ q : Nat, q < H.size → H1[q]? = H[q]? := fun q hq => by rw [← hH1, Array.getElem?_push, if_neg (Nat.ne_of_lt hq)]
    have hcell : va_at D vwCl (b0 + hN h, am_cell b0 ca (am_grow h 104 n.toNatClampNeg) (hN h)) H1 := by
      have r0 : hR (am_grow h 104 n.toNatClampNeg) (hN h) = fun _ => none := uR_at (hR h) (hN h) (fun _ => none)
      have hkd : (hS (am_grow h 104 n.toNatClampNeg) (hN h)).1 = 104 := by rw [am_grow_S]
      rw [am_cell_104 hkd, am_grow_S, r0]
      obtain ⟨kA', comp', u1, u2', u3, u4⟩ := (cx.2.2.2.2.2.1.2 4 (ca 4, .object RX7) rfl).2
      cases u4.symm.trans f1
      rw [hs] at e1
      exact e1
    have k1 := HK _ _ _ _ x3 H1 locs LS (am_grow_rel rR hs o1 hcell) (am_grow_S2 rS z1 o1) rL (Nat.le_succ_of_le rn) (Nat.le_trans rz (Nat.le_add_right _ _))
    rw [show hN h - n0 + 1 = hN (am_grow h 104 n.toNatClampNeg) - n0 from (by show _ = hN h + 1 - n0; omega), show hZ h - z0 + n.toNatClampNeg = hZ (am_grow h 104 n.toNatClampNeg) - z0 from (by show _ = hZ h + n.toNatClampNeg - z0; omega), hs]
    exact k1
  · exact x.elim
end MAKE
