/-! ===== steps: arrays of references, lengths, the constant row, new cells ===== -/
section NEWS
variable {pr : am_P} {mi pc : Nat}
/-- how large the heap is: what is there and what came -/
theorem am_size {b0 n0 z0 : Nat} {ca : Nat → ClassId} {D : va_G} {p : Program} {l : Launch} {e : Env} {R : Room} {s : State} {m : MethodId} {args : Array Value} {below : List Frame} {meth : Method} {c : Code} {H : Heap} {locs : List Loc} {Qm : State → Prop} {g : JFrame} {h : am_Hp} (rR : am_Rel b0 ca D h H) (rS : va_S (fun q => b0 ≤ q) s.heap H locs) (hs : s.heap.size = b0 + n0) (rn : n0 ≤ hN h)
    (k : H.size = b0 + hN h → W p l e R s m args below meth c H locs (hN h - n0) (hZ h - z0) Qm g) : W p l e R s m args below meth c H locs (hN h - n0) (hZ h - z0) Qm g := by
  intro T hT X
  refine k ?_ T hT X
  have h1 := X.heapSize
  rw [hT, hs] at h1
  have h2 : b0 + hN h ≤ H.size := by
    by_cases hn : hN h = 0
    · have h3 := rS.1
      rw [hs] at h3
      omega
    · have h4 := (rR (hN h - 1) _ (am_ws_get (by omega))).lt
      dsimp only at h4
      omega
  omega
theorem ns_aast (hd : decode (pr mi).2.1 pc = .ok (.aastore, 1)) : am_Snd pr mi pc (tm_aast (pc + 1)) := by
  intro b0 ro ca D p l e R s m args below meth c Qm n0 z0 d B K C Q cx hB HK HC HQ ls st h x H locs LS rR rS rL rn rz
  unfold tm_aast at x
  split at x
  · rename_i y i a st'
    obtain ⟨x1, x2⟩ := am_bif x
    rw [Bool.and_eq_true] at x1
    obtain ⟨g1, g2⟩ := am_is_ok x1.1
    obtain ⟨g3, g4⟩ := am_is_ok x1.2
    have he := am_ws_get (b0 := b0) (ca := ca) g1
    rw [am_cell_104 g2] at he
    have hy := am_ws_get (b0 := b0) (ca := ca) g3
    rw [am_cell_obj g4 (by decide)] at hy
    refine va_astq (r := (RX7, TX7, 7)) cx.1 cx.2.1 cx.2.2.2.2.2.1 rR am_D rS a 4 y 7 he rfl hy rfl x2.1 hd (fun H1 locs1 hP1 hD1 hS1 => ?_)
    have hE : am_cell b0 ca (sR h (u2 (hR h) a i.toNatClampNeg (some y))) a = _ := am_cell_104 (h := sR h (u2 (hR h) a i.toNatClampNeg (some y))) g2
    rw [show (fun j => Option.map (fun q => b0 + q) (hR (sR h (u2 (hR h) a i.toNatClampNeg (some y))) a j)) = va_up (fun j => Option.map (fun q => b0 + q) (hR h a j)) i.toNatClampNeg (some (b0 + y)) from by
      funext j
      show Option.map _ (u2 (hR h) a i.toNatClampNeg (some y) a j) = _
      rw [u2_row]
      unfold va_up
      by_cases hj : j = i.toNatClampNeg <;> simp [hj]] at hE
    have hW := am_ws_set (b0 := b0) (ca := ca) (h := h) (h' := sR h (u2 (hR h) a i.toNatClampNeg (some y))) (i := a) rfl (fun j hj => am_row_r (fun b hb => u2_row_ne hb) hj)
    rw [hE] at hW
    refine HK _ _ _ _ x2.2 H1 locs1 LS ?_ hS1 rL rn rz
    unfold am_Rel
    rw [← hW]
    exact hP1
  · exact x.elim
theorem ns_alen (kd : Nat) (hk : kd = 100 ∨ kd = 103) (hd : decode (pr mi).2.1 pc = .ok (.arraylength, 1)) : am_Snd pr mi pc (tm_alen (pc + 1) kd) := by
  intro b0 ro ca D p l e R s m args below meth c Qm n0 z0 d B K C Q cx hB HK HC HQ ls st h x H locs LS rR rS rL rn rz
  unfold tm_alen at x
  split at x
  · rename_i a st'
    obtain ⟨x1, x2⟩ := am_bif x
    obtain ⟨g1, g2⟩ := am_is_ok x1
    have he := am_ws_get (b0 := b0) (ca := ca) g1
    rcases hk with rfl | rfl
    · rw [am_cell_100 g2] at he
      exact va_alen cx.1 cx.2.1 cx.2.2.2.2.2.1 rR a 0 he (ty := .int) rfl rfl hd (HK _ _ _ _ x2 H locs LS rR rS rL rn rz)
    · rw [am_cell_103 g2] at he
      exact va_alen cx.1 cx.2.1 cx.2.2.2.2.2.1 rR a 3 he (ty := .long) rfl rfl hd (HK _ _ _ _ x2 H locs LS rR rS rL rn rz)
  · exact x.elim
theorem ns_pow {index : Nat} (hw : Cond.fieldLink (pr mi).1.cls index "DogDecrees" "POWERS" "[J" ∈ tblG) (hd : decode (pr mi).2.1 pc = .ok (.getstatic index, 3)) : am_Snd pr mi pc (tm_pow (pc + 3)) := by
  intro b0 ro ca D p l e R s m args below meth c Qm n0 z0 d B K C Q cx hB HK HC HQ ls st h x H locs LS rR rS rL rn rz
  exact va_gets cx.1 cx.2.1 cx.2.2.2.2.2.2.1.1 rS cx.2.2.1 (cx.2.2.2.1 _ hw) (fun _ q => q) hd (HK _ _ _ _ x H locs LS rR rS rL rn rz)
theorem ns_powN (hm : (pr mi).1.cls = am_nestFo) (hd : decode (pr mi).2.1 pc = .ok (.getstatic am_nestFi, 3)) : am_Snd pr mi pc (tm_pow (pc + 3)) := by
  intro b0 ro ca D p l e R s m args below meth c Qm n0 z0 d B K C Q cx hB HK HC HQ ls st h x H locs LS rR rS rL rn rz
  obtain ⟨cf, kf, fi, f, a, cell, h1, h2, h3, h4, h5, h6, h7, h8⟩ := cx.2.2.2.2.2.2.1.1
  exact va_WgetsN cx.1 cx.2.1 (hm ▸ cx.2.2.1) (va_Nw.use rfl cx.2.2.2.2.2.2.1.2.2.2.2.2.2.1) h1 h2 h3 h4 ((rS.2.1 _ (Array.getElem?_eq_some_iff.mp h5).1 h8).trans h5) (fun q => by rw [q] at h6; cases h6) h7 rfl hd (HK _ _ _ _ x H locs LS rR rS rL rn rz)
end NEWS
