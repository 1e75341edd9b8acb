/-! ===== the reference's reader: a new name ===== -/
section RDP
variable {d : Nat} {Q : am_Q} {hi : Nat → Nat → Int32} {hl : Nat → Nat → Int64} {sw : Bool} {kp : Nat → Nat} {n a : Nat} {f : Nat → Int32}
theorem MS.l {hl' : Nat → Nat → Int64} (h : MS n f a hi hl) (e : hl' 279 9 = hl 279 9) : MS n f a hi hl' := by
  obtain ⟨h1, h2, h3, h4, h5, ⟨c1, c2, c3, c4, c5⟩, h7⟩ := h
  exact ⟨h1, h2, h3, h4, h5, ⟨c1, c2, fun z => by rw [e]; exact c3 z, c4, c5⟩, h7⟩
/-- behind the line's word: a new name, and on behind it -/
theorem f179 {m o : Nat} {N : Nat → List Nat} (hm : o + m < 16) (h : MS n f a hi hl) (hs : ts (tk (byt n f) a) ≠ 3) (hN : ∀ i, i < m → hl 281 (o + i) = lN (w8 (N i)) ∧ ltr (N i) ∧ w8 (N i) < 2 ^ 63)
    (w1 : isNm (tk (byt n f) (te (tk (byt n f) a))) → (∀ i, i < m → N i ≠ tl (tk (byt n f) (te (tk (byt n f) a)))) → ∀ (hi1 : Nat → Nat → Int32) (hl1 : Nat → Nat → Int64) (hi' : Nat → Nat → Int32) (hl' : Nat → Nat → Int64), FR hi1 hi hl1 hl → MS n f (te (tk (byt n f) (te (tk (byt n f) a)))) hi' hl' → FR hi' hi1 hl' (u2 hl1 281 (o + m) (lN (w8 (tl (tk (byt n f) (te (tk (byt n f) a))))))) → Q none (mkH hi' hl' sw kp))
    (w0 : ∀ w (hi1 : Nat → Nat → Int32) (hl1 : Nat → Nat → Int64), FR hi1 hi hl1 hl → (¬ isNm (tk (byt n f) (te (tk (byt n f) a))) ∧ w = 2) ∨ (isNm (tk (byt n f) (te (tk (byt n f) a))) ∧ (∃ i, i < m ∧ N i = tl (tk (byt n f) (te (tk (byt n f) a)))) ∧ w = 3) → Q none (mkH (u2 (u2 hi1 279 2 (nI (ftw (tk (byt n f) (te (tk (byt n f) a))) w))) 279 3 (nI (tp (tk (byt n f) (te (tk (byt n f) a)))))) hl1 sw kp)) : cS (d + 5) 179 [.ref 279, .int (nI o), .int (nI m)] (mkH hi hl sw kp) Q := by
  refine e_179 (f170r (d := d + 2) h hs (fun hi1 hl1 h' fr => ?_))
  have hle : hi1 279 2 ≤ 0 := by rw [h'.2.2.2.2.1]; decide
  have hnm := h'.nm
  have hN' : ∀ i, i < m → hl1 281 (o + i) = lN (w8 (N i)) ∧ ltr (N i) ∧ w8 (N i) < 2 ^ 63 := fun i hi => by
    rw [fr.2 281 _ (by omega)]
    exact hN i hi
  have bad : ∀ w, 0 < w → w < 100 → ((¬ isNm (tk (byt n f) (te (tk (byt n f) a))) ∧ w = 2) ∨ (isNm (tk (byt n f) (te (tk (byt n f) a))) ∧ (∃ i, i < m ∧ N i = tl (tk (byt n f) (te (tk (byt n f) a)))) ∧ w = 3)) → cW cd_179 (d + 4) Q 33 [some (.ref 279), some (.int (nI o)), some (.int (nI m))] [] (mkH (u2 (u2 hi1 279 2 (nI (ftw (tk (byt n f) (te (tk (byt n f) a))) w))) 279 3 (nI (tp (tk (byt n f) (te (tk (byt n f) a)))))) hl1 sw kp) := fun w a1 a2 hw => by
    have e2 : (u2 (u2 hi1 279 2 (nI (ftw (tk (byt n f) (te (tk (byt n f) a))) w))) 279 3 (nI (tp (tk (byt n f) (te (tk (byt n f) a)))))) 279 2 = nI (ftw (tk (byt n f) (te (tk (byt n f) a))) w) := by rw [u2_nn (by decide), u2_s]
    have hp := (ftw_p (t := tk (byt n f) (te (tk (byt n f) a))) a1 a2).2
    exact k_179_33 (fun c => absurd (by rw [← e2]; exact c) hp) (fun c => absurd (by rw [← e2]; exact c) hp) (fun _ => w0 w hi1 hl1 fr hw)
  refine k_179_4 (fun c => f171 (d := d + 3) (w := 2) h' (k_179_16 (bad 2 (by decide) (by decide) (Or.inl ⟨fun z => hnm.mpr z c, rfl⟩)))) (fun c => ?_)
  have hq := hnm.mp c
  have e9 := h'.2.2.2.2.2.1.2.2.1 hq.1
  refine f178 (d := d + 3) (by omega) hN' e9 (tk_w hq.1).1 (tk_8 hq.1) (fun i him e => k_179_25 (fun z => absurd z (nI_pos (by omega))) (fun _ => f171 (d := d + 3) (w := 3) h' (bad 3 (by decide) (by decide) (Or.inr ⟨hq, ⟨i, him, e⟩, rfl⟩)))) (fun hno => k_179_25 (fun _ => k_179_33 (fun _ => by rw [nI_add]; exact vp_in_nI (by omega) (by decide)) (fun _ => ?_) (fun z => absurd hle z)) (fun z => absurd (by decide) z))
  rw [nI_add, nI_clamp (by omega), e9]
  exact f170r (d := d + 2) (h'.l (by rw [u2_row_ne (by decide)])) (by rw [hq.1]; decide) (fun hi' hl' r1 r2 => k_179_57 (w1 hq hno hi1 hl1 hi' hl' fr r1 r2))
end RDP
