/-! ===== the reference's reader: old names ===== -/
section RDO
variable {d : Nat} {Q : am_Q} {hi : Nat → Nat → Int32} {hl : Nat → Nat → Int64} {sw : Bool} {kp : Nat → Nat} {n a : Nat} {f : Nat → Int32}
theorem f180 {m o : Nat} {N : Nat → List Nat} (hm : o + m ≤ 16) (h : MS n f a hi hl) (hN : ∀ i, i < m → hl 281 (o + i) = lN (w8 (N i)) ∧ ltr (N i) ∧ w8 (N i) < 2 ^ 63) (w1 : isNm (tk (byt n f) a) → ∀ i, i < m → N i = tl (tk (byt n f) a) → Q (some (.int (nI i))) (mkH hi hl sw kp)) (w0 : ∀ w, (¬ isNm (tk (byt n f) a) ∧ w = 2) ∨ (isNm (tk (byt n f) a) ∧ (∀ i, i < m → N i ≠ tl (tk (byt n f) a)) ∧ w = 5) → Q (some (.int 0)) (mkH (u2 (u2 hi 279 2 (nI (ftw (tk (byt n f) a) w))) 279 3 (nI (tp (tk (byt n f) a)))) hl sw kp)) : cS (d + 3) 180 [.ref 279, .int (nI o), .int (nI m)] (mkH hi hl sw kp) Q := by
  have hle : hi 279 2 ≤ 0 := by rw [h.2.2.2.2.1]; decide
  have hnm := h.nm
  have bad : ∀ w, 0 < w → w < 100 → ((¬ isNm (tk (byt n f) a) ∧ w = 2) ∨ (isNm (tk (byt n f) a) ∧ (∀ i, i < m → N i ≠ tl (tk (byt n f) a)) ∧ w = 5)) → cW cd_180 (d + 2) Q 38 [some (.ref 279), some (.int (nI o)), some (.int (nI m))] [] (mkH (u2 (u2 hi 279 2 (nI (ftw (tk (byt n f) a) w))) 279 3 (nI (tp (tk (byt n f) a)))) hl sw kp) := fun w a1 a2 hw => by
    have e2 : (u2 (u2 hi 279 2 (nI (ftw (tk (byt n f) a) w))) 279 3 (nI (tp (tk (byt n f) a)))) 279 2 = nI (ftw (tk (byt n f) a) w) := by rw [u2_nn (by decide), u2_s]
    exact k_180_38 (fun c => absurd (by rw [← e2]; exact c) (ftw_p (t := tk (byt n f) a) a1 a2).2) (fun _ => k_180_55 (w0 w hw))
  refine e_180 (fun _ c => f171 (d := d + 1) (w := 2) h (k_180_21 (bad 2 (by decide) (by decide) (Or.inl ⟨fun z => hnm.mpr z c, rfl⟩)))) (fun _ c => ?_) (fun c => absurd hle c)
  have hq := hnm.mp c
  have e9 := h.2.2.2.2.2.1.2.2.1 hq.1
  refine f178 (d := d + 1) hm hN e9 (tk_w hq.1).1 (tk_8 hq.1) (fun i him e => k_180_30 (fun _ => k_180_38 (fun _ => ?_) (fun z => absurd hle z)) (fun z => absurd (Int32.not_lt.mp (nI_pos (n := i) (by omega))) z)) (fun hno => k_180_30 (fun z => absurd z (by decide)) (fun _ => f171 (d := d + 1) (w := 5) h (bad 5 (by decide) (by decide) (Or.inr ⟨hq, hno, rfl⟩))))
  exact f178 (d := d + 1) hm hN e9 (tk_w hq.1).1 (tk_8 hq.1) (fun i' hi' e' => k_180_55 (w1 hq i' hi' e')) (fun hno => absurd e (hno i him))
end RDO
