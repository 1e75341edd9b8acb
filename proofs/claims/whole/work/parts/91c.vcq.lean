/-! ===== village: the class's lines that may stand once; a line; the whole text ===== -/
section VCQ
variable {d : Nat} {Q : am_Q} {hi hi' : Nat → Nat → Int32} {hl hl' : Nat → Nat → Int64} {sw : Bool} {kp : Nat → Nat} {n a : Nat} {f : Nat → Int32} {D : Dr}
/-- a line -/
theorem f91 (hS : CST n f D a hi hl) (hW : DW D) (hU : DPu D) (w : ∀ o r (hi' : Nat → Nat → Int32) (hl' : Nat → Nat → Int64), LN (byt n f) D a o → CO n f o r hi' hl' → CF hi' hi hl' hl → Q (some (.int r)) (mkH hi' hl' sw kp)) : cS (d + 55) 91 [.ref 14] (mkH hi hl sw kp) Q := by
  have hR := hS.1
  have i0 : hi 3 2 = 200 ↔ isW (tk (byt n f) a) 0 := hR.wd (i := 0) (by decide)
  have i1 : hi 3 2 = 201 ↔ isW (tk (byt n f) a) 1 := hR.wd (i := 1) (by decide)
  have i2 : hi 3 2 = 202 ↔ isW (tk (byt n f) a) 2 := hR.wd (i := 2) (by decide)
  have i3 : hi 3 2 = 203 ↔ isW (tk (byt n f) a) 3 := hR.wd (i := 3) (by decide)
  have i4 : hi 3 2 = 204 ↔ isW (tk (byt n f) a) 4 := hR.wd (i := 4) (by decide)
  have i5 : hi 3 2 = 205 ↔ isW (tk (byt n f) a) 5 := hR.wd (i := 5) (by decide)
  have i6 : hi 3 2 = 206 ↔ isW (tk (byt n f) a) 6 := hR.wd (i := 6) (by decide)
  have i7 : hi 3 2 = 207 ↔ isW (tk (byt n f) a) 7 := hR.wd (i := 7) (by decide)
  have i8 : hi 3 2 = 208 ↔ isW (tk (byt n f) a) 8 := hR.wd (i := 8) (by decide)
  have i9 : hi 3 2 = 209 ↔ isW (tk (byt n f) a) 9 := hR.wd (i := 9) (by decide)
  have i10 : hi 3 2 = 210 ↔ isW (tk (byt n f) a) 10 := hR.wd (i := 10) (by decide)
  refine e_91 (d := d + 54) (fun c => ?_) (fun _ c => ?_) (fun _ _ c => ?_) (fun _ _ _ c => ?_) (fun _ _ _ _ c => ?_) (fun _ _ _ _ _ c => ?_) (fun _ _ _ _ _ _ c => ?_) (fun _ _ _ _ _ _ _ c => ?_) (fun _ _ _ _ _ _ _ _ c => ?_) (fun _ _ _ _ _ _ _ _ _ c => ?_) (fun _ _ _ _ _ _ _ _ _ _ c => ?_) (fun c0 c1 c2 c3 c4 c5 c6 c7 c8 c9 c10 => ?_)
  · have q := i0.mp c
    exact f92 (d := d + 48) hS q hW (fun r hi' hl' o1 o2 => k_91_68 o1.r (w _ r hi' hl' (Or.inl ⟨q, rfl⟩) o1 o2))
  · have q := i1.mp c
    exact f93 (d := d + 47) hS q hW (fun r hi' hl' o1 o2 => k_91_73 o1.r (w _ r hi' hl' (Or.inr (Or.inl ⟨q, rfl⟩)) o1 o2))
  · have q := i2.mp c
    exact f94 (d := d + 48) hS q hW (fun r hi' hl' o1 o2 => k_91_78 o1.r (w _ r hi' hl' (Or.inr (Or.inr (Or.inl ⟨q, rfl⟩))) o1 o2))
  · have q := i3.mp c
    exact f95 (d := d + 47) hS q hW (fun r hi' hl' o1 o2 => k_91_83 o1.r (w _ r hi' hl' (Or.inr (Or.inr (Or.inr (Or.inl ⟨q, rfl⟩)))) o1 o2))
  · have q := i4.mp c
    exact f96 (d := d + 47) hS q hW (fun r hi' hl' o1 o2 => k_91_88 o1.r (w _ r hi' hl' (Or.inr (Or.inr (Or.inr (Or.inr (Or.inl ⟨q, rfl⟩))))) o1 o2))
  · have q := i5.mp c
    rw [show hi 3 2 = nI (200 + 5) from c]
    exact f98p (d := d) hS q hU (fun o r hi' hl' o0 o1 o2 => k_91_100 o1.r (w o r hi' hl' (Or.inr (Or.inr (Or.inr (Or.inr (Or.inr (Or.inl ⟨q, o0⟩)))))) o1 o2))
  · have q := i6.mp c
    rw [show hi 3 2 = nI (200 + 6) from c]
    exact f98n (d := d + 46) (i := 6) (Or.inl ⟨rfl, rfl, rfl, rfl⟩) hS q (fun r hi' hl' o1 o2 => k_91_100 o1.r (w _ r hi' hl' (Or.inr (Or.inr (Or.inr (Or.inr (Or.inr (Or.inr (Or.inl ⟨q, rfl⟩))))))) o1 o2))
  · have q := i7.mp c
    rw [show hi 3 2 = nI (200 + 7) from c]
    exact f98n (d := d + 46) (i := 7) (Or.inr (Or.inl ⟨rfl, rfl, rfl, rfl⟩)) hS q (fun r hi' hl' o1 o2 => k_91_100 o1.r (w _ r hi' hl' (Or.inr (Or.inr (Or.inr (Or.inr (Or.inr (Or.inr (Or.inr (Or.inl ⟨q, rfl⟩)))))))) o1 o2))
  · have q := i8.mp c
    rw [show hi 3 2 = nI (200 + 8) from c]
    exact f98s (d := d + 48) hS q hW (fun r hi' hl' o1 o2 => k_91_100 o1.r (w _ r hi' hl' (Or.inr (Or.inr (Or.inr (Or.inr (Or.inr (Or.inr (Or.inr (Or.inr (Or.inl ⟨q, rfl⟩))))))))) o1 o2))
  · have q := i9.mp c
    rw [show hi 3 2 = nI (200 + 9) from c]
    exact f98n (d := d + 46) (i := 9) (Or.inr (Or.inr (Or.inl ⟨rfl, rfl, rfl, rfl⟩))) hS q (fun r hi' hl' o1 o2 => k_91_100 o1.r (w _ r hi' hl' (Or.inr (Or.inr (Or.inr (Or.inr (Or.inr (Or.inr (Or.inr (Or.inr (Or.inr (Or.inl ⟨q, rfl⟩)))))))))) o1 o2))
  · have q := i10.mp c
    rw [show hi 3 2 = nI (200 + 10) from c]
    exact f98n (d := d + 46) (i := 10) (Or.inr (Or.inr (Or.inr ⟨rfl, rfl, rfl, rfl⟩))) hS q (fun r hi' hl' o1 o2 => k_91_100 o1.r (w _ r hi' hl' (Or.inr (Or.inr (Or.inr (Or.inr (Or.inr (Or.inr (Or.inr (Or.inr (Or.inr (Or.inr (Or.inl ⟨q, rfl⟩))))))))))) o1 o2))
  · have hno : ∀ i, i ≤ 10 → ¬ isW (tk (byt n f) a) i := fun i h q => by
      rcases (show i = 0 ∨ i = 1 ∨ i = 2 ∨ i = 3 ∨ i = 4 ∨ i = 5 ∨ i = 6 ∨ i = 7 ∨ i = 8 ∨ i = 9 ∨ i = 10 by omega) with rfl | rfl | rfl | rfl | rfl | rfl | rfl | rfl | rfl | rfl | rfl
      · exact c0 (i0.mpr q)
      · exact c1 (i1.mpr q)
      · exact c2 (i2.mpr q)
      · exact c3 (i3.mpr q)
      · exact c4 (i4.mpr q)
      · exact c5 (i5.mpr q)
      · exact c6 (i6.mpr q)
      · exact c7 (i7.mpr q)
      · exact c8 (i8.mpr q)
      · exact c9 (i9.mpr q)
      · exact c10 (i10.mpr q)
    exact f72 (d := d + 52) (w := 2) hR (k_91_109 (Or.inl rfl) (w _ 0 _ _ (Or.inr (Or.inr (Or.inr (Or.inr (Or.inr (Or.inr (Or.inr (Or.inr (Or.inr (Or.inr (Or.inr ⟨hno, rfl⟩))))))))))) (CO.ft rfl) ((CF.rf.u (by decide)).u (by decide))))
end VCQ
