/-! ===== village: the reference reads a line: which one ===== -/
section VPW
variable {d : Nat} {Q : am_Q} {hi hi' : Nat → Nat → Int32} {hl hl' : Nat → Nat → Int64} {sw : Bool} {kp : Nat → Nat} {n a : Nat} {f : Nat → Int32} {D : Dr}
theorem RF.t2 {hj : Nat → Nat → Int32} {hm : Nat → Nat → Int64} (h : RF hi' hi hl' hl) (e : RF hj hi' hm hl') : RF hj hi hm hl := h.tr e
/-- the words behind the i-th are none of these -/
theorem OW_no {i : Nat} (hi21 : i < 21) {t : Tk} (h : isW t i) : ∀ j, j < 21 → j ≠ i → ¬ isW t j := fun j hj hne => OW_ne hi21 hj (fun z => hne z.symm) h
theorem f203 {o : Out Dr} (hS : RST n f D a hi hl) (hW : DW D) (hU : DPu D) (hL : LN (byt n f) D a o) (w : ∀ (hi' : Nat → Nat → Int32) (hl' : Nat → Nat → Int64), RO n f o hi' hl' → RF hi' hi hl' hl → Q none (mkH hi' hl' sw kp)) : cS (d + 7) 203 [.ref 279] (mkH hi hl sw kp) Q := by
  have hM := hS.1
  have hI := hS.2.1
  have g : ∀ i, i < 21 → isW (tk (byt n f) a) i → ¬ g_172 hi hl (lN (w8 (OW i))) = 0 := fun i h q => (hM.wd h).mpr q
  have c3 : ∀ {o : Out Dr} (hi1 : Nat → Nat → Int32) (hl1 : Nat → Nat → Int64), (∀ (hi' : Nat → Nat → Int32) (hl' : Nat → Nat → Int64), RO n f o hi' hl' → RF hi' hi hl' hl → Q none (mkH hi' hl' sw kp)) → RQ n f o hi1 hl1 → RF hi1 hi hl1 hl → cW cd_203 (d + 6) Q 343 [some (.ref 279)] [] (mkH hi1 hl1 sw kp) := fun hi1 hl1 w' r1 r2 => c203 (d := d + 4) r1 (fun hi' hl' r3 r4 => w' hi' hl' r3 (r2.tr r4))
  refine e_203 (d := d + 6) ?_
  -- nothing behind a word whose line may not stand
  have b10 : (∀ j, 10 ≤ j → j ≤ 10 → ¬ isW (tk (byt n f) a) j) → o = flt (byt n f) 2 a → ST2 (d + 6) Q hi hl sw kp 305 1685217655 := fun h E => ps10 (d := d + 4) hM (h 10 (by decide) (by decide)) E w
  have b9 : (∀ j, 9 ≤ j → j ≤ 10 → ¬ isW (tk (byt n f) a) j) → o = flt (byt n f) 2 a → ST2 (d + 6) Q hi hl sw kp 266 6383461 := fun h E => ps9 (d := d + 5) hM (h 9 (by decide) (by decide)) (b10 (fun j j1 j2 => h j (by omega) j2) E)
  have b8 : (∀ j, 8 ≤ j → j ≤ 10 → ¬ isW (tk (byt n f) a) j) → o = flt (byt n f) 2 a → ST2 (d + 6) Q hi hl sw kp 242 495873782388 := fun h E => ps8 (d := d + 5) hM (h 8 (by decide) (by decide)) (b9 (fun j j1 j2 => h j (by omega) j2) E)
  have b7 : (∀ j, 7 ≤ j → j ≤ 10 → ¬ isW (tk (byt n f) a) j) → o = flt (byt n f) 2 a → ST2 (d + 6) Q hi hl sw kp 203 448377483891 := fun h E => ps7 (d := d + 5) hM (h 7 (by decide) (by decide)) (b8 (fun j j1 j2 => h j (by omega) j2) E)
  have b6 : (∀ j, 6 ≤ j → j ≤ 10 → ¬ isW (tk (byt n f) a) j) → o = flt (byt n f) 2 a → ST2 (d + 6) Q hi hl sw kp 164 6578553 := fun h E => ps6 (d := d + 5) hM (h 6 (by decide) (by decide)) (b7 (fun j j1 j2 => h j (by omega) j2) E)
  have b5 : (∀ j, 5 ≤ j → j ≤ 10 → ¬ isW (tk (byt n f) a) j) → o = flt (byt n f) 2 a → ST2 (d + 6) Q hi hl sw kp 135 1886743660 := fun h E => ps5 (d := d + 5) hM (h 5 (by decide) (by decide)) (b6 (fun j j1 j2 => h j (by omega) j2) E)
  have b4 : (∀ j, 4 ≤ j → j ≤ 10 → ¬ isW (tk (byt n f) a) j) → o = flt (byt n f) 2 a → ST2 (d + 6) Q hi hl sw kp 109 2003330414 := fun h E => ps4 (d := d + 5) hM (h 4 (by decide) (by decide)) (b5 (fun j j1 j2 => h j (by omega) j2) E)
  have b3 : (∀ j, 3 ≤ j → j ≤ 10 → ¬ isW (tk (byt n f) a) j) → o = flt (byt n f) 2 a → ST2 (d + 6) Q hi hl sw kp 84 1667330917 := fun h E => ps3 (d := d + 5) hM (h 3 (by decide) (by decide)) (b4 (fun j j1 j2 => h j (by omega) j2) E)
  have b2 : (∀ j, 2 ≤ j → j ≤ 10 → ¬ isW (tk (byt n f) a) j) → o = flt (byt n f) 2 a → ST2 (d + 6) Q hi hl sw kp 58 1885434984 := fun h E => ps2 (d := d + 5) hM (h 2 (by decide) (by decide)) (b3 (fun j j1 j2 => h j (by omega) j2) E)
  have b1 : (∀ j, 1 ≤ j → j ≤ 10 → ¬ isW (tk (byt n f) a) j) → o = flt (byt n f) 2 a → ST2 (d + 6) Q hi hl sw kp 32 482854658917 := fun h E => ps1 (d := d + 5) hM (h 1 (by decide) (by decide)) (b2 (fun j j1 j2 => h j (by omega) j2) E)
  have b0 : (∀ j, 0 ≤ j → j ≤ 10 → ¬ isW (tk (byt n f) a) j) → o = flt (byt n f) 2 a → ST2 (d + 6) Q hi hl sw kp 7 1684366692 := fun h E => ps0 (d := d + 5) hM (h 0 (by decide) (by decide)) (b1 (fun j j1 j2 => h j (by omega) j2) E)
  -- up to the i-th word
  have u1 : (∀ j, j < 1 → ¬ isW (tk (byt n f) a) j) → ST2 (d + 6) Q hi hl sw kp 32 482854658917 → ST2 (d + 6) Q hi hl sw kp 7 1684366692 := fun h s => ps0 (d := d + 5) hM (h 0 (by decide)) s
  have u2' : (∀ j, j < 2 → ¬ isW (tk (byt n f) a) j) → ST2 (d + 6) Q hi hl sw kp 58 1885434984 → ST2 (d + 6) Q hi hl sw kp 7 1684366692 := fun h s => u1 (fun j hj => h j (by omega)) (ps1 (d := d + 5) hM (h 1 (by decide)) s)
  have u3 : (∀ j, j < 3 → ¬ isW (tk (byt n f) a) j) → ST2 (d + 6) Q hi hl sw kp 84 1667330917 → ST2 (d + 6) Q hi hl sw kp 7 1684366692 := fun h s => u2' (fun j hj => h j (by omega)) (ps2 (d := d + 5) hM (h 2 (by decide)) s)
  have u4 : (∀ j, j < 4 → ¬ isW (tk (byt n f) a) j) → ST2 (d + 6) Q hi hl sw kp 109 2003330414 → ST2 (d + 6) Q hi hl sw kp 7 1684366692 := fun h s => u3 (fun j hj => h j (by omega)) (ps3 (d := d + 5) hM (h 3 (by decide)) s)
  have u5 : (∀ j, j < 5 → ¬ isW (tk (byt n f) a) j) → ST2 (d + 6) Q hi hl sw kp 135 1886743660 → ST2 (d + 6) Q hi hl sw kp 7 1684366692 := fun h s => u4 (fun j hj => h j (by omega)) (ps4 (d := d + 5) hM (h 4 (by decide)) s)
  have u6 : (∀ j, j < 6 → ¬ isW (tk (byt n f) a) j) → ST2 (d + 6) Q hi hl sw kp 164 6578553 → ST2 (d + 6) Q hi hl sw kp 7 1684366692 := fun h s => u5 (fun j hj => h j (by omega)) (ps5 (d := d + 5) hM (h 5 (by decide)) s)
  have u7 : (∀ j, j < 7 → ¬ isW (tk (byt n f) a) j) → ST2 (d + 6) Q hi hl sw kp 203 448377483891 → ST2 (d + 6) Q hi hl sw kp 7 1684366692 := fun h s => u6 (fun j hj => h j (by omega)) (ps6 (d := d + 5) hM (h 6 (by decide)) s)
  have u8 : (∀ j, j < 8 → ¬ isW (tk (byt n f) a) j) → ST2 (d + 6) Q hi hl sw kp 242 495873782388 → ST2 (d + 6) Q hi hl sw kp 7 1684366692 := fun h s => u7 (fun j hj => h j (by omega)) (ps7 (d := d + 5) hM (h 7 (by decide)) s)
  have u9 : (∀ j, j < 9 → ¬ isW (tk (byt n f) a) j) → ST2 (d + 6) Q hi hl sw kp 266 6383461 → ST2 (d + 6) Q hi hl sw kp 7 1684366692 := fun h s => u8 (fun j hj => h j (by omega)) (ps8 (d := d + 5) hM (h 8 (by decide)) s)
  have u10 : (∀ j, j < 10 → ¬ isW (tk (byt n f) a) j) → ST2 (d + 6) Q hi hl sw kp 305 1685217655 → ST2 (d + 6) Q hi hl sw kp 7 1684366692 := fun h s => u9 (fun j hj => h j (by omega)) (ps9 (d := d + 5) hM (h 9 (by decide)) s)
  have hW0 := hW.1
  have fl : ∀ i, 5 ≤ i → i ≤ 10 → (hi 279 (47 + i) = 0 ↔ (dom D).testBit i = false) := fun i h5 h10 => by
    rw [hI.2.2.2.2.1 i h5 h10]
    unfold onv
    cases hb : (dom D).testBit i
    · rw [if_neg (by decide)]
      exact ⟨fun _ => rfl, fun _ => rfl⟩
    · rw [if_pos rfl]
      exact ⟨fun z => absurd z (by decide), fun z => by cases z⟩
  have tr : ∀ {b : Bool}, ¬ b = false → b = true := fun {b} h => by
    cases b
    · exact absurd rfl h
    · rfl
  rcases hL with ⟨q, E⟩ | ⟨q, E⟩ | ⟨q, E⟩ | ⟨q, E⟩ | ⟨q, E⟩ | ⟨q, E⟩ | ⟨q, E⟩ | ⟨q, E⟩ | ⟨q, E⟩ | ⟨q, E⟩ | ⟨q, E⟩ | ⟨q, E⟩
  · have no := OW_no (by decide) q
    have i35 : (4 : Int32) ≤ hi 279 35 ↔ 4 ≤ dD D := by rw [hI.1.1]; exact nI_leI (a := 4) (by decide) (by omega)
    refine s_172 (d := d + 5) (k_203_7 (fun z => absurd z (g 0 (by decide) q)) (fun _ z => b1 (fun j j1 j2 => no j (by omega) (by omega)) (E.trans (cI_0 (by have := i35.mp z; omega)))) (fun _ z => f197 (d := d) hS q hW (Nat.lt_of_not_le (fun y => z (i35.mpr y))) (fun hi1 hl1 r1 r2 => k_203_22 (c3 hi1 hl1 w (by rw [E]; exact r1) r2))))
  · have no := OW_no (by decide) q
    have i36 : (8 : Int32) ≤ hi 279 36 ↔ 8 ≤ dP D := by rw [hI.1.2.1]; exact nI_leI (a := 8) (by decide) (by omega)
    refine u1 (fun j hj => no j (by omega) (by omega)) (s_172 (d := d + 5) (k_203_32 (fun z => absurd z (g 1 (by decide) q)) (fun _ z => b2 (fun j j1 j2 => no j (by omega) (by omega)) (E.trans (cI_0 (by have := i36.mp z; omega)))) (fun _ z => f198 (d := d) hS q hW (Nat.lt_of_not_le (fun y => z (i36.mpr y))) (fun hi1 hl1 r1 r2 => k_203_48 (c3 hi1 hl1 w (by rw [E]; exact r1) r2)))))
  · have no := OW_no (by decide) q
    have i37 : (16 : Int32) ≤ hi 279 37 ↔ 16 ≤ dT D := by rw [hI.1.2.2.1]; exact nI_leI (a := 16) (by decide) (by omega)
    refine u2' (fun j hj => no j (by omega) (by omega)) (s_172 (d := d + 5) (k_203_58 (fun z => absurd z (g 2 (by decide) q)) (fun _ z => b3 (fun j j1 j2 => no j (by omega) (by omega)) (E.trans (cI_0 (by have := i37.mp z; omega)))) (fun _ z => f199 (d := d + 1) hS q hW (Nat.lt_of_not_le (fun y => z (i37.mpr y))) (fun hi1 hl1 r1 r2 => k_203_74 (c3 hi1 hl1 w (by rw [E]; exact r1) r2)))))
  · have no := OW_no (by decide) q
    have i38 : (4 : Int32) ≤ hi 279 38 ↔ 4 ≤ dC D := by rw [hI.1.2.2.2.1]; exact nI_leI (a := 4) (by decide) (by omega)
    refine u3 (fun j hj => no j (by omega) (by omega)) (s_172 (d := d + 5) (k_203_84 (fun z => absurd z (g 3 (by decide) q)) (fun _ z => b4 (fun j j1 j2 => no j (by omega) (by omega)) (E.trans (cI_0 (by have := i38.mp z; omega)))) (fun _ z => f200 (d := d) hS q hW (Nat.lt_of_not_le (fun y => z (i38.mpr y))) (fun hi1 hl1 r1 r2 => k_203_99 (c3 hi1 hl1 w (by rw [E]; exact r1) r2)))))
  · have no := OW_no (by decide) q
    have hb16 := bc_le (dtm D) 16
    have i39 : (16 : Int32) ≤ hi 279 39 ↔ 16 ≤ bc (dtm D) 16 := by rw [hI.1.2.2.2.2.1]; exact nI_leI (a := 16) (by decide) (by omega)
    refine u4 (fun j hj => no j (by omega) (by omega)) (s_172 (d := d + 5) (k_203_109 (fun z => absurd z (g 4 (by decide) q)) (fun _ z => b5 (fun j j1 j2 => no j (by omega) (by omega)) (E.trans (cI_0 (by have := i39.mp z; omega)))) (fun _ z => f201 (d := d + 1) hS q hW (Nat.lt_of_not_le (fun y => z (i39.mpr y))) (fun hi1 hl1 r1 r2 => k_203_125 (c3 hi1 hl1 w (by rw [E]; exact r1) r2)))))
  · have no := OW_no (by decide) q
    have fl5 : hi 279 52 = 0 ↔ (dom D).testBit 5 = false := fl 5 (by decide) (by decide)
    refine u5 (fun j hj => no j (by omega) (by omega)) (s_172 (d := d + 5) (k_203_135 (fun z => absurd z (g 5 (by decide) q)) (fun _ z => ?_) (fun _ z => ?_)))
    · have hb := fl5.mp z
      rcases E with ⟨e1, _⟩ | ⟨_, po, hP, E⟩
      · rw [hb] at e1
        cases e1
      · have h0 := hU hb
        have e20 : hi 279 20 = 0 := by
          rw [hI.2.2.2.2.2.2.1, h0.2]
          rfl
        refine f193 (d := d + 1) (hM.u (by omega)) (by rw [q.1]; decide) (by rw [u2_nn (by omega)]; exact e20) hP (fun P' U' a' hi1 hl1 r1 r2 r3 r4 => k_203_154 (c3 hi1 hl1 w (Or.inl ⟨aPull D P' U', a', ?_, r2, hI.pull (fun j j1 j2 => ?_) ?_ (fun c hc => ?_) r3, fun j q => ?_, ?_⟩) ((RF.rf.u (by omega)).tr r4.rF))) (fun e hi1 hl1 r1 r2 r3 => k_203_154 (c3 hi1 hl1 w (Or.inr ⟨e, ?_, r2⟩) ((RF.rf.u (by omega)).tr r3)))
        · rw [E, r1]
          rfl
        · rw [r4.1 279 j (by omega), u2_nn (by omega)]
        · rw [r4.1 279 52 (by omega), u2_s]
        · funext j
          rw [r4.1 c j (by omega), u2_nn (by omega)]
        · rw [r4.2 281 j (by omega)]
          exact hS.2.2.1 j q
        · rw [r4.1 279 3 (by omega), u2_nn (by omega)]
          exact hS.2.2.2
        · rw [E, r1]
          rfl
    · have hb := tr (fun y => z (fl5.mpr y))
      rcases E with ⟨_, E⟩ | ⟨e1, _⟩
      · exact b6 (fun j j1 j2 => no j (by omega) (by omega)) E
      · rw [hb] at e1
        cases e1
  · have no := OW_no (by decide) q
    have f5 : hi 279 53 = 0 ↔ (dom D).testBit 6 = false := fl 6 (by decide) (by decide)
    refine u6 (fun j hj => no j (by omega) (by omega)) (s_172 (d := d + 5) (k_203_164 (fun z => absurd z (g 6 (by decide) q)) (fun _ z => nl203 (d := d) (i := 6) (k := 4) (lo := 1) (up := 24) (by decide) (by decide) (by decide) hS q (f5.mp z) (fun s1 hi1 hl1 r => k_203_190 r) (fun hi' hl' r1 r2 => w hi' hl' (by rw [E]; exact r1) r2)) (fun _ z => b7 (fun j j1 j2 => no j (by omega) (by omega)) (E.trans (cI_0 (fun y => z (f5.mpr y)))))))
  · have no := OW_no (by decide) q
    have f5 : hi 279 54 = 0 ↔ (dom D).testBit 7 = false := fl 7 (by decide) (by decide)
    refine u7 (fun j hj => no j (by omega) (by omega)) (s_172 (d := d + 5) (k_203_203 (fun z => absurd z (g 7 (by decide) q)) (fun _ z => nl203 (d := d) (i := 7) (k := 5) (lo := 1) (up := 24) (by decide) (by decide) (by decide) hS q (f5.mp z) (fun s1 hi1 hl1 r => k_203_229 r) (fun hi' hl' r1 r2 => w hi' hl' (by rw [E]; exact r1) r2)) (fun _ z => b8 (fun j j1 j2 => no j (by omega) (by omega)) (E.trans (cI_0 (fun y => z (f5.mpr y)))))))
  · have no := OW_no (by decide) q
    have f5 : hi 279 55 = 0 ↔ (dom D).testBit 8 = false := fl 8 (by decide) (by decide)
    refine u8 (fun j hj => no j (by omega) (by omega)) (s_172 (d := d + 5) (k_203_242 (fun z => absurd z (g 8 (by decide) q)) (fun _ z => f202 (d := d + 1) hS q hW (f5.mp z) (fun hi1 hl1 r1 r2 => k_203_256 (c3 hi1 hl1 w (by rw [E]; exact r1) r2))) (fun _ z => b9 (fun j j1 j2 => no j (by omega) (by omega)) (E.trans (cI_0 (fun y => z (f5.mpr y)))))))
  · have no := OW_no (by decide) q
    have f5 : hi 279 56 = 0 ↔ (dom D).testBit 9 = false := fl 9 (by decide) (by decide)
    refine u9 (fun j hj => no j (by omega) (by omega)) (s_172 (d := d + 5) (k_203_266 (fun z => absurd z (g 9 (by decide) q)) (fun _ z => nl203 (d := d) (i := 9) (k := 7) (lo := 0) (up := 99) (by decide) (by decide) (by decide) hS q (f5.mp z) (fun s1 hi1 hl1 r => k_203_292 r) (fun hi' hl' r1 r2 => w hi' hl' (by rw [E]; exact r1) r2)) (fun _ z => b10 (fun j j1 j2 => no j (by omega) (by omega)) (E.trans (cI_0 (fun y => z (f5.mpr y)))))))
  · have no := OW_no (by decide) q
    have f5 : hi 279 57 = 0 ↔ (dom D).testBit 10 = false := fl 10 (by decide) (by decide)
    refine u10 (fun j hj => no j (by omega) (by omega)) (s_172 (d := d + 5) (k_203_305 (fun z => absurd z (g 10 (by decide) q)) (fun _ z => nl203 (d := d) (i := 10) (k := 8) (lo := 0) (up := 999) (by decide) (by decide) (by decide) hS q (f5.mp z) (fun s1 hi1 hl1 r => k_203_332 r) (fun hi' hl' r1 r2 => w hi' hl' (by rw [E]; exact r1) r2)) (fun _ z => no203 (d := d + 4) hM (E.trans (cI_0 (fun y => z (f5.mpr y)))) w)))
  · exact b0 (fun j j1 j2 => q j j2) E
end VPW
