/-! ===== operations: best, least ===== -/
section OPSG
variable {d : Nat} {Q : am_Q} {X hi : Nat → Nat → Int32} {hl hl0 : Nat → Nat → Int64} {sw : Bool} {kp : Nat → Nat} {V : vN} {c n M B H D0 : Nat} {bo : Nat → Nat} {F : List Nat → Nat} {s : Bst}
/-- only what lies there has changed -/
theorem Rel.lie {hi' hi : Nat → Nat → Int32} {hl' hl : Nat → Nat → Int64} {sw sw' : Bool} {kp : Nat → Nat} (h : Rel hi hl sw kp) (e : ∀ a j, (NS a j ∨ ND a j) → ¬ (a = 0 ∧ j = 13) → ¬ (a = 279 ∧ j = 75) → a ≠ 278 → a ≠ 310 → hi' a j = hi a j) (el : hl' 4 = hl 4) (hlie : R_lie hi') : Rel hi' hl' sw' kp := by
  obtain ⟨V, st, dy⟩ := h.sp
  have st2 : Rst V (u2 (u2 (uR (uR hi' 278 (hi 278)) 310 (hi 310)) 0 13 (hi 0 13)) 279 75 (hi 279 75)) hl' := st.fr (fun a j q => by
    by_cases a1 : a = 279 ∧ j = 75
    · rw [a1.1, a1.2, u2_s]
    · rw [u2_nn a1]
      by_cases a2 : a = 0 ∧ j = 13
      · rw [a2.1, a2.2, u2_s]
      · rw [u2_nn a2]
        by_cases a3 : a = 310
        · rw [a3, uR_s]
        · rw [uR_ne a3]
          by_cases a4 : a = 278
          · rw [a4, uR_s]
          · rw [uR_ne a4]
            exact e a j (Or.inl q) a2 a1 a4 a3) el
  refine Rel.jn (V := V) ⟨st2.1, st2.2.1, hlie, st2.2.2.2.1, st2.2.2.2.2.1, st2.2.2.2.2.2.1, st2.2.2.2.2.2.2⟩ (dy.fr (fun a j q => e a j (Or.inr q) (by unfold ND at q; omega) (by unfold ND at q; omega) (by unfold ND at q; omega) (by unfold ND at q; omega)) ?_)
  funext j
  exact e 23 j (Or.inl (by unfold NS; omega)) (by omega) (by omega) (by decide) (by decide)
theorem rgN {x : Int32} {a b : Nat} (hb : b < 2 ^ 31) (ha : a < 2 ^ 31) (h : ¬ g_158 x (nI a) (nI b) = 0) : ∃ m : Nat, a ≤ m ∧ m ≤ b ∧ x = nI m := by
  obtain ⟨q1, q2⟩ := g158_n h
  have q0 : ¬ x < 0 := fun z => q1 (Int32.lt_of_lt_of_le z (by
    rw [show (0 : Int32) = nI 0 from rfl]
    exact nI_le (Nat.zero_le a) ha))
  obtain ⟨m, hm, rfl⟩ := nI_of q0
  refine ⟨m, ?_, ?_, rfl⟩
  · rcases Nat.lt_or_ge m a with z | z
    · exact absurd (nI_lt z ha) q1
    · exact z
  · rcases Nat.lt_or_ge b m with z | z
    · exact absurd (nI_lt z hm) q2
    · exact z
/-- the frame of a laying: from hi (Rel) to the heap behind it -/
theorem LX.fr {X1 X : Nat → Nat → Int32} (e : ∀ a j, a ≠ 264 → X1 a j = X a j) (h : LX V X c n M B H D0 bo) : LX V X1 c n M B H D0 bo := by
  obtain ⟨hv, ⟨n1, n2, n3, n4, n5, n6, n7⟩, hc, ⟨c1, c2, c3, c4⟩, hn, hM, hdg, d1, hB⟩ := h
  have g84 : g_84 X1 = g_84 X := by
    unfold g_84
    rw [e 28 0 (by decide)]
  refine ⟨hv.fw (fun a j q => e a j (by unfold NV at q; omega)), ⟨n1, ?_, ?_, ?_, fun t ht => ?_, ?_, ?_⟩, hc, ⟨?_, ?_, ?_, ?_⟩, hn, hM, ?_, by rw [g84]; exact d1, hB⟩
  · rw [e 28 1 (by decide)]; exact n2
  · rw [e 299 17 (by decide)]; exact n3
  · rw [e 299 18 (by decide)]; exact n4
  · rw [e 29 t (by decide), e 299 t (by decide)]; exact n5 t ht
  · rw [e 299 16 (by decide), e 28 0 (by decide)]; exact n6
  · rw [e 28 0 (by decide)]; exact n7
  · rw [e 299 _ (by decide), e 30 _ (by decide)]; exact c1
  · rw [e 299 _ (by decide), e 31 _ (by decide)]; exact c2
  · rw [e 31 _ (by decide)]; exact c3
  · rw [e 31 _ (by decide), e 23 _ (by decide), e 30 _ (by decide)]; exact c4
  · unfold DG at hdg ⊢
    rw [e 28 0 (by decide)]
    exact hdg
/-- what the class's laying leaves alone -/
theorem LI.fr2 {hT : Nat} {hi0 X1 hi' : Nat → Nat → Int32} (fr : ∀ a j, a ≠ 264 → X1 a j = hi0 a j) (h : LI V X1 c n hT B M H bo hi') : ∀ a j, LFr a → hi' a j = hi0 a j := fun a j q => (h.1 a j q).trans (fr a j (by unfold LFr at q; omega))
theorem rz_id : rz X (X 308) (X 309) = X := by
  show uR (uR X 308 (X 308)) 309 (X 309) = X
  rw [uR_id, uR_id]
theorem f253 {P : Nat} (hP : P ≤ 8) (e46 : hi 279 46 = nI P) (w' : ∀ y : Nat → Int32, (∀ j, j < P → y j = hi 309 j) → Q none (mkH (u2 (uR hi 310 y) 279 75 (nI P)) hl sw kp)) : cS (d + 1) 253 [.ref 279] (mkH hi hl sw kp) Q := by
  refine e_253 (cW.hi (hi := uR hi 310 (hi 310)) uR_id.symm (lpu (σ := Nat → Int32) P (fun i y => cW cd_253 d Q 2 [some (.ref 279), some (.int (nI i))] [] (mkH (uR hi 310 y) hl sw kp)) (fun i y => ∀ j, j < i → y j = hi 309 j) ?_ ?_ P 0 (hi 310) (Nat.zero_add P) (fun j hj => absurd hj (Nat.not_lt_zero j))))
  · intro y hy
    have e : (uR hi 310 y) 279 46 = nI P := by rw [uR_ne (by decide)]; exact e46
    have hle : (uR hi 310 y) 279 46 ≤ nI P := by rw [e]; exact Int32.le_refl _
    refine k_253_2 (fun _ => ?_) (fun c => absurd hle c) (fun c => absurd hle c)
    rw [e]
    exact w' y hy
  · intro i y hiP hy ih
    have e : (uR hi 310 y) 279 46 = nI P := by rw [uR_ne (by decide)]; exact e46
    refine k_253_2 (fun c => absurd c (by rw [e]; exact nI_ge hiP (by omega))) (fun _ => vp_in_nI (by omega) (by decide)) (fun _ => ?_)
    rw [nI_clamp (by omega), nI_1, uR_ne (by decide)]
    refine cW.hi u2_in (ih _ (fun j hj => ?_))
    by_cases hji : j = i
    · subst hji; exact up1_s
    · rw [up1_n hji]; exact hy j (by omega)
theorem lg0 {v : Nat} (h : v < 2 ^ 63) : ¬ lg_cmp (lN v) 0 < 0 := by
  unfold lg_cmp
  by_cases h1 : lN v > 0
  · rw [if_pos h1]; decide
  · rw [if_neg h1]
    have h2 : lN v = 0 := by
      rcases Nat.eq_zero_or_pos v with z | z
      · rw [z]; rfl
      · exact absurd (show (0 : Int64) < lN v from (pk_lLT (a := 0) (b := v) (by decide) h).mpr z) h1
    rw [if_pos h2]; decide
/-- what lies there, both, once the best is put there -/
theorem lie_new {hiC : Nat → Nat → Int32} {P : Nat} {l : List Nat} {b y : Nat → Int32} {h a : Int32} {bn g f r2 w r : Nat → Int32} (hP : P ≤ 8) (e265 : ∀ j, j < 8 → hiC 265 j = nI (rwf l j)) (hb : ∀ j, j < 8 → b j = nI (rwf l j)) (hy : ∀ j, j < P → y j = (rx (rz (u2 (u2 (uR hiC 278 (va_cpy (hiC 265) (hiC 278) 0 0 8)) 0 13 (nI P)) 279 75 (0 : Int32)) r b) h a bn g f r2 w) 309 j) : R_lie (u2 (uR (rx (rz (u2 (u2 (uR hiC 278 (va_cpy (hiC 265) (hiC 278) 0 0 8)) 0 13 (nI P)) 279 75 (0 : Int32)) r b) h a bn g f r2 w) 310 y) 279 75 (nI P)) := by
  refine ⟨P, hP, rfl, u2_s, fun j hj => ?_⟩
  have e1 : (u2 (uR (rx (rz (u2 (u2 (uR hiC 278 (va_cpy (hiC 265) (hiC 278) 0 0 8)) 0 13 (nI P)) 279 75 (0 : Int32)) r b) h a bn g f r2 w) 310 y) 279 75 (nI P)) 310 j = y j := by
    rw [u2_row_ne (by decide), uR_s]
  have e2 : (u2 (uR (rx (rz (u2 (u2 (uR hiC 278 (va_cpy (hiC 265) (hiC 278) 0 0 8)) 0 13 (nI P)) 279 75 (0 : Int32)) r b) h a bn g f r2 w) 310 y) 279 75 (nI P)) 278 j = nI (rwf l j) := by
    rw [u2_row_ne (by decide), uR_ne (by decide), rx_UR (by unfold UR; omega)]
    show uR (uR (u2 (u2 (uR hiC 278 (va_cpy (hiC 265) (hiC 278) 0 0 8)) 0 13 (nI P)) 279 75 (0 : Int32)) 308 r) 309 b 278 j = _
    rw [uR_ne (by decide), uR_ne (by decide), u2_row_ne (by decide), u2_row_ne (by decide), uR_s, va_cpy0 (by omega)]
    exact e265 j (by omega)
  rw [e1, e2, hy j hj, rx_UR (by unfold UR; omega)]
  show _ = uR _ 309 b 309 j
  rw [uR_s]
  exact (hb j (by omega)).symm
theorem op_best (a1 a2 a3 a4 : Int32) : OpJ Rel (d + 18) 140 254 [.int a1, .int a2, .int a3, .int a4] := by
  intro hi hl sw kp Q hR k
  obtain ⟨V, st, hk, hs, ha, hx⟩ := hR.sp
  have hv := st.2.2.2.2.2.1
  have hpu := st.2.2.2.2.2.2
  have hb8 := hv.1
  have rel0 : Rel (u2 (u2 hi 0 13 0) 279 75 0) hl sw kp := hR.lie (fun a j q b1 b2 b3 b4 => by rw [u2_nn b2, u2_nn b1]) rfl ⟨0, by decide, rfl, u2_s, fun j hj => absurd hj (Nat.not_lt_zero j)⟩
  by_cases cA : g_109 hi a1 = 0
  · have cA' : g_209 hi a1 = 0 := (cas_eq hv a1).trans cA
    exact e_140 (fun _ => k (-1) _ hl sw kp (fun Q2 k2 => e_254 (fun _ => k2 _ hl sw kp rel0) (fun c => absurd cA' c) (fun c => absurd cA' c) (fun c => absurd cA' c) (fun c => absurd cA' c))) (fun c => absurd cA c) (fun c => absurd cA c) (fun c => absurd cA c) (fun c => absurd cA c)
  · have cA' : ¬ g_209 hi a1 = 0 := fun z => cA ((cas_eq hv a1).symm.trans z)
    by_cases cB : g_158 a2 (1 : Int32) (6 : Int32) = 0
    · exact e_140 (fun c => absurd c cA) (fun _ _ => k (-1) _ hl sw kp (fun Q2 k2 => e_254 (fun c => absurd c cA') (fun _ _ => k2 _ hl sw kp rel0) (fun _ c => absurd cB c) (fun _ c => absurd cB c) (fun _ c => absurd cB c))) (fun _ c => absurd cB c) (fun _ c => absurd cB c) (fun _ c => absurd cB c)
    · by_cases cC : g_158 a3 (0 : Int32) (4 : Int32) = 0
      · exact e_140 (fun c => absurd c cA) (fun _ c => absurd c cB) (fun _ _ _ => k (-1) _ hl sw kp (fun Q2 k2 => e_254 (fun c => absurd c cA') (fun _ c => absurd c cB) (fun _ _ _ => k2 _ hl sw kp rel0) (fun _ _ c => absurd cC c) (fun _ _ c => absurd cC c))) (fun _ _ c => absurd cC c) (fun _ _ c => absurd cC c)
      · by_cases cD : g_158 a4 (0 : Int32) (1 : Int32) = 0
        · exact e_140 (fun c => absurd c cA) (fun _ c => absurd c cB) (fun _ _ c => absurd c cC) (fun _ _ _ _ => k (-1) _ hl sw kp (fun Q2 k2 => e_254 (fun c => absurd c cA') (fun _ c => absurd c cB) (fun _ _ c => absurd c cC) (fun _ _ _ _ => k2 _ hl sw kp rel0) (fun _ _ _ c => absurd cD c))) (fun _ _ _ c => absurd cD c)
        · rcases cas hv a1 with ⟨c, hc, rfl, q1, q2⟩ | ⟨-, q1, -⟩
          · obtain ⟨n, hn1, hn6, rfl⟩ := rgN (a := 1) (b := 6) (by decide) (by decide) cB
            obtain ⟨m, -, hm4, rfl⟩ := rgN (a := 0) (b := 4) (by decide) (by decide) cC
            obtain ⟨H, bo, hsn⟩ := SN.of hs
            obtain ⟨n1, n2, n3, n4, n5, n6, n7⟩ := id hsn
            obtain ⟨D0, B, hdg, d1, d2⟩ := DG.of hv hsn
            have hcs := CSE.of hv hs hc
            have h60 := p60 (n := n) (by omega)
            have hpos : 0 < 60 ^ n := Nat.pow_pos (by decide)
            have hx3 : (D0 < vP V ∧ hi 299 16 = nI D0) ∨ (vP V = 0 ∧ hi 299 16 = -1 ∧ D0 = 8) := by
              rcases hdg with ⟨h1, h2, -⟩ | ⟨h1, h2, h3, -⟩
              · exact Or.inl ⟨h1, n6.trans h2⟩
              · exact Or.inr ⟨h1, n6.trans h2, h3⟩
            refine e_140 (fun c => absurd c cA) (fun _ c => absurd c cB) (fun _ _ c => absurd c cC) (fun _ _ _ c => absurd c cD) (fun _ _ _ _ => ?_)
            refine f16 (d := d + 11) (V := V) (X := u2 hi 0 13 0) (B := B) (H := H) (bo := bo) hv hpu hsn hc (by omega) hm4 d1 d2 (fun X1 hi1 fr1 li1 _ => k_140_59 ?_)
            have lx0 : LX V (u2 hi 0 13 0) c n m B H D0 bo := ⟨hv, hsn, hc, hcs, by omega, hm4, hdg, d1, d2⟩
            have lx1 := lx0.fr fr1
            refine f18 (d := d) (hl0 := hl) (F := fun l => wp V X1 (fun t => bo t + rwf l t) H c n D0) rfl lx1 (Nat.le_refl m) li1 (fun _ _ _ _ => rfl) (fun hi2 hl2 sw2 li2 ll2 sc2 => ?_)
            have fr2 := LI.fr2 fr1 li2
            have l4 : hl2 4 = hl 4 := ll2 4 (by decide) (by decide) (by decide)
            obtain ⟨S, eS⟩ : ∃ S, S = fbs (fun l => wp V X1 (fun t => bo t + rwf l t) H c n D0) bo (vP V) none (cmps (vP V) m) := ⟨_, rfl⟩
            rw [← eS] at sc2 ⊢
            have eF : ∀ Y : Nat → Nat → Int32, (∀ a j, NQ a j → Y a j = hi a j) → fbs (fun l => wp V Y (fun t => bo t + rwf l t) H c n D0) bo (vP V) none (cmps (vP V) m) = S := fun Y hY => by
              have : (fun l => wp V Y (fun t => bo t + rwf l t) H c n D0) = (fun l => wp V X1 (fun t => bo t + rwf l t) H c n D0) := funext (fun l => wp_fr (fun a j q => by
                rw [hY a j q, fr1 a j (by unfold NQ at q; omega), u2_row_ne (by unfold NQ at q; omega)]))
              rw [eS, this]
            have hSv : BV S := by
              rw [eS]
              exact fbs_bv (fun l => wp_2 (by omega) lx1.dg) _ _ (fun v l e => by simp at e)
            -- the reference's run behind a class's heap
            have ref : ∀ (hiC : Nat → Nat → Int32) (Q2 : am_Q), (∀ a j, LFr a → a ≠ 278 → ¬ (a = 0 ∧ j = 13) → hiC a j = hi a j) → (∀ (r b : Nat → Int32) (h a : Int32) (bn g f r2 w : Nat → Int32) (x y : Nat → Int64), BR S b → cW cd_254 (d + 17) Q2 53 [some (.ref 279), some (.int (nI c)), some (.int (nI n)), some (.int (nI m)), some (.int a4), none, none] [(.long (bvl S))] (mkH (rx (rz (u2 hiC 279 75 0) r b) h a bn g f r2 w) (lz2 hl2 x y) sw2 kp)) → cS (d + 18) 254 [.ref 279, .int (nI c), .int (nI n), .int (nI m), .int a4] (mkH hiC hl2 sw2 kp) Q2 := by
              intro hiC Q2 fC w2
              have fC2 : ∀ a j, LFr a → a ≠ 278 → ¬ (a = 0 ∧ j = 13) → ¬ (a = 279 ∧ j = 75) → (u2 hiC 279 75 0) a j = hi a j := fun a j h1 h2 h3 h4 => by
                rw [u2_nn h4]
                exact fC a j h1 h2 h3
              have cA2 : ¬ g_209 (u2 hiC 279 75 0) (nI c) = 0 := by
                have : g_209 (u2 hiC 279 75 0) (nI c) = g_209 hi (nI c) := by
                  unfold g_209
                  rw [fC2 279 48 (by unfold LFr; omega) (by decide) (by omega) (by omega)]
                rw [this]
                exact cA'
              have hvC : R_vil V (u2 hiC 279 75 0) := hv.fw (fun a j q => fC2 a j (by unfold NV at q; unfold LFr; omega) (by unfold NV at q; omega) (by unfold NV at q; omega) (by unfold NV at q; omega))
              have hpC : R_pul (u2 hiC 279 75 0) := hpu.fw (fun a j q => fC2 a j (by unfold LFr; omega) (by omega) (by omega) (by omega))
              have g : ∀ a j, (28 ≤ a ∧ a ≤ 31) ∨ a = 299 ∨ a = 23 → (u2 hiC 279 75 0) a j = hi a j := fun a j q => fC2 a j (by unfold LFr; omega) (by omega) (by omega) (by omega)
              have snC : SN V (u2 hiC 279 75 0) H bo := by
                refine ⟨n1, ?_, ?_, ?_, fun t ht => ?_, ?_, ?_⟩
                · rw [g 28 1 (by omega)]; exact n2
                · rw [g 299 17 (by omega)]; exact n3
                · rw [g 299 18 (by omega)]; exact n4
                · rw [g 29 t (by omega), g 299 t (by omega)]; exact n5 t ht
                · rw [g 299 16 (by omega), g 28 0 (by omega)]; exact n6
                · rw [g 28 0 (by omega)]; exact n7
              have csC : CSE V (u2 hiC 279 75 0) c := by
                obtain ⟨c1, c2, c3, c4⟩ := hcs
                refine ⟨?_, ?_, ?_, ?_⟩
                · rw [g 299 _ (by omega), g 30 _ (by omega)]; exact c1
                · rw [g 299 _ (by omega), g 31 _ (by omega)]; exact c2
                · rw [g 31 _ (by omega)]; exact c3
                · rw [g 31 _ (by omega), g 23 _ (by omega), g 30 _ (by omega)]; exact c4
              refine e_254 (fun c => absurd c cA2) (fun _ c => absurd c cB) (fun _ _ c => absurd c cC) (fun _ _ _ c => absurd c cD) (fun _ _ _ _ => ?_)
              refine cS.hi (hi := rz (u2 hiC 279 75 0) ((u2 hiC 279 75 0) 308) ((u2 hiC 279 75 0) 309)) rz_id.symm (cS.hi rx_id.symm (cS.hl lz_id.symm (f252 (d := d + 8) (V := V) (X := u2 hiC 279 75 0) (bo := bo) (H := H) (D0 := D0) rfl hvC hpC snC hc csC (by omega) hm4 (by rw [g 299 16 (by omega)]; exact hx3) (fun r b h a bn g f r2 w x y hbr => ?_) _ _ _ _ _ _ _ _ _ _ _)))
              rw [eF (u2 hiC 279 75 0) (fun a j q => fC2 a j (by unfold NQ at q; unfold LFr; omega) (by unfold NQ at q; omega) (by unfold NQ at q; omega) (by unfold NQ at q; omega))] at hbr ⊢
              exact w2 r b h a bn g f r2 w x y hbr
            have fin : ∀ (hiC Y : Nat → Nat → Int32) (r b : Nat → Int32) (h a : Int32) (bn g f r2 w : Nat → Int32) (x y : Nat → Int64), (∀ a j, LFr a → a ≠ 278 → ¬ (a = 0 ∧ j = 13) → hiC a j = hi a j) → (∀ p q, p ≠ 310 → ¬ (p = 279 ∧ q = 75) → Y p q = (rx (rz (u2 hiC 279 75 0) r b) h a bn g f r2 w) p q) → R_lie Y → Rel Y (lz2 hl2 x y) sw2 kp := by
              intro hiC Y r b h a bn g f r2 w x y fC eY lY
              refine hR.lie (fun p q z b1 b2 b3 b4 => ?_) l4 lY
              rw [eY p q b4 b2, rx_fr p q z]
              show uR (uR (u2 hiC 279 75 0) 308 r) 309 b p q = _
              have z' := z
              unfold NS ND at z'
              rw [uR_ne (by omega), uR_ne (by omega), u2_nn b2]
              exact fC p q (by unfold LFr; omega) b3 b1
            have fr0 : ∀ a j, LFr a → a ≠ 278 → ¬ (a = 0 ∧ j = 13) → hi2 a j = hi a j := fun a j h1 _ h3 => (fr2 a j h1).trans (u2_nn h3)
            cases S with
            | none =>
              refine k_140_67 (fun _ => k (-1) hi2 hl2 sw2 kp (fun Q2 k2 => ref hi2 Q2 fr0 (fun r b h a bn g f r2 w x y hbr => k_254_53 (fun c => absurd c (by decide)) (fun _ => k2 _ _ sw2 kp (fin hi2 _ r b h a bn g f r2 w x y fr0 (fun _ _ _ _ => rfl) ⟨0, by decide, ?_, ?_, fun j hj => absurd hj (Nat.not_lt_zero j)⟩))))) (fun c => absurd rfl c)
              · rw [rx_UR (by unfold UR; omega)]
                show uR (uR (u2 hi2 279 75 0) 308 r) 309 b 0 13 = _
                rw [uR_ne (by decide), uR_ne (by decide), u2_row_ne (by decide), fr2 0 13 (by unfold LFr; omega)]
                exact u2_s
              · rw [rx_UR (by unfold UR; omega)]
                show uR (uR (u2 hi2 279 75 0) 308 r) 309 b 279 75 = _
                rw [uR_ne (by decide), uR_ne (by decide)]
                exact u2_s
            | some q =>
              obtain ⟨v, l⟩ := q
              have hv2 : v < 2 ^ 62 := hSv v l rfl
              have e19 : hi2 19 1 = nI (vP V) := (fr0 19 1 (by unfold LFr; omega) (by decide) (by omega)).trans hv.2.1.2.1
              have e4 : hl2 264 4 = lN v := sc2.1
              refine k_140_67 (fun c => absurd (show (1 : Int32) = 0 from c) (by decide)) (fun _ => e_157 ?_)
              rw [e19]
              refine k_140_78 (vp_in_nI (by omega) (by decide)) ?_
              rw [nI_clamp (by omega), pw60 (by omega), e4]
              have frC : ∀ a j, LFr a → a ≠ 278 → ¬ (a = 0 ∧ j = 13) → (u2 (uR hi2 278 (va_cpy (hi2 265) (hi2 278) 0 0 8)) 0 13 (nI (vP V))) a j = hi a j := fun a j h1 h2 h3 => by
                rw [u2_nn h3, uR_ne h2]
                exact fr0 a j h1 h2 h3
              refine f160 (d := d + 15) (by omega) hpos (by omega) (k_140_95 (k _ _ hl2 sw2 kp (fun Q2 k2 => ref _ Q2 frC (fun r b h a bn g f r2 w x y hbr => k_254_53 (fun _ => ?_) (fun c => absurd (Int32.not_lt.mp (lg0 (by omega))) c)))))
              have e46 : (rx (rz (u2 (u2 (uR hi2 278 (va_cpy (hi2 265) (hi2 278) 0 0 8)) 0 13 (nI (vP V))) 279 75 0) r b) h a bn g f r2 w) 279 46 = nI (vP V) := by
                rw [rx_UR (by unfold UR; omega)]
                show uR (uR (u2 _ 279 75 0) 308 r) 309 b 279 46 = _
                rw [uR_ne (by decide), uR_ne (by decide), u2_nn (by decide), frC 279 46 (by unfold LFr; omega) (by decide) (by omega)]
                exact hv.2.2.1.2.1
              refine f253 (d := d + 16) hb8.2.1 e46 (fun y' hy' => k_254_70 (f234 (d := d + 16) (by omega) (k_254_76 (f236 (d := d + 15) (by omega) hpos (by omega) (k_254_81 (k2 _ _ sw2 kp (fin _ _ r b h a bn g f r2 w x y frC (fun p q z1 z2 => by rw [u2_nn z2, uR_ne z1]) (lie_new hb8.2.1 (fun j hj => sc2.2 v l rfl j hj) (fun j hj => hbr v l rfl j hj) hy'))))))))
          · exact absurd q1 cA
end OPSG
