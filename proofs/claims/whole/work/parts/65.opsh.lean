/-! ===== operation: least ===== -/
section OPSH
variable {d : Nat} {Q : am_Q} {X hi : Nat → Nat → Int32} {hl hl0 : Nat → Nat → Int64} {sw : Bool} {kp : Nat → Nat} {V : vN} {c n M B H D0 : Nat} {bo : Nat → Nat} {F : List Nat → Nat} {s : Bst}
/-- what the reference reckons from -/
def RE (V : vN) (X : Nat → Nat → Int32) (c H D0 : Nat) (bo : Nat → Nat) : Prop := R_vil V X ∧ R_pul X ∧ SN V X H bo ∧ CSE V X c ∧ ((D0 < vP V ∧ X 299 16 = nI D0) ∨ (vP V = 0 ∧ X 299 16 = -1 ∧ D0 = 8))
theorem RE.fr {X1 X : Nat → Nat → Int32} (e : ∀ a j, LFr a → a ≠ 278 → ¬ (a = 0 ∧ j = 13) → ¬ (a = 279 ∧ j = 75) → X1 a j = X a j) (h : RE V X c H D0 bo) : RE V X1 c H D0 bo := by
  obtain ⟨hv, hpu, ⟨n1, n2, n3, n4, n5, n6, n7⟩, ⟨c1, c2, c3, c4⟩, hx⟩ := h
  have g : ∀ a j, (28 ≤ a ∧ a ≤ 31) ∨ a = 299 ∨ a = 23 → X1 a j = X a j := fun a j q => e a j (by unfold LFr; omega) (by omega) (by omega) (by omega)
  refine ⟨hv.fw (fun a j q => e a j (by unfold NV at q; unfold LFr; omega) (by unfold NV at q; omega) (by unfold NV at q; omega) (by unfold NV at q; omega)), hpu.fw (fun a j q => e a j (by unfold LFr; omega) (by omega) (by omega) (by omega)), ⟨n1, ?_, ?_, ?_, fun t ht => ?_, ?_, ?_⟩, ⟨?_, ?_, ?_, ?_⟩, ?_⟩
  · rw [g 28 1 (by omega)]; exact n2
  · rw [g 299 17 (by omega)]; exact n3
  · rw [g 299 18 (by omega)]; exact n4
  · rw [g 29 t (by omega), g 299 t (by omega)]; exact n5 t ht
  · rw [g 299 16 (by omega), g 28 0 (by omega)]; exact n6
  · rw [g 28 0 (by omega)]; exact n7
  · rw [g 299 _ (by omega), g 30 _ (by omega)]; exact c1
  · rw [g 299 _ (by omega), g 31 _ (by omega)]; exact c2
  · rw [g 31 _ (by omega)]; exact c3
  · rw [g 31 _ (by omega), g 23 _ (by omega), g 30 _ (by omega)]; exact c4
  · rw [g 299 16 (by omega)]; exact hx
/-- good enough -/
def gde (n : Nat) : Bst → Bool
  | none => false
  | some (v, _) => decide (60 ^ n < 2 * v)
theorem fbs_le {bo : Nat → Nat} {P b : Nat} (hF : ∀ l, F l ≤ b) : ∀ (L : List (List Nat)) (s : Bst), (∀ v l, s = some (v, l) → v ≤ b) → ∀ v l, fbs F bo P s L = some (v, l) → v ≤ b
  | [], s, h, v, l, e => h v l e
  | a :: L, s, h, v, l, e => by
    refine fbs_le hF L (gst F bo P s a) (fun v' l' e' => ?_) v l e
    unfold gst at e'
    by_cases c : oks bo P (rwf a) = true
    · rw [if_pos c] at e'
      cases s with
      | none =>
        have := Option.some.inj (show some (F a, a) = some (v', l') from e')
        rw [← (Prod.mk.inj this).1]
        exact hF a
      | some q =>
        obtain ⟨v0, b0⟩ := q
        have e2 : (if v0 < F a then some (F a, a) else some (v0, b0)) = some (v', l') := e'
        by_cases c2 : v0 < F a
        · rw [if_pos c2] at e2
          rw [← (Prod.mk.inj (Option.some.inj e2)).1]
          exact hF a
        · rw [if_neg c2] at e2
          rw [← (Prod.mk.inj (Option.some.inj e2)).1]
          exact h v0 b0 rfl
    · rw [if_neg c] at e'
      exact h v' l' e'
theorem f141l {S : Nat → Bst} {x1 : Int32} (eF : F = fun l => wp V X (fun t => bo t + rwf l t) H c n D0) (hx : LX V X c n 4 B H D0 bo) (eS : ∀ k, k ≤ 4 → fbs F bo (vP V) none (cmps (vP V) k) = S k)
    (w1 : ∀ (k v : Nat) (l : List Nat) (hi2 : Nat → Nat → Int32) (hl2 : Nat → Nat → Int64) (sw2 : Bool), k ≤ 4 → (∀ i, i < k → gde n (S i) = false) → gde n (S k) = true → S k = some (v, l) → LJ V X c n 4 B H bo hi2 → LL hl2 hl0 → SCl (some (v, l)) hi2 hl2 → Q (some (.int (nI k))) (mkH (u2 (uR hi2 278 (va_cpy (hi2 265) (hi2 278) 0 0 8)) 0 13 (hi2 19 1)) hl2 sw2 kp))
    (w0 : ∀ (hi2 : Nat → Nat → Int32) (hl2 : Nat → Nat → Int64) (sw2 : Bool), (∀ i, i ≤ 4 → gde n (S i) = false) → LJ V X c n 4 B H bo hi2 → LL hl2 hl0 → Q (some (.int (-1))) (mkH hi2 hl2 sw2 kp))
    (hli : LJ V X c n 4 B H bo hi) (hll : LL hl hl0) : cW cd_141 (d + 17) Q 40 [some (.ref 0), some (.int x1), some (.int (nI n)), some (.int 0)] [] (mkH hi hl sw kp) := by
  have hn : n ≤ 8 := hx.2.2.2.2.1
  refine lpu (σ := (Nat → Nat → Int32) × (Nat → Nat → Int64) × Bool) 5 (fun j z => cW cd_141 (d + 17) Q 40 [some (.ref 0), some (.int x1), some (.int (nI n)), some (.int (nI j))] [] (mkH z.1 z.2.1 z.2.2 kp)) (fun j z => LJ V X c n 4 B H bo z.1 ∧ LL z.2.1 hl0 ∧ ∀ i, i < j → gde n (S i) = false) ?_ ?_ 5 0 (hi, hl, sw) rfl ⟨hli, hll, fun i hi => absurd hi (Nat.not_lt_zero i)⟩
  · intro z ⟨z1, z2, z3⟩
    exact k_141_40 (fun _ => w0 z.1 z.2.1 z.2.2 (fun i hi => z3 i (by omega)) z1 z2) (fun c => absurd (by decide) c)
  · intro j z hj ⟨z1, z2, z3⟩ ih
    refine k_141_40 (fun c => absurd c (show ¬ (4 : Int32) < nI j from nI_nlt (a := 4) (by omega) (by decide))) (fun _ => f18 (d := d) (hl0 := hl0) eF hx (show j ≤ 4 by omega) z1 z2 (fun hi2 hl2 sw2 q1 q2 q3 => ?_))
    rw [eS j (by omega)] at q3 ⊢
    have nx : gde n (S j) = false → cW cd_141 (d + 17) Q 40 [some (.ref 0), some (.int x1), some (.int (nI n)), some (.int (nI j + 1))] [] (mkH hi2 hl2 sw2 kp) := fun h => by
      rw [nI_1]
      refine ih (hi2, hl2, sw2) ⟨q1, q2, fun i hi => ?_⟩
      by_cases c : i = j
      · subst c; exact h
      · exact z3 i (by omega)
    cases hS : S j with
    | none =>
      rw [hS] at nx
      exact k_141_53 (fun _ => nx rfl) (fun c => absurd rfl c) (fun c => absurd rfl c) (fun c => absurd rfl c)
    | some q =>
      obtain ⟨v, l⟩ := q
      rw [hS] at q3 nx
      have hv2 : v ≤ 60 ^ n := by
        have h1 := eS j (by omega)
        rw [hS] at h1
        exact fbs_le (fun l => by rw [eF]; exact wp_le hx.dg) _ none (fun v l e => by simp at e) v l h1
      have e4 : hl2 264 4 = lN v := q3.1
      have eg := g159 (w := v) (n := n) hn hv2
      have h1 : ¬ (bok (some (v, l)) = 0) := fun z => absurd (show (1 : Int32) = 0 from z) (by decide)
      refine k_141_53 (fun c => absurd c h1) (fun _ _ => vp_in_nI (by omega) (by decide)) (fun _ c => ?_) (fun _ c => e_157 (k_141_74 ?_))
      · rw [e4, eg] at c
        refine nx ?_
        show decide (60 ^ n < 2 * v) = false
        by_cases h : 2 * v ≤ 60 ^ n
        · exact decide_eq_false (by omega)
        · rw [if_neg h] at c
          exact absurd c (by decide)
      · rw [e4, eg] at c
        have h : ¬ 2 * v ≤ 60 ^ n := fun h => c (by rw [if_pos h])
        exact w1 j v l hi2 hl2 sw2 (by omega) z3 (by rw [hS]; exact decide_eq_true (by omega)) hS q1 q2 q3
theorem f255l {S : Nat → Bst} (eF : F = fun l => wp V X (fun t => bo t + rwf l t) H c n D0) (hre : RE V X c H D0 bo) (hc : c < vC V) (hn : n ≤ 8) (eS : ∀ k, k ≤ 4 → fbs F bo (vP V) none (cmps (vP V) k) = S k)
    (w1 : ∀ (k v : Nat) (l : List Nat) (r b : Nat → Int32) (h a : Int32) (bn g f r2 w : Nat → Int32) (x y : Nat → Int64) (y' : Nat → Int32), k ≤ 4 → (∀ i, i < k → gde n (S i) = false) → gde n (S k) = true → S k = some (v, l) → BR (some (v, l)) b → (∀ j, j < vP V → y' j = (rx (rz X r b) h a bn g f r2 w) 309 j) → Q (some (.int (nI k))) (mkH (u2 (uR (rx (rz X r b) h a bn g f r2 w) 310 y') 279 75 (nI (vP V))) (lz2 hl x y) sw kp))
    (w0 : ∀ (r b : Nat → Int32) (h a : Int32) (bn g f r2 w : Nat → Int32) (x y : Nat → Int64), (∀ i, i ≤ 4 → gde n (S i) = false) → Q (some (.int (-1))) (mkH (rx (rz X r b) h a bn g f r2 w) (lz2 hl x y) sw kp)) : cW cd_255 (d + 17) Q 27 [some (.ref 279), some (.int (nI c)), some (.int (nI n)), some (.int 0), none, none] [] (mkH X hl sw kp) := by
  obtain ⟨hv, hpu, hsn, hcs, hx⟩ := hre
  have hb8 := hv.1
  have hDw : D0 < vP V ∨ vP V = 0 := by
    rcases hx with ⟨h, -⟩ | ⟨h, -⟩
    · exact Or.inl h
    · exact Or.inr h
  refine cW.hi (hi := rz X (X 308) (X 309)) rz_id.symm (cW.hi rx_id.symm (cW.hl lz_id.symm ?_))
  refine lpu (σ := (Nat → Int32) × (Nat → Int32) × Int32 × Int32 × (Nat → Int32) × (Nat → Int32) × (Nat → Int32) × (Nat → Int32) × (Nat → Int32) × (Nat → Int64) × (Nat → Int64)) 5 (fun j z => ∀ o4 : Option Value, cW cd_255 (d + 17) Q 27 [some (.ref 279), some (.int (nI c)), some (.int (nI n)), some (.int (nI j)), o4, none] [] (mkH (rx (rz X z.1 z.2.1) z.2.2.1 z.2.2.2.1 z.2.2.2.2.1 z.2.2.2.2.2.1 z.2.2.2.2.2.2.1 z.2.2.2.2.2.2.2.1 z.2.2.2.2.2.2.2.2.1) (lz2 hl z.2.2.2.2.2.2.2.2.2.1 z.2.2.2.2.2.2.2.2.2.2) sw kp)) (fun j _ => ∀ i, i < j → gde n (S i) = false) ?_ ?_ 5 0 (X 308, X 309, _, _, _, _, _, _, _, hl 306, hl 307) rfl (fun i hi => absurd hi (Nat.not_lt_zero i)) none
  · intro z hz o4
    exact k_255_27 (fun _ => w0 _ _ _ _ _ _ _ _ _ _ _ (fun i hi => hz i (by omega))) (fun c => absurd (by decide) c)
  · intro j z hj hz ih o4
    refine k_255_27 (fun c => absurd c (show ¬ (4 : Int32) < nI j from nI_nlt (a := 4) (by omega) (by decide))) (fun _ => f252 (d := d + 8) (V := V) (X := X) (bo := bo) (H := H) (D0 := D0) (F := F) eF hv hpu hsn hc hcs hn (show j ≤ 4 by omega) hx (fun r b hh a bn g f r2 w x y hbr => ?_) _ _ _ _ _ _ _ _ _ _ _)
    rw [eS j (by omega)] at hbr ⊢
    have nx : gde n (S j) = false → ∀ o4 : Option Value, cW cd_255 (d + 17) Q 27 [some (.ref 279), some (.int (nI c)), some (.int (nI n)), some (.int (nI j + 1)), o4, none] [] (mkH (rx (rz X r b) hh a bn g f r2 w) (lz2 hl x y) sw kp) := fun q o4 => by
      rw [nI_1]
      refine ih (r, b, hh, a, bn, g, f, r2, w, x, y) (fun i hi => ?_) o4
      by_cases c : i = j
      · subst c; exact q
      · exact hz i (by omega)
    cases hS : S j with
    | none =>
      rw [hS] at nx
      exact k_255_39 (fun _ => nx rfl _) (fun c => absurd (by decide) c)
    | some q =>
      obtain ⟨v, l⟩ := q
      rw [hS] at hbr nx
      have hv2 : v ≤ 60 ^ n := by
        have h1 := eS j (by omega)
        rw [hS] at h1
        exact fbs_le (fun l => by rw [eF]; exact wp_le hDw) _ none (fun v l e => by simp at e) v l h1
      have h60 := p60 hn
      refine k_255_39 (fun c => absurd c (lg0 (by omega))) (fun _ => f247 (d := d + 15) hn hv2 (k_255_54 (fun c => ?_) (fun c => ?_)))
      · refine nx ?_ _
        show decide (60 ^ n < 2 * v) = false
        by_cases h : 2 * v ≤ 60 ^ n
        · exact decide_eq_false (by omega)
        · rw [if_neg h] at c
          exact absurd c (by decide)
      · have h : ¬ 2 * v ≤ 60 ^ n := fun h => c (by rw [if_pos h])
        have e46 : (rx (rz X r b) hh a bn g f r2 w) 279 46 = nI (vP V) := hv.2.2.1.2.1
        exact f253 (d := d + 16) hb8.2.1 e46 (fun y' hy' => k_255_64 (w1 j v l r b hh a bn g f r2 w x y y' (by omega) hz (by rw [hS]; exact decide_eq_true (by omega)) hS hbr hy'))
theorem op_least (a1 a2 : Int32) : OpI Rel (d + 18) 141 255 [.int a1, .int a2] := by
  intro hi hl sw kp Q hR k
  obtain ⟨V, st, hk, hs, ha, hx⟩ := hR.sp
  have hv := st.2.2.2.2.2.1
  have hpu := st.2.2.2.2.2.2
  have hb8 := hv.1
  have rel0 : Rel (u2 (u2 hi 0 13 0) 279 75 0) hl sw kp := hR.lie (fun a j q b1 b2 b3 b4 => by rw [u2_nn b2, u2_nn b1]) rfl ⟨0, by decide, rfl, u2_s, fun j hj => absurd hj (Nat.not_lt_zero j)⟩
  by_cases cA : g_109 hi a1 = 0
  · have cA' : g_209 hi a1 = 0 := (cas_eq hv a1).trans cA
    exact e_141 (fun _ => k (-1) _ hl sw kp (fun Q2 k2 => e_255 (fun _ => k2 _ hl sw kp rel0) (fun c => absurd cA' c) (fun c => absurd cA' c))) (fun c => absurd cA c) (fun c => absurd cA c)
  · have cA' : ¬ g_209 hi a1 = 0 := fun z => cA ((cas_eq hv a1).symm.trans z)
    by_cases cB : g_158 a2 (1 : Int32) (6 : Int32) = 0
    · exact e_141 (fun c => absurd c cA) (fun _ _ => k (-1) _ hl sw kp (fun Q2 k2 => e_255 (fun c => absurd c cA') (fun _ _ => k2 _ hl sw kp rel0) (fun _ c => absurd cB c))) (fun _ c => absurd cB c)
    · rcases cas hv a1 with ⟨c, hc, rfl, q1, q2⟩ | ⟨-, q1, -⟩
      · obtain ⟨n, hn1, hn6, rfl⟩ := rgN (a := 1) (b := 6) (by decide) (by decide) cB
        obtain ⟨H, bo, hsn⟩ := SN.of hs
        obtain ⟨n1, n2, n3, n4, n5, n6, n7⟩ := id hsn
        obtain ⟨D0, B, hdg, d1, d2⟩ := DG.of hv hsn
        have hcs := CSE.of hv hs hc
        have hx3 : (D0 < vP V ∧ hi 299 16 = nI D0) ∨ (vP V = 0 ∧ hi 299 16 = -1 ∧ D0 = 8) := by
          rcases hdg with ⟨h1, h2, -⟩ | ⟨h1, h2, h3, -⟩
          · exact Or.inl ⟨h1, n6.trans h2⟩
          · exact Or.inr ⟨h1, n6.trans h2, h3⟩
        have hre : RE V hi c H D0 bo := ⟨hv, hpu, hsn, hcs, hx3⟩
        refine e_141 (fun c => absurd c cA) (fun _ c => absurd c cB) (fun _ _ => ?_)
        refine f16 (d := d + 11) (V := V) (X := u2 hi 0 13 0) (M := 4) (B := B) (H := H) (bo := bo) hv hpu hsn hc (by omega) (by decide) d1 d2 (fun X1 hi1 fr1 li1 _ => k_141_38 ?_)
        have lx0 : LX V (u2 hi 0 13 0) c n 4 B H D0 bo := ⟨hv, hsn, hc, hcs, by omega, by decide, hdg, d1, d2⟩
        have lx1 := lx0.fr fr1
        have nqx : ∀ a j, NQ a j → X1 a j = hi a j := fun a j q => by rw [fr1 a j (by unfold NQ at q; omega), u2_row_ne (by unfold NQ at q; omega)]
        -- the reference behind a class's heap
        have ref : ∀ (hiC : Nat → Nat → Int32) (hl2 : Nat → Nat → Int64) (sw2 : Bool) (Q2 : am_Q), (∀ a j, LFr a → a ≠ 278 → ¬ (a = 0 ∧ j = 13) → hiC a j = hi a j) → cW cd_255 (d + 17) Q2 27 [some (.ref 279), some (.int (nI c)), some (.int (nI n)), some (.int 0), none, none] [] (mkH (u2 hiC 279 75 0) hl2 sw2 kp) → cS (d + 18) 255 [.ref 279, .int (nI c), .int (nI n)] (mkH hiC hl2 sw2 kp) Q2 := by
          intro hiC hl2 sw2 Q2 fC w2
          have cA2 : ¬ g_209 (u2 hiC 279 75 0) (nI c) = 0 := by
            have : g_209 (u2 hiC 279 75 0) (nI c) = g_209 hi (nI c) := by
              unfold g_209
              rw [u2_nn (by omega), fC 279 48 (by unfold LFr; omega) (by decide) (by omega)]
            rw [this]
            exact cA'
          exact e_255 (fun c => absurd c cA2) (fun _ c => absurd c cB) (fun _ _ => w2)
        have rcc : ∀ hiC : Nat → Nat → Int32, (∀ a j, LFr a → a ≠ 278 → ¬ (a = 0 ∧ j = 13) → hiC a j = hi a j) → RE V (u2 hiC 279 75 0) c H D0 bo ∧ ∀ k, k ≤ 4 → fbs (fun l => wp V (u2 hiC 279 75 0) (fun t => bo t + rwf l t) H c n D0) bo (vP V) none (cmps (vP V) k) = fbs (fun l => wp V X1 (fun t => bo t + rwf l t) H c n D0) bo (vP V) none (cmps (vP V) k) := by
          intro hiC fC
          refine ⟨hre.fr (fun a j h1 h2 h3 h4 => by rw [u2_nn h4]; exact fC a j h1 h2 h3), fun k _ => ?_⟩
          have : (fun l => wp V (u2 hiC 279 75 0) (fun t => bo t + rwf l t) H c n D0) = (fun l => wp V X1 (fun t => bo t + rwf l t) H c n D0) := funext (fun l => wp_fr (fun a j q => by
            rw [nqx a j q, u2_nn (by unfold NQ at q; omega)]
            exact fC a j (by unfold NQ at q; unfold LFr; omega) (by unfold NQ at q; omega) (by unfold NQ at q; omega)))
          rw [this]
        have fin : ∀ (hiC Y : Nat → Nat → Int32) (hl2 : Nat → Nat → Int64) (sw2 : Bool) (r b : Nat → Int32) (h a : Int32) (bn g f r2 w : Nat → Int32) (x y : Nat → Int64), LL hl2 hl → (∀ a j, LFr a → a ≠ 278 → ¬ (a = 0 ∧ j = 13) → hiC a j = hi a j) → (∀ p q, p ≠ 310 → ¬ (p = 279 ∧ q = 75) → Y p q = (rx (rz (u2 hiC 279 75 0) r b) h a bn g f r2 w) p q) → R_lie Y → Rel Y (lz2 hl2 x y) sw2 kp := by
          intro hiC Y hl2 sw2 r b h a bn g f r2 w x y ll2 fC eY lY
          refine hR.lie (fun p q z b1 b2 b3 b4 => ?_) (ll2 4 (by decide) (by decide) (by decide)) lY
          rw [eY p q b4 b2, rx_fr p q z]
          show uR (uR (u2 hiC 279 75 0) 308 r) 309 b p q = _
          have z' := z
          unfold NS ND at z'
          rw [uR_ne (by omega), uR_ne (by omega), u2_nn b2]
          exact fC p q (by unfold LFr; omega) b3 b1
        refine f141l (d := d) (hl0 := hl) (F := fun l => wp V X1 (fun t => bo t + rwf l t) H c n D0) (S := fun k => fbs (fun l => wp V X1 (fun t => bo t + rwf l t) H c n D0) bo (vP V) none (cmps (vP V) k)) rfl lx1 (fun _ _ => rfl) (fun m v l hi2 hl2 sw2 hm hlt hg hSm li2 ll2 sc2 => ?_) (fun hi2 hl2 sw2 hall li2 ll2 => ?_) li1 (fun _ _ _ _ => rfl)
        · have fr2 := LI.fr2 fr1 li2
          have fr0 : ∀ a j, LFr a → a ≠ 278 → ¬ (a = 0 ∧ j = 13) → hi2 a j = hi a j := fun a j h1 _ h3 => (fr2 a j h1).trans (u2_nn h3)
          have e19 : hi2 19 1 = nI (vP V) := (fr0 19 1 (by unfold LFr; omega) (by decide) (by omega)).trans hv.2.1.2.1
          rw [e19]
          have frC : ∀ a j, LFr a → a ≠ 278 → ¬ (a = 0 ∧ j = 13) → (u2 (uR hi2 278 (va_cpy (hi2 265) (hi2 278) 0 0 8)) 0 13 (nI (vP V))) a j = hi a j := fun a j h1 h2 h3 => by
            rw [u2_nn h3, uR_ne h2]
            exact fr0 a j h1 h2 h3
          obtain ⟨re2, eS2⟩ := rcc _ frC
          refine k (nI m) _ hl2 sw2 kp (fun Q2 k2 => ref _ hl2 sw2 Q2 frC (f255l (d := d) rfl re2 hc (by omega) eS2 (fun m' v' l' r b h a bn g f r2 w x y y' hm' hlt' hg' hSm' hbr hy' => ?_) (fun r b h a bn g f r2 w x y hall => ?_)))
          · have hmm : m' = m := by
              rcases Nat.lt_trichotomy m m' with z | z | z
              · have h1 := hlt' m z
                rw [hg] at h1
                exact absurd h1 (by decide)
              · exact z.symm
              · have h1 := hlt m' z
                rw [hg'] at h1
                exact absurd h1 (by decide)
            subst hmm
            have hvl := (Option.some.inj (hSm'.symm.trans hSm))
            have hll' : l' = l := (Prod.mk.inj hvl).2
            subst hll'
            exact k2 _ _ sw2 kp (fin _ _ hl2 sw2 r b h a bn g f r2 w x y ll2 frC (fun p q z1 z2 => by rw [u2_nn z2, uR_ne z1]) (lie_new hb8.2.1 (fun j hj => sc2.2 v l' rfl j hj) (fun j hj => hbr v' l' rfl j hj) hy'))
          · have h1 := hall m hm
            rw [hg] at h1
            exact absurd h1 (by decide)
        · have fr2 := LI.fr2 fr1 li2
          have fr0 : ∀ a j, LFr a → a ≠ 278 → ¬ (a = 0 ∧ j = 13) → hi2 a j = hi a j := fun a j h1 _ h3 => (fr2 a j h1).trans (u2_nn h3)
          obtain ⟨re2, eS2⟩ := rcc _ fr0
          refine k (-1) hi2 hl2 sw2 kp (fun Q2 k2 => ref hi2 hl2 sw2 Q2 fr0 (f255l (d := d) rfl re2 hc (by omega) eS2 (fun m' v' l' r b h a bn g f r2 w x y y' hm' hlt' hg' hSm' hbr hy' => ?_) (fun r b h a bn g f r2 w x y _ => k2 _ _ sw2 kp (fin hi2 _ hl2 sw2 r b h a bn g f r2 w x y ll2 fr0 (fun _ _ _ _ => rfl) ⟨0, by decide, ?_, ?_, fun j hj => absurd hj (Nat.not_lt_zero j)⟩))))
          · have h1 := hall m' hm'
            rw [hg'] at h1
            exact absurd h1 (by decide)
          · rw [rx_UR (by unfold UR; omega)]
            show uR (uR (u2 hi2 279 75 0) 308 r) 309 b 0 13 = _
            rw [uR_ne (by decide), uR_ne (by decide), u2_row_ne (by decide), fr2 0 13 (by unfold LFr; omega)]
            exact u2_s
          · rw [rx_UR (by unfold UR; omega)]
            show uR (uR (u2 hi2 279 75 0) 308 r) 309 b 279 75 = _
            rw [uR_ne (by decide), uR_ne (by decide)]
            exact u2_s
      · exact absurd q1 cA
end OPSH
