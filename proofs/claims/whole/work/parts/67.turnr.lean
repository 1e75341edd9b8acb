/-! ===== operation: byTurns, the reference ===== -/
section TURNR
variable {d : Nat} {Q : am_Q} {X hi : Nat → Nat → Int32} {hl hl0 : Nat → Nat → Int64} {sw : Bool} {kp : Nat → Nat} {V : vN} {c n M B H D0 : Nat} {bo : Nat → Nat} {W : Nat → Nat → Nat}
theorem u2_cc {α : Type} {f : Nat → Nat → α} {i j l : Nat} {x y : α} (h : j ≠ l) : u2 (u2 f i j x) i l y = u2 (u2 f i l y) i j x := by
  funext a b
  simp only [u2_eq]
  by_cases h1 : a = i ∧ b = l
  · rw [if_pos h1, if_neg (fun q => h (q.2.symm.trans h1.2)), if_pos h1]
  · rw [if_neg h1, if_neg h1]
theorem rx_76 {h a x : Int32} {b g f r w : Nat → Int32} : u2 (rx hi h a b g f r w) 279 76 x = rx (u2 hi 279 76 x) h a b g f r w := by
  show u2 (uR (uR (uR (uR (uR (u2 (u2 hi 279 61 h) 279 62 a) 300 b) 288 g) 287 f) 301 r) 302 w) 279 76 x = _
  rw [u2_co (by decide), u2_co (by decide), u2_co (by decide), u2_co (by decide), u2_co (by decide), u2_cc (j := 62) (l := 76) (by decide), u2_cc (j := 61) (l := 76) (by decide)]
/-- what changes while turns are weighed: 308 and the answer -/
abbrev ry (X : Nat → Nat → Int32) (z : Int32) (r : Nat → Int32) : Nat → Nat → Int32 := uR (u2 X 279 76 z) 308 r
theorem ry_76 {z z' : Int32} {r : Nat → Int32} : u2 (ry X z r) 279 76 z' = ry X z' r := by
  show u2 (uR (u2 X 279 76 z) 308 r) 279 76 z' = _
  rw [u2_co (by decide), u2_u2]
theorem ry_id : ry X (X 279 76) (X 308) = X := by
  show uR (u2 X 279 76 (X 279 76)) 308 (X 308) = X
  rw [u2_id, uR_id]
theorem ry_308 {z x : Int32} {r : Nat → Int32} {k : Nat} : u2 (ry X z r) 308 k x = ry X z (up1 r k x) := u2_in
theorem ry_o {z : Int32} {r : Nat → Int32} {a j : Nat} (h1 : a ≠ 308) (h2 : ¬ (a = 279 ∧ j = 76)) : (ry X z r) a j = X a j := by
  show uR (u2 X 279 76 z) 308 r a j = _
  rw [uR_ne h1, u2_nn h2]
theorem ry_r {z : Int32} {r : Nat → Int32} {j : Nat} : (ry X z r) 308 j = r j := congrFun uR_s j
theorem f256 {p : Nat} (eW : W = fun p q => wp V X (fun t => bo t + prq p q t) H c n D0) (hre : RE V X c H D0 bo) (hc : c < vC V) (hn : n ≤ 8) (hp : p < vP V)
    (w' : ∀ (r : Nat → Int32) (h a : Int32) (bn g f r2 w : Nat → Int32) (x y : Nat → Int64), Q (some (.long (iv (ist W bo (vP V) p (vP V))))) (mkH (rx (ry X (iq (ist W bo (vP V) p (vP V))) r) h a bn g f r2 w) (lz2 hl x y) sw kp))
    (z : Int32) (r : Nat → Int32) (h a : Int32) (bn g f r2 w : Nat → Int32) (x y : Nat → Int64) : cS (d + 9) 256 [.ref 279, .int (nI c), .int (nI n), .int (nI p)] (mkH (rx (ry X z r) h a bn g f r2 w) (lz2 hl x y) sw kp) Q := by
  obtain ⟨hv, hpu, hsn, hcs, hx⟩ := hre
  have hb8 := hv.1
  have hDw : D0 < vP V ∨ vP V = 0 := by
    rcases hx with ⟨h, -⟩ | ⟨h, -⟩
    · exact Or.inl h
    · exact Or.inr h
  obtain ⟨n1, n2, n3, n4, n5, n6, n7⟩ := id hsn
  have hW : ∀ p q, W p q < 2 ^ 62 := fun p q => by
    rw [eW]
    exact wp_2 hn hDw
  have i12 : (12 : Int32) + nI c = nI (12 + c) := nI_add 12 c
  refine e_256 (cW.hi (hi := rx (ry X (-1) r) h a bn g f r2 w) (by rw [rx_76, ry_76]) ?_)
  refine lpu (σ := (Nat → Int32) × Int32 × Int32 × (Nat → Int32) × (Nat → Int32) × (Nat → Int32) × (Nat → Int32) × (Nat → Int32) × (Nat → Int64) × (Nat → Int64)) (vP V) (fun j s => ∀ o7 : Option Value, cW cd_256 (d + 8) Q 13 [some (.ref 279), some (.int (nI c)), some (.int (nI n)), some (.int (nI p)), some (.long (iv (ist W bo (vP V) p j))), none, some (.int (nI j)), o7, none] [] (mkH (rx (ry X (iq (ist W bo (vP V) p j)) s.1) s.2.1 s.2.2.1 s.2.2.2.1 s.2.2.2.2.1 s.2.2.2.2.2.1 s.2.2.2.2.2.2.1 s.2.2.2.2.2.2.2.1) (lz2 hl s.2.2.2.2.2.2.2.2.1 s.2.2.2.2.2.2.2.2.2) sw kp)) (fun _ _ => True) ?_ ?_ (vP V) 0 (r, h, a, bn, g, f, r2, w, x, y) (Nat.zero_add _) trivial none
  · intro s _ o7
    have e46 : ∀ z r h a bn g f r2 w, (rx (ry X z r) h a bn g f r2 w) 279 46 = nI (vP V) := fun z r h a bn g f r2 w => hv.2.2.1.2.1
    exact k_256_13 (fun _ => w' _ _ _ _ _ _ _ _ _ _) (fun c => absurd (by rw [e46]; exact Int32.le_refl _) c)
  · intro j s hj _ ih o7
    obtain ⟨r, h, a, bn, g, f, r2, w, x, y⟩ := s
    have e46 : ∀ z r h a bn g f r2 w, (rx (ry X z r) h a bn g f r2 w) 279 46 = nI (vP V) := fun z r h a bn g f r2 w => hv.2.2.1.2.1
    have ei : ist W bo (vP V) p (j + 1) = if oks bo (vP V) (prq p j) = true then (match ist W bo (vP V) p j with | none => some (W p j, j) | some (v, q) => if W p j < v then some (W p j, j) else some (v, q)) else ist W bo (vP V) p j := rfl
    refine k_256_13 (fun c => absurd c (by rw [e46]; exact nI_ge hj (by omega))) (fun _ => ?_)
    refine lpu (σ := Nat → Int32) 8 (fun i r => cW cd_256 (d + 8) Q 25 [some (.ref 279), some (.int (nI c)), some (.int (nI n)), some (.int (nI p)), some (.long (iv (ist W bo (vP V) p j))), none, some (.int (nI j)), some (.int (nI i)), none] [] (mkH (rx (ry X (iq (ist W bo (vP V) p j)) r) h a bn g f r2 w) (lz2 hl x y) sw kp)) (fun i r => ∀ t, t < i → r t = nI (prq p j t)) ?_ ?_ 8 0 r rfl (fun t ht => absurd ht (Nat.not_lt_zero t))
    · intro r hr
      have hi8 : (8 : Int32) ≤ nI 8 := by decide
      refine k_256_25 (fun _ => ?_) (fun c => absurd hi8 c) (fun c => absurd hi8 c) (fun c => absurd hi8 c) (fun c => absurd hi8 c) (fun c => absurd hi8 c) (fun c => absurd hi8 c) (fun c => absurd hi8 c) (fun c => absurd hi8 c)
      refine f250 (d := d + 7) (P := vP V) (m := prq p j) (bo := bo) hb8.2.1 (e46 _ _ _ _ _ _ _ _ _) (fun t ht => ⟨?_, ?_⟩) (fun t ht => ⟨(n5 t ht).1, ?_⟩) ?_
      · rw [rx_UR (by unfold UR; omega), ry_r]
        exact hr t ht
      · have := prq_le p j t
        omega
      · rw [rx_r299, ry_o (by decide) (by omega)]
        exact (n5 t ht).2.2
      · cases hok : oks bo (vP V) (prq p j) with
        | false =>
          rw [hok, if_neg (by decide)] at ei
          refine k_256_79 (fun _ => ?_) (fun c => absurd rfl c)
          have := ih (r, h, a, bn, g, f, r2, w, x, y) trivial (some (.int (nI 8)))
          rw [ei] at this
          rw [nI_1]
          exact this
        | true =>
          rw [hok, if_pos rfl] at ei
          refine k_256_79 (fun c => absurd (show (1 : Int32) = 0 from c) (by decide)) (fun _ => f249 (d := d + 6) (P := vP V) (m := prq p j) (bo := bo) hb8.2.1 hv.2.2.1.2.1 (fun t ht => by rw [ry_r]; exact hr t ht) (fun t h1 _ => prq_z (by omega) (by omega)) (fun t ht => by rw [ry_o (by decide) (by omega)]; exact (n5 t ht).2.2) (fun b' hb' => ?_))
          have fin : ∀ (h a : Int32) (bn g f r2 w : Nat → Int32) (x y : Nat → Int64), cW cd_256 (d + 8) Q 117 [some (.ref 279), some (.int (nI c)), some (.int (nI n)), some (.int (nI p)), some (.long (iv (ist W bo (vP V) p j))), none, some (.int (nI j)), some (.int (nI 8)), none] [(.long (lN (W p j)))] (mkH (rx (ry X (iq (ist W bo (vP V) p j)) r) h a bn g f r2 w) (lz2 hl x y) sw kp) := by
            intro h a bn g f r2 w x y
            have hWj := hW p j
            have up : ist W bo (vP V) p (j + 1) = some (W p j, j) → cW cd_256 (d + 8) Q 13 [some (.ref 279), some (.int (nI c)), some (.int (nI n)), some (.int (nI p)), some (.long (lN (W p j))), none, some (.int (nI j + 1)), some (.long (lN (W p j))), none] [] (mkH (u2 (rx (ry X (iq (ist W bo (vP V) p j)) r) h a bn g f r2 w) 279 76 (nI j)) (lz2 hl x y) sw kp) := fun e => by
              have := ih (r, h, a, bn, g, f, r2, w, x, y) trivial (some (.long (lN (W p j))))
              rw [e] at this
              rw [nI_1]
              exact cW.hi (by rw [rx_76, ry_76]; rfl) this
            cases hs : ist W bo (vP V) p j with
            | none =>
              rw [hs] at ei up
              exact k_256_117 (fun _ => up ei) (fun c => absurd (by decide) c) (fun c => absurd (by decide) c)
            | some q0 =>
              obtain ⟨v, q⟩ := q0
              obtain ⟨hv0, hq0⟩ := ist_b (hW p) j v q hs
              rw [hs] at ei up
              refine k_256_117 (fun c => absurd c (lg0 (by omega))) (fun _ cc => up (ei.trans (if_pos ((lgl (by omega) (by omega)).mp cc)))) (fun _ cc => ?_)
              have ei2 : ist W bo (vP V) p (j + 1) = some (v, q) := ei.trans (if_neg (fun h => cc ((lgl (by omega) (by omega)).mpr h)))
              have := ih (r, h, a, bn, g, f, r2, w, x, y) trivial (some (.long (lN (W p j))))
              rw [ei2] at this
              rw [nI_1]
              exact this
          have e16 : ∀ z, (rx (ry X z r) ((ry X z r) 299 17) ((ry X z r) 299 18) b' g f r2 w) 299 16 = X 299 16 := fun z => by
            rw [rx_r299, ry_o (by decide) (by omega)]
          have eg2 : ∀ z, g_244 (rx (ry X z r) ((ry X z r) 299 17) ((ry X z r) 299 18) b' g f r2 w) (nI c) = if X 31 c = 1 then 1 else 0 := fun z => by
            unfold g_244
            have : (rx (ry X z r) ((ry X z r) 299 17) ((ry X z r) 299 18) b' g f r2 w) 299 ((12 : Int32) + nI c).toNatClampNeg = X 31 c := by
              rw [i12, nI_clamp (by omega), rx_r299, ry_o (by decide) (by omega)]
              exact hcs.2.1
            rw [this]
          have eWp : ∀ z, wp V (ry X z r) (fun t => bo t + prq p j t) H c n D0 = W p j := fun z => by
            rw [wp_fr (Y := X) (fun a i q => ry_o (by unfold NQ at q; omega) (by unfold NQ at q; omega)), eW]
          refine k_256_89 (by rw [i12]; exact vp_in_nI (by omega) (by decide)) ?_ ?_ <;> rw [eg2]
          · intro cq
            have h1 : ¬ X 31 c = 1 := fun h => by
              rw [if_pos h] at cq
              exact absurd cq (by decide)
            rw [e16]
            refine f243 (d := d) (V := V) (bb := fun t => bo t + prq p j t) (D0 := D0) (bo := bo) (H := H) (hi := ry X (iq (ist W bo (vP V) p j)) r) hv hpu hsn hc hcs h1 hn hb' hx (fun h' aa' bn' gg' ff' r2' ww' x' y' => ?_)
            rw [eWp]
            exact fin _ _ _ _ _ _ _ _ _
          · intro cq
            have h1 : X 31 c = 1 := by
              by_cases h : X 31 c = 1
              · exact h
              · rw [if_neg h] at cq
                exact absurd rfl cq
            have e1 : W p j = 60 ^ n := by
              rw [eW]
              show wp V X _ H c n D0 = _
              unfold wp
              rw [if_neg (by rw [h1]; decide), if_pos h1]
            refine f234 (d := d + 7) hn (k_256_101 ?_)
            rw [← e1]
            exact fin _ _ _ _ _ _ _ _ _
    · intro i r hi8 hr ih2
      have g8 : ¬ (8 : Int32) ≤ nI i := nI_ge (a := i) (b := 8) hi8 (by decide)
      have ec : (nI i).toNatClampNeg = i := nI_clamp (by omega)
      have vi : vp_in (nI i) 8 := vp_in_nI (by omega) (by decide)
      have s1 : g_194 (1 : Int32) = 1 := by decide
      have s0 : g_194 (0 : Int32) = 0 := by decide
      have nx : ∀ q, q = nI (prq p j i) → cW cd_256 (d + 8) Q 25 [some (.ref 279), some (.int (nI c)), some (.int (nI n)), some (.int (nI p)), some (.long (iv (ist W bo (vP V) p j))), none, some (.int (nI j)), some (.int (nI i + 1)), none] [] (mkH (u2 (rx (ry X (iq (ist W bo (vP V) p j)) r) h a bn g f r2 w) 308 i q) (lz2 hl x y) sw kp) := by
        intro q hq
        rw [nI_1]
        refine cW.hi (hi := rx (ry X (iq (ist W bo (vP V) p j)) (up1 r i q)) h a bn g f r2 w) (by rw [rx_308, ry_308]) (ih2 _ (fun t ht => ?_))
        by_cases hti : t = i
        · subst hti
          rw [up1_s, hq]
        · rw [up1_n hti]
          exact hr t (by omega)
      have ne : ∀ b, b < 8 → (nI i = nI b ↔ i = b) := fun b hb => nI_eq (by omega) (by omega)
      refine k_256_25 (fun c => absurd c g8) (fun _ _ _ => vi) (fun _ c1 c2 => ?_) (fun _ _ _ => vi) (fun _ c1 c2 => ?_) (fun _ _ _ => vi) (fun _ c1 c2 => ?_) (fun _ _ _ => vi) (fun _ c1 c2 => ?_)
      all_goals
        rw [ne p (by omega)] at c1
        rw [ne j (by omega)] at c2
        rw [ec]
        refine nx _ ?_
        unfold prq
      · rw [if_pos c1, if_pos c2, s1]; rfl
      · rw [if_pos c1, if_neg c2, s1, s0]; rfl
      · rw [if_neg c1, if_pos c2, s1, s0]; rfl
      · rw [if_neg c1, if_neg c2, s0]; rfl
end TURNR
