/-! ===== operations: where, likely, haunt ===== -/
section OPSE
variable {d : Nat} {Q : am_Q} {hi : Nat → Nat → Int32} {hl : Nat → Nat → Int64} {sw : Bool} {kp : Nat → Nat} {V : vN}
theorem rg8 (x : Int32) : (∃ n : Nat, n ≤ 8 ∧ x = nI n ∧ ¬ g_158 x (0 : Int32) (8 : Int32) = 0) ∨ g_158 x (0 : Int32) (8 : Int32) = 0 := by
  by_cases c : g_158 x (0 : Int32) (8 : Int32) = 0
  · exact Or.inr c
  · obtain ⟨c1, c2⟩ := g158_n c
    obtain ⟨n, hn, rfl⟩ := nI_of c1
    refine Or.inl ⟨n, ?_, rfl, c⟩
    rcases Nat.lt_or_ge 8 n with h | h
    · exact absurd (nI_lt (a := 8) h hn) c2
    · exact h
theorem od_cg {X : Nat → Nat → Int32} {bb : Nat → Nat} {H D0 : Nat} (h : ∀ u f t, WY V X bb H u f t = WY V hi bb H u f t) : ∀ u t, od V X bb H D0 u t = od V hi bb H D0 u t
  | 0, _ => rfl
  | u + 1, t => by
    show (if t < vP V then Ts (fun f => od V X bb H D0 u f * WY V X bb H u f t) (vP V) else 0) = if t < vP V then Ts (fun f => od V hi bb H D0 u f * WY V hi bb H u f t) (vP V) else 0
    by_cases c : t < vP V
    · rw [if_pos c, if_pos c]
      exact Ts_eq _ (fun f _ => by rw [od_cg h u f, h u f t])
    · rw [if_neg c, if_neg c]
theorem WY_cx {s o m p w g : Nat → Int32} {bb : Nat → Nat} {H : Nat} : ∀ u f t, WY V (cx hi s o m p w g) bb H u f t = WY V hi bb H u f t := fun _ _ _ => rfl
/-- where the dog is, as both have it -/
def DG (V : vN) (hi : Nat → Nat → Int32) (D0 B : Nat) : Prop := (D0 < vP V ∧ hi 28 0 = nI D0 ∧ B = 2 ^ D0) ∨ (vP V = 0 ∧ hi 28 0 = -1 ∧ D0 = 8 ∧ B = 0)
theorem DG.of {H : Nat} {bo : Nat → Nat} (hv : R_vil V hi) (hs : SN V hi H bo) : ∃ D0 B, DG V hi D0 B ∧ g_84 hi = nI B ∧ B < 256 := by
  have hb8 := hv.1
  rcases hs.2.2.2.2.2.2 with ⟨h1, h2⟩ | ⟨q, h1, h2⟩
  · refine ⟨8, 0, Or.inr ⟨h1, h2, rfl, rfl⟩, ?_, by decide⟩
    unfold g_84
    rw [h2]
    rfl
  · obtain ⟨d1, d2⟩ := dogB (hi := hi) (show q < 8 by omega) h2
    exact ⟨q, 2 ^ q, Or.inl ⟨h1, h2, rfl⟩, d1, d2⟩
theorem lgc {a b : Nat} (ha : a < 2 ^ 63) (hb : b < 2 ^ 63) : lg_cmp (lN a) (lN b) ≤ 0 ↔ a ≤ b := by
  unfold lg_cmp
  rcases Nat.lt_trichotomy a b with h | h | h
  · rw [if_neg (fun q => by have := (pk_lLT hb ha).mp q; omega), if_neg (fun q => by have := (pk_lEQ ha hb).mp q; omega)]
    exact ⟨fun _ => by omega, fun _ => by decide⟩
  · subst h
    rw [if_neg (fun q => by have := (pk_lLT ha ha).mp q; omega), if_pos rfl]
    exact ⟨fun _ => Nat.le_refl _, fun _ => by decide⟩
  · rw [if_pos (show lN a > lN b from (pk_lLT hb ha).mpr h)]
    exact ⟨fun q => absurd q (by decide), fun q => by omega⟩
theorem lgm {a : Nat} (ha : a < 2 ^ 63) : ¬ lg_cmp (lN a) (-1) ≤ 0 := by
  unfold lg_cmp
  rw [if_pos (show lN a > -1 by
    show (-1 : Int64) < lN a
    rw [Int64.lt_iff_toInt_lt, pk_lT ha]
    show (-1 : Int) < a
    omega)]
  decide
def amx (M : Nat → Nat) : Nat → Nat
  | 0 => 0
  | i + 1 => if M (amx M i) < M (i + 1) then i + 1 else amx M i
theorem amx_le (M : Nat → Nat) : ∀ i, amx M i ≤ i
  | 0 => Nat.le_refl 0
  | i + 1 => by
    have := amx_le M i
    show (if M (amx M i) < M (i + 1) then i + 1 else amx M i) ≤ i + 1
    by_cases h : M (amx M i) < M (i + 1)
    · rw [if_pos h]; omega
    · rw [if_neg h]; omega
theorem op_where (a1 a2 a3 : Int32) : OpJ Rel (d + 11) 136 237 [.int a1, .int a2, .int a3] := by
  intro hi hl sw kp Q hR k
  obtain ⟨V, st, hk, hs, ha, hx⟩ := hR.sp
  have hv := st.2.2.2.2.2.1
  have hpu := st.2.2.2.2.2.2
  have hb8 := hv.1
  have e8 : g_207 a2 (0 : Int32) (8 : Int32) = g_158 a2 (0 : Int32) (8 : Int32) := rfl
  have e1 : g_207 a3 (0 : Int32) (1 : Int32) = g_158 a3 (0 : Int32) (1 : Int32) := rfl
  have bad : (g_108 hi a1 = 0 ∧ g_208 hi a1 = 0) ∨ (¬ g_108 hi a1 = 0 ∧ ¬ g_208 hi a1 = 0 ∧ (g_158 a2 (0 : Int32) (8 : Int32) = 0 ∨ (¬ g_158 a2 (0 : Int32) (8 : Int32) = 0 ∧ g_158 a3 (0 : Int32) (1 : Int32) = 0))) → cS (d + 11) 136 [.ref 0, .int a1, .int a2, .int a3] (mkH hi hl sw kp) Q := by
    intro h
    have fin : Q (some (.long (-1))) (mkH hi hl sw kp) := by
      refine k (-1) hi hl sw kp (fun Q2 k2 => ?_)
      have k3 := k2 hi hl sw kp hR
      rcases h with ⟨-, h2⟩ | ⟨-, h2, h3 | ⟨h3, h4⟩⟩
      · exact e_237 (fun _ => k3) (fun c => absurd h2 c) (fun c => absurd h2 c) (fun c => absurd h2 c)
      · exact e_237 (fun _ => k3) (fun _ _ => k3) (fun _ c => absurd h3 c) (fun _ c => absurd h3 c)
      · exact e_237 (fun _ => k3) (fun _ _ => k3) (fun _ _ _ => k3) (fun _ _ c => absurd h4 c)
    rcases h with ⟨h1, -⟩ | ⟨h1, -, h3 | ⟨h3, h4⟩⟩
    · exact e_136 (fun _ => fin) (fun c => absurd h1 c) (fun c => absurd h1 c) (fun c => absurd h1 c)
    · exact e_136 (fun _ => fin) (fun _ _ => fin) (fun _ c => absurd h3 c) (fun _ c => absurd h3 c)
    · exact e_136 (fun _ => fin) (fun _ _ => fin) (fun _ _ _ => fin) (fun _ _ c => absurd h4 c)
  rcases plc hv a1 with ⟨p, hp, rfl, q1, q2⟩ | ⟨-, q1, q2⟩
  · have z1 : ¬ g_108 hi (nI p) = 0 := by rw [q1]; decide
    have z2 : ¬ g_208 hi (nI p) = 0 := by rw [q2]; decide
    rcases rg8 a2 with ⟨n, hn, rfl, c8⟩ | c8
    · by_cases c1 : g_158 a3 (0 : Int32) (1 : Int32) = 0
      · exact bad (Or.inr ⟨z1, z2, Or.inr ⟨c8, c1⟩⟩)
      · obtain ⟨H, bo, hsn⟩ := SN.of hs
        obtain ⟨n1, n2, n3, n4, n5, n6, n7⟩ := id hsn
        obtain ⟨D0, B, hdg, d1, d2⟩ := DG.of hv hsn
        have hD : D0 < vP V ∧ hi 28 0 = nI D0 := by
          rcases hdg with ⟨h1, h2, -⟩ | ⟨h1, -⟩
          · exact ⟨h1, h2⟩
          · omega
        have h60 := p60 hn
        have hpos : 0 < 60 ^ n := Nat.pow_pos (by decide)
        have hodb := od_big (V := V) (hi := hi) (bb := bo) (H := H) (D0 := D0) hn hp
        refine e_136 (fun c => absurd c z1) (fun _ c => absurd c c8) (fun _ _ c => absurd c c1) (fun _ _ _ => ?_)
        rw [d1]
        refine cS.hi cx_id.symm (cS.hl lx_id.symm (f37 (d := d + 4) (N := n) hv hpu hsn d2 hn (fun s' m' p' v hm' hcw => k_136_49 ?_)))
        refine f46 (d := d + 7) (D0 := D0) (B := B) (bb := bo) (H := H) hv hn hdg hcw (fun sw' o' a' b' hw => k_136_64 ?_)
        refine f47 (d := d + 8) hv hp (hw p hp) (k_136_72 (vp_in_nI (by omega) (by decide)) ?_)
        rw [nI_clamp (by omega), pw60 hn]
        refine f160 (d := d + 8) hodb hpos (by omega) (k_136_81 ?_)
        refine k _ _ _ sw' kp (fun Q2 k2 => e_237 (fun c => absurd c z2) (fun _ c => absurd c c8) (fun _ _ c => absurd c c1) (fun _ _ _ => ?_))
        refine cS.hl ly_id.symm (f233 (d := d + 2) (V := V) (hi := cx hi s' o' m' p' v (hi 260)) (D0 := D0) (bo := bo) (H := H) hv hpu hsn hn hD.1 hD.2 (fun h aa bn gg ff rr ww a2 b2 hst ho => k_237_36 (vp_in_nI (by omega) (by decide)) ?_))
        refine f234 (d := d + 9) hn (k_237_46 ?_)
        have eo : (ly (lx hl a' b') a2 b2) 304 (nI p).toNatClampNeg = lN (od V hi bo H D0 n p) := by
          rw [nI_clamp (by omega)]
          show a2 p = _
          rw [ho p (by omega), od_cg WY_cx]
        rw [eo]
        refine f236 (d := d + 8) hodb hpos (by omega) (k_237_50 ?_)
        exact k2 _ _ sw' kp (hR.fr (fr_tr (rx_fr (hi := cx hi s' o' m' p' v (hi 260))) cx_fr) rfl)
    · exact bad (Or.inr ⟨z1, z2, Or.inl c8⟩)
  · exact bad (Or.inl ⟨q1, q2⟩)
theorem op_likely (a1 : Int32) : OpI Rel (d + 11) 138 238 [.int a1] := by
  intro hi hl sw kp Q hR k
  obtain ⟨V, st, hk, hs, ha, hx⟩ := hR.sp
  have hv := st.2.2.2.2.2.1
  have hpu := st.2.2.2.2.2.2
  have hb8 := hv.1
  have e46 : hi 279 46 = nI (vP V) := hv.2.2.1.2.1
  rcases rg8 a1 with ⟨n, hn, rfl, c8⟩ | c8
  · obtain ⟨H, bo, hsn⟩ := SN.of hs
    obtain ⟨n1, n2, n3, n4, n5, n6, n7⟩ := id hsn
    obtain ⟨D0, B, hdg, d1, d2⟩ := DG.of hv hsn
    refine e_138 (fun c => absurd c c8) (fun _ => ?_)
    rw [d1]
    refine cS.hi cx_id.symm (cS.hl lx_id.symm (f37 (d := d + 4) (N := n) hv hpu hsn d2 hn (fun s' m' p' v hm' hcw => k_138_27 ?_)))
    refine f46 (d := d + 7) (D0 := D0) (B := B) (bb := bo) (H := H) hv hn hdg hcw (fun sw' o' a' b' hw => k_138_42 ?_)
    have e19 : (cx hi s' o' m' p' v (hi 260)) 19 1 = nI (vP V) := hv.2.1.2.1
    by_cases hP : vP V = 0
    · have c0 : (cx hi s' o' m' p' v (hi 260)) 19 1 ≤ (0 : Int32) := by rw [e19, hP]; decide
      refine k_138_51 (fun _ => k (-1) _ _ sw' kp (fun Q2 k2 => e_238 (fun _ => k2 _ _ sw' kp (hR.fr cx_fr rfl)) (fun c => absurd (show hi 279 46 = 0 by rw [e46, hP]; rfl) c) (fun c => absurd (show hi 279 46 = 0 by rw [e46, hP]; rfl) c))) (fun c => absurd c0 c)
    · have hD : D0 < vP V ∧ hi 28 0 = nI D0 := by
        rcases hdg with ⟨h1, h2, -⟩ | ⟨h1, -⟩
        · exact ⟨h1, h2⟩
        · omega
      have hb : ∀ t, t < vP V → od V hi bo H D0 n t < 2 ^ 63 := fun t ht => od_big hn ht
      have mid : Q (some (.int (nI (amx (od V hi bo H D0 n) (vP V - 1))))) (mkH (cx hi s' o' m' p' v (hi 260)) (lx hl a' b') sw' kp) := by
        refine k _ _ _ sw' kp (fun Q2 k2 => e_238 (fun c => absurd c (by show ¬ hi 279 46 = 0; rw [e46]; exact nI_ne0 (by omega) (by omega))) (fun _ c => absurd c c8) (fun _ _ => ?_))
        refine cS.hl ly_id.symm (f233 (d := d + 2) (V := V) (hi := cx hi s' o' m' p' v (hi 260)) (D0 := D0) (bo := bo) (H := H) hv hpu hsn hn hD.1 hD.2 (fun h aa bn gg ff rr ww a2 b2 hst ho => k_238_24 ?_))
        have e46' : (rx (cx hi s' o' m' p' v (hi 260)) h aa bn gg ff rr ww) 279 46 = nI (vP V) := e46
        refine lpu (σ := Unit) (vP V) (fun i _ => 0 < i → cW cd_238 (d + 10) Q2 28 [some (.ref 279), some (.int (nI n)), some (.int (nI (amx (od V hi bo H D0 n) (i - 1)))), some (.int (nI i))] [] (mkH (rx (cx hi s' o' m' p' v (hi 260)) h aa bn gg ff rr ww) (ly (lx hl a' b') a2 b2) sw' kp)) (fun _ _ => True) ?_ ?_ (vP V - 1) 1 () (by omega) trivial (by decide)
        · intro _ _ _
          exact k_238_28 (fun _ => k2 _ _ sw' kp (hR.fr (fr_tr (rx_fr (hi := cx hi s' o' m' p' v (hi 260))) cx_fr) rfl)) (fun c => absurd (by rw [e46']; exact Int32.le_refl _) c) (fun c => absurd (by rw [e46']; exact Int32.le_refl _) c) (fun c => absurd (by rw [e46']; exact Int32.le_refl _) c) (fun c => absurd (by rw [e46']; exact Int32.le_refl _) c)
        · intro i _ hiP _ ih hi0
          have hle := amx_le (od V hi bo H D0 n) (i - 1)
          have er : ∀ t, t < vP V → (ly (lx hl a' b') a2 b2) 304 (nI t).toNatClampNeg = lN (od V hi bo H D0 n t) := by
            intro t ht
            rw [nI_clamp (by omega)]
            show a2 t = _
            rw [ho t (by omega), od_cg WY_cx]
          have ih' := ih () trivial
          have ea : amx (od V hi bo H D0 n) (i + 1 - 1) = if od V hi bo H D0 n (amx (od V hi bo H D0 n) (i - 1)) < od V hi bo H D0 n i then i else amx (od V hi bo H D0 n) (i - 1) := by
            obtain ⟨j, rfl⟩ : ∃ j, i = j + 1 := ⟨i - 1, by omega⟩
            rfl
          rw [ea] at ih'
          refine k_238_28 (fun c => absurd c (by rw [e46']; exact nI_ge hiP (by omega))) (fun _ => vp_in_nI (by omega) (by decide)) (fun _ => vp_in_nI (by omega) (by decide)) ?_ ?_ <;> rw [er i hiP, er _ (by omega), lgc (hb i hiP) (hb _ (by omega)), nI_1] <;> intro _ c
          · rw [if_neg (by omega)] at ih'
            exact ih' (by omega)
          · rw [if_pos (by omega)] at ih'
            exact ih' (by omega)
      -- the class's loop
      refine k_138_51 (fun c => absurd c (by rw [e19]; exact nI_nle (by omega) (by omega))) (fun _ => f47 (d := d + 8) (t := 0) hv (by omega) (hw 0 (by omega)) (k_138_72 (fun c => absurd c (lgm (hb 0 (by omega)))) (fun _ => ?_)))
      refine lpu (σ := Unit) (vP V) (fun i _ => 0 < i → ∀ o6 : Option Value, cW cd_138 (d + 10) Q 51 [some (.ref 0), some (.int (nI n)), some (.int (nI (amx (od V hi bo H D0 n) (i - 1)))), some (.long (lN (od V hi bo H D0 n (amx (od V hi bo H D0 n) (i - 1))))), none, some (.int (nI i)), o6, none] [] (mkH (cx hi s' o' m' p' v (hi 260)) (lx hl a' b') sw' kp)) (fun _ _ => True) ?_ ?_ (vP V - 1) 1 () (by omega) trivial (by decide) _
      · intro _ _ _ o6
        exact k_138_51 (fun _ => mid) (fun c => absurd (by rw [e19]; exact Int32.le_refl _) c)
      · intro i _ hiP _ ih hi0 o6
        have hle := amx_le (od V hi bo H D0 n) (i - 1)
        have ih' := ih () trivial
        have ea : amx (od V hi bo H D0 n) (i + 1 - 1) = if od V hi bo H D0 n (amx (od V hi bo H D0 n) (i - 1)) < od V hi bo H D0 n i then i else amx (od V hi bo H D0 n) (i - 1) := by
          obtain ⟨j, rfl⟩ : ∃ j, i = j + 1 := ⟨i - 1, by omega⟩
          rfl
        rw [ea] at ih'
        refine k_138_51 (fun c => absurd c (by rw [e19]; exact nI_ge hiP (by omega))) (fun _ => f47 (d := d + 8) (t := i) hv hiP (hw i hiP) ?_)
        refine k_138_72 ?_ ?_ <;> rw [lgc (hb i hiP) (hb _ (by omega)), nI_1] <;> intro c
        · rw [if_neg (by omega)] at ih'
          exact ih' (by omega) _
        · rw [if_pos (by omega)] at ih'
          exact ih' (by omega) _
  · refine e_138 (fun _ => k (-1) hi hl sw kp (fun Q2 k2 => e_238 (fun _ => k2 hi hl sw kp hR) (fun _ _ => k2 hi hl sw kp hR) (fun _ c => absurd c8 c))) (fun c => absurd c8 c)
/-- where the dog most is -/
def hsum (V : vN) (hi : Nat → Nat → Int32) (bb : Nat → Nat) (H D0 n t : Nat) : Nat := Ts (fun u => od V hi bb H D0 (u + 1) t * 60 ^ (7 - u)) n
theorem hsum_b {bb : Nat → Nat} {H D0 n t : Nat} (hn : n ≤ 8) (ht : t < vP V) : hsum V hi bb H D0 n t < 2 ^ 63 := by
  have h1 : hsum V hi bb H D0 n t ≤ Ts (fun _ => 167961600000000) n := by
    refine Ts_mono n (fun u hu => ?_)
    have h2 := od_le (V := V) (hi := hi) (bb := bb) (H := H) (D0 := D0) (u := u + 1) ht
    have h3 := Nat.mul_le_mul_right (60 ^ (7 - u)) h2
    rw [← Nat.pow_add] at h3
    have h4 := p60 (n := u + 1 + (7 - u)) (by omega)
    omega
  have h5 := Ts_b (q := fun _ => 167961600000000) (B := 167961600000000) (fun _ => Nat.le_refl _) n
  omega
theorem f286_263 {c a b : Nat → Int64} (w' : ∀ row : Nat → Int64, (∀ j, j < 8 → row j = lN 0) → Q none (mkH hi (lx (uR hl 263 row) a b) sw kp)) : cS (d + 1) 286 [.ref 263, .long 0] (mkH hi (lx (uR hl 263 c) a b) sw kp) Q := by
  refine e_286_263 (lpu (σ := Nat → Int64) 8 (fun i L => cW cd_286 d Q 6 [some (.ref 263), some (.long 0), none, some (.int (nI i)), some (.int (Int32.ofNat 8))] [] (mkH hi (lx (uR hl 263 L) a b) sw kp)) (fun i L => ∀ j, j < i → L j = lN 0) ?_ ?_ 8 0 c rfl (fun j hj => absurd hj (Nat.not_lt_zero j)))
  · intro L h
    exact k_286_263_6 (fun _ => w' L h) (fun c => absurd (by decide) c) (fun c => absurd (by decide) c)
  · intro i L hi' h ih
    refine k_286_263_6 (fun c => absurd c (nI_ge (a := i) (b := 8) hi' (by decide))) (fun _ => vp_in_nI hi' (by decide)) (fun _ => ?_)
    rw [nI_clamp (by omega), nI_1]
    refine cW.hl (hl := lx (uR hl 263 (up1 L i 0)) a b) (by rw [u2_co (by decide), u2_co (by decide), u2_in]) (ih _ (fun j hj => ?_))
    by_cases hji : j = i
    · subst hji
      rw [up1_s]
      rfl
    · rw [up1_n hji]
      exact h j (by omega)
theorem op_haunt : OpI Rel (d + 11) 144 259 [] := by
  intro hi hl sw kp Q hR k
  obtain ⟨V, st, hk, hs, ha, hx⟩ := hR.sp
  have hv := st.2.2.2.2.2.1
  have hpu := st.2.2.2.2.2.2
  have hb8 := hv.1
  have e46 : hi 279 46 = nI (vP V) := hv.2.2.1.2.1
  obtain ⟨H, bo, hsn⟩ := SN.of hs
  obtain ⟨n1, n2, n3, n4, n5, n6, n7⟩ := id hsn
  obtain ⟨D0, B, hdg, d1, d2⟩ := DG.of hv hsn
  have hDo : D0 < vP V ∨ D0 = 8 := by
    rcases hdg with ⟨h, -⟩ | ⟨-, -, h, -⟩
    · exact Or.inl h
    · exact Or.inr h
  have hB : ∀ t, t < 8 → (B / 2 ^ t % 2 = 1 ↔ t = D0) := by
    intro t ht
    rcases hdg with ⟨h, -, rfl⟩ | ⟨-, -, rfl, rfl⟩
    · exact (pw_bit D0 (by omega) t ht).1
    · rw [Nat.zero_div]
      constructor
      · intro h; exact absurd h (by decide)
      · intro h; omega
  refine e_144 ?_
  rw [d1]
  have el : hl = lx (uR hl 263 (hl 263)) (hl 261) (hl 262) := by
    show hl = uR (uR (uR hl 263 (hl 263)) 261 (hl 261)) 262 (hl 262)
    rw [uR_id, uR_id, uR_id]
  refine cS.hi cx_id.symm (cS.hl el (f37 (d := d + 4) (N := 8) hv hpu hsn d2 (by decide) (fun s' m' p' v hm' hcw => k_144_16 ?_)))
  refine e_48 (f286_263 (d := d + 8) (fun c0 hc0 => k_48_8 ?_))
  refine f45 (d := d + 7) (z := 15) (D0 := D0) (oc := B) hv (by decide) hdg (fun a0 b0 o0 ho0 hr0 => k_48_20 ?_)
  have e19 : ∀ o', (cx hi s' o' m' p' v (hi 260)) 19 1 = nI (vP V) := fun o' => hv.2.1.2.1
  -- the reference, and then both end
  have mid : ∀ (o' : Nat → Int32) (hl' : Nat → Nat → Int64) (sw' : Bool), hl' 4 = hl 4 → 0 < vP V → Q (some (.int (nI (amx (hsum V hi bo H D0 8) (vP V - 1))))) (mkH (cx hi s' o' m' p' v (hi 260)) hl' sw' kp) := by
    intro o' hl' sw' hl4 hP
    have hD : D0 < vP V ∧ hi 28 0 = nI D0 := by
      rcases hdg with ⟨h1, h2, -⟩ | ⟨h1, -⟩
      · exact ⟨h1, h2⟩
      · omega
    refine k _ _ _ sw' kp (fun Q2 k2 => e_259 (fun c => absurd c (by show ¬ hi 279 46 = 0; rw [e46]; exact nI_ne0 (by omega) (by omega))) (fun _ => ?_))
    have el2 : hl' = ly (uR hl' 311 (hl' 311)) (hl' 304) (hl' 305) := by
      show hl' = uR (uR (uR hl' 311 (hl' 311)) 304 (hl' 304)) 305 (hl' 305)
      rw [uR_id, uR_id, uR_id]
    refine cW.hl el2 (lpu (σ := Nat → Int64) 8 (fun i c => cW cd_259 (d + 10) Q2 11 [some (.ref 279), some (.int (nI i)), none] [] (mkH (cx hi s' o' m' p' v (hi 260)) (ly (uR hl' 311 c) (hl' 304) (hl' 305)) sw' kp)) (fun i c => ∀ t, t < i → c t = lN 0) ?_ ?_ 8 0 (hl' 311) rfl (fun t ht => absurd ht (Nat.not_lt_zero t)))
    · intro c hc
      refine k_259_11 (fun _ => ?_) (fun c => absurd (by decide) c) (fun c => absurd (by decide) c)
      refine f233 (d := d + 2) (n := 0) (V := V) (hi := cx hi s' o' m' p' v (hi 260)) (D0 := D0) (bo := bo) (H := H) hv hpu hsn (by decide) hD.1 hD.2 (fun h aa bn gg ff rr ww a2 b2 hst ho => k_259_35 ?_)
      obtain ⟨hs1, hs2, hs3⟩ := hst
      subst hs1 hs2
      -- eight hours
      refine lpu (σ := (Nat → Int32) × (Nat → Int32) × (Nat → Int32) × (Nat → Int32) × (Nat → Int32) × (Nat → Int64) × (Nat → Int64) × (Nat → Int64)) 8 (fun u z => ∀ o2 : Option Value, cW cd_259 (d + 10) Q2 37 [some (.ref 279), some (.int (nI (u + 1))), o2] [] (mkH (rx (cx hi s' o' m' p' v (hi 260)) (nI (H + u)) (nI (min 99 (vAg V + (H + u) / vDy V))) z.1 z.2.1 z.2.2.1 z.2.2.2.1 z.2.2.2.2.1) (ly (uR hl' 311 z.2.2.2.2.2.2.2) z.2.2.2.2.2.1 z.2.2.2.2.2.2.1) sw' kp)) (fun u z => (∀ t, t < 8 → z.1 t = nI (bs V bo H u t)) ∧ (∀ t, t < 8 → z.2.2.2.2.2.1 t = lN (od V (cx hi s' o' m' p' v (hi 260)) bo H D0 u t)) ∧ ∀ t, t < vP V → z.2.2.2.2.2.2.2 t = lN (hsum V hi bo H D0 u t)) ?_ ?_ 8 0 (bn, gg, ff, rr, ww, a2, b2, c) rfl ⟨hs3, ho, fun t ht => hc t (by omega)⟩ none
      · intro z ⟨h1, h2, h3⟩ o2
        have e46' : (rx (cx hi s' o' m' p' v (hi 260)) (nI (H + 8)) (nI (min 99 (vAg V + (H + 8) / vDy V))) z.1 z.2.1 z.2.2.1 z.2.2.2.1 z.2.2.2.2.1) 279 46 = nI (vP V) := e46
        refine k_259_37 (fun _ => ?_) (fun c => absurd (by decide) c)
        refine lpu (σ := Unit) (vP V) (fun i _ => 0 < i → cW cd_259 (d + 10) Q2 96 [some (.ref 279), some (.int (nI (amx (hsum V hi bo H D0 8) (i - 1)))), some (.int (nI i))] [] (mkH (rx (cx hi s' o' m' p' v (hi 260)) (nI (H + 8)) (nI (min 99 (vAg V + (H + 8) / vDy V))) z.1 z.2.1 z.2.2.1 z.2.2.2.1 z.2.2.2.2.1) (ly (uR hl' 311 z.2.2.2.2.2.2.2) z.2.2.2.2.2.1 z.2.2.2.2.2.2.1) sw' kp)) (fun _ _ => True) ?_ ?_ (vP V - 1) 1 () (by omega) trivial (by decide)
        · intro _ _ _
          exact k_259_96 (fun _ => k2 _ _ sw' kp (hR.fr (fr_tr (rx_fr (hi := cx hi s' o' m' p' v (hi 260))) cx_fr) hl4)) (fun c => absurd (by rw [e46']; exact Int32.le_refl _) c) (fun c => absurd (by rw [e46']; exact Int32.le_refl _) c) (fun c => absurd (by rw [e46']; exact Int32.le_refl _) c) (fun c => absurd (by rw [e46']; exact Int32.le_refl _) c)
        · intro i _ hiP _ ih hi0
          have hle := amx_le (hsum V hi bo H D0 8) (i - 1)
          have er : ∀ t, t < vP V → (ly (uR hl' 311 z.2.2.2.2.2.2.2) z.2.2.2.2.2.1 z.2.2.2.2.2.2.1) 311 (nI t).toNatClampNeg = lN (hsum V hi bo H D0 8 t) := by
            intro t ht
            rw [nI_clamp (by omega)]
            show uR hl' 311 z.2.2.2.2.2.2.2 311 t = _
            rw [uR_s]
            exact h3 t ht
          have ih' := ih () trivial
          have ea : amx (hsum V hi bo H D0 8) (i + 1 - 1) = if hsum V hi bo H D0 8 (amx (hsum V hi bo H D0 8) (i - 1)) < hsum V hi bo H D0 8 i then i else amx (hsum V hi bo H D0 8) (i - 1) := by
            obtain ⟨j, rfl⟩ : ∃ j, i = j + 1 := ⟨i - 1, by omega⟩
            rfl
          rw [ea] at ih'
          refine k_259_96 (fun c => absurd c (by rw [e46']; exact nI_ge hiP (by omega))) (fun _ => vp_in_nI (by omega) (by decide)) (fun _ => vp_in_nI (by omega) (by decide)) ?_ ?_ <;> rw [er i hiP, er _ (by omega), lgc (hsum_b (by decide) hiP) (hsum_b (by decide) (by omega)), nI_1] <;> intro _ c
          · rw [if_neg (by omega)] at ih'
            exact ih' (by omega)
          · rw [if_pos (by omega)] at ih'
            exact ih' (by omega)
      · intro u z hu ⟨h1, h2, h3⟩ ih o2
        refine k_259_37 (fun c => absurd c (nI_nlt (a := 8) (by omega) (by decide))) (fun _ => ?_)
        refine f232 (d := d + 3) (u := u) (bb := bo) (D0 := D0) (V := V) (hi := cx hi s' o' m' p' v (hi 260)) hv hpu (by omega) rfl rfl h1 h2 (fun bn' gg' ff' rr' ww' a' b' k1 k2' => k_259_47 ?_)
        have e46' : (rx (cx hi s' o' m' p' v (hi 260)) (nI (H + (u + 1))) (nI (min 99 (vAg V + (H + (u + 1)) / vDy V))) bn' gg' ff' rr' ww') 279 46 = nI (vP V) := e46
        refine lpu (σ := Nat → Int64) (vP V) (fun i c => cW cd_259 (d + 10) Q2 49 [some (.ref 279), some (.int (nI (u + 1))), some (.int (nI i))] [] (mkH (rx (cx hi s' o' m' p' v (hi 260)) (nI (H + (u + 1))) (nI (min 99 (vAg V + (H + (u + 1)) / vDy V))) bn' gg' ff' rr' ww') (ly (uR hl' 311 c) a' b') sw' kp)) (fun i c => ∀ t, t < vP V → c t = lN (hsum V hi bo H D0 (if t < i then u + 1 else u) t)) ?_ ?_ (vP V) 0 z.2.2.2.2.2.2.2 (Nat.zero_add _) (fun t ht => by rw [if_neg (Nat.not_lt_zero t)]; exact h3 t ht)
        · intro c hc
          refine k_259_49 (fun _ => ?_) (fun c => absurd (by rw [e46']; exact Int32.le_refl _) c) (fun c => absurd (by rw [e46']; exact Int32.le_refl _) c)
          rw [nI_1]
          exact ih (bn', gg', ff', rr', ww', a', b', c) ⟨k1, k2', fun t ht => (hc t ht).trans (by rw [if_pos ht])⟩ _
        · intro i c hiP hc ih2
          have e8 : (8 : Int32) - nI (u + 1) = nI (7 - u) := by
            have := pk_sub (a := 8) (b := u + 1) (by omega)
            rw [show 8 - (u + 1) = 7 - u by omega] at this
            exact this
          refine k_259_49 (fun c => absurd c (by rw [e46']; exact nI_ge hiP (by omega))) (fun _ => vp_in_nI (by omega) (by decide)) (fun _ => ?_)
          rw [e8]
          refine f234 (d := d + 9) (by omega) (k_259_77 (vp_in_nI (by omega) (by decide)) ?_)
          rw [nI_clamp (by omega), nI_1]
          have q1 : (ly (uR hl' 311 c) a' b') 311 i = lN (hsum V hi bo H D0 u i) := by
            show uR hl' 311 c 311 i = _
            rw [uR_s, hc i hiP, if_neg (Nat.lt_irrefl i)]
          have q2 : (ly (uR hl' 311 c) a' b') 304 i = lN (od V hi bo H D0 (u + 1) i) := by
            show a' i = _
            rw [k2' i (by omega), od_cg WY_cx]
          rw [q1, q2, lN_mul, lN_add]
          refine cW.hl (hl := ly (uR hl' 311 (up1 c i (lN (hsum V hi bo H D0 u i + od V hi bo H D0 (u + 1) i * 60 ^ (7 - u))))) a' b') (by rw [u2_co (by decide), u2_co (by decide), u2_in]) (ih2 _ (fun t ht => ?_))
          by_cases ct : t = i
          · subst ct
            rw [up1_s, if_pos (by omega)]
            rfl
          · rw [up1_n ct, hc t ht]
            by_cases c2 : t < i
            · rw [if_pos c2, if_pos (by omega)]
            · rw [if_neg c2, if_neg (by omega)]
    · intro i c hi8 hc ih
      refine k_259_11 (fun c => absurd c (nI_ge (a := i) (b := 8) hi8 (by decide))) (fun _ => vp_in_nI hi8 (by decide)) (fun _ => ?_)
      rw [nI_clamp (by omega), nI_1]
      refine cW.hl (hl := ly (uR hl' 311 (up1 c i 0)) (hl' 304) (hl' 305)) (by rw [u2_co (by decide), u2_co (by decide), u2_in]) (ih _ (fun t ht => ?_))
      by_cases ct : t = i
      · subst ct
        rw [up1_s]
        rfl
      · rw [up1_n ct]
        exact hc t (by omega)
  -- the class's eight hours
  refine lpu (σ := Bool × Nat × (Nat → Int32) × (Nat → Int64) × (Nat → Int64) × (Nat → Int64)) 8 (fun u z => ∀ o2 : Option Value, cW cd_48 (d + 9) _ 22 [some (.ref 256), some (.int (nI u)), o2] [] (mkH (cx hi s' z.2.2.1 m' p' v (hi 260)) (lx (uR hl 263 z.2.2.2.2.2) z.2.2.2.1 z.2.2.2.2.1) z.1 kp))
    (fun u z => (z.2.2.1 12 = nI z.2.1 ∧ z.2.1 < 256 ∧ z.2.2.1 13 = sc 15 ∧ z.2.2.1 14 = sc 15) ∧ (∀ t y, t < 8 → y < 31 → lrow z.1 z.2.2.2.1 z.2.2.2.2.1 (t * 31 + y) = lN (if y = 15 ∧ t < 8 then od V hi bo H D0 u t else 0)) ∧ (∀ t, t < vP V → z.2.1 / 2 ^ t % 2 = 1 → NR V hi B u t) ∧ (∀ t, t < 8 → od V hi bo H D0 u t ≠ 0 → z.2.1 / 2 ^ t % 2 = 1) ∧ ∀ t, t < vP V → z.2.2.2.2.2 t = lN (hsum V hi bo H D0 u t)) ?_ ?_ 8 0 (sw, B, o0, a0, b0, c0) rfl ⟨⟨ho0.1, d2, ho0.2.1, ho0.2.2.1⟩, fun t y ht hy => ?_, fun t ht h => h, fun t ht h => ?_, fun t ht => hc0 t (by omega)⟩ none
  · intro z ⟨h1, h2, h3, h4, h5⟩ o2
    refine k_48_22 (fun _ => ?_) (fun c => absurd (by decide) c)
    by_cases hP : vP V = 0
    · refine k_48_87 (fun _ => k_144_23 ?_) (fun c => absurd (by rw [e19, hP]; decide) c) (fun c => absurd (by rw [e19, hP]; decide) c) (fun c => absurd (by rw [e19, hP]; decide) c) (fun c => absurd (by rw [e19, hP]; decide) c) (fun c => absurd (by rw [e19, hP]; decide) c)
      exact k (-1) _ _ z.1 kp (fun Q2 k2 => e_259 (fun _ => k2 _ _ z.1 kp (hR.fr cx_fr rfl)) (fun c => absurd (show hi 279 46 = 0 by rw [e46, hP]; rfl) c))
    · refine k_48_87 (fun c => absurd c (by rw [e19]; exact nI_nle (by omega) (by omega))) (fun _ _ => ?_) (fun _ c => absurd rfl c) (fun _ c => absurd rfl c) (fun _ c => absurd rfl c) (fun _ c => absurd rfl c)
      refine lpu (σ := Unit) (vP V) (fun i _ => 0 < i → cW cd_48 (d + 9) _ 87 [some (.ref 256), some (.int (nI (amx (hsum V hi bo H D0 8) (i - 1)))), some (.int (nI i))] [] (mkH (cx hi s' z.2.2.1 m' p' v (hi 260)) (lx (uR hl 263 z.2.2.2.2.2) z.2.2.2.1 z.2.2.2.2.1) z.1 kp)) (fun _ _ => True) ?_ ?_ (vP V - 1) 1 () (by omega) trivial (by decide)
      · intro _ _ _
        exact k_48_87 (fun _ => k_144_23 (mid _ _ z.1 rfl (by omega))) (fun c => absurd (by rw [e19]; exact Int32.le_refl _) c) (fun c => absurd (by rw [e19]; exact Int32.le_refl _) c) (fun c => absurd (by rw [e19]; exact Int32.le_refl _) c) (fun c => absurd (by rw [e19]; exact Int32.le_refl _) c) (fun c => absurd (by rw [e19]; exact Int32.le_refl _) c)
      · intro i _ hiP _ ih hi0
        have hle := amx_le (hsum V hi bo H D0 8) (i - 1)
        have er : ∀ t, t < vP V → (lx (uR hl 263 z.2.2.2.2.2) z.2.2.2.1 z.2.2.2.2.1) 263 (nI t).toNatClampNeg = lN (hsum V hi bo H D0 8 t) := by
          intro t ht
          rw [nI_clamp (by omega)]
          show uR hl 263 z.2.2.2.2.2 263 t = _
          rw [uR_s]
          exact h5 t ht
        have ih' := ih () trivial
        have ea : amx (hsum V hi bo H D0 8) (i + 1 - 1) = if hsum V hi bo H D0 8 (amx (hsum V hi bo H D0 8) (i - 1)) < hsum V hi bo H D0 8 i then i else amx (hsum V hi bo H D0 8) (i - 1) := by
          obtain ⟨j, rfl⟩ : ∃ j, i = j + 1 := ⟨i - 1, by omega⟩
          rfl
        rw [ea] at ih'
        have nm : ¬ nI (amx (hsum V hi bo H D0 8) (i - 1)) = -1 := fun c => by
          have : nI (amx (hsum V hi bo H D0 8) (i - 1)) < 0 := by rw [c]; decide
          exact absurd this (nI_pos (by omega))
        refine k_48_87 (fun c => absurd c (by rw [e19]; exact nI_ge hiP (by omega))) (fun _ c => absurd c nm) (fun _ _ => vp_in_nI (by omega) (by decide)) (fun _ _ => vp_in_nI (by omega) (by decide)) ?_ ?_ <;> rw [er i hiP, er _ (by omega), lgc (hsum_b (by decide) hiP) (hsum_b (by decide) (by omega)), nI_1] <;> intro _ _ c
        · rw [if_neg (by omega)] at ih'
          exact ih' (by omega)
        · rw [if_pos (by omega)] at ih'
          exact ih' (by omega)
  · intro u z hu ⟨⟨h1, h1b, h1c, h1d⟩, h2, h3, h4, h5⟩ ih o2
    refine k_48_22 (fun c => absurd c (nI_ge (a := u) (b := 8) hu (by decide))) (fun _ => ?_)
    refine f52n (d := d + 7) (B := B) (bb := bo) (H := H) (D0 := D0) hv (by omega) h1 h1b h1c h1d (fun u2 f t hu2 hf hnr ht => hcw u2 f t (by omega) hf hnr ht) h3 h2 (fun t ht => od_8 (by omega) ht hDo) h4 (fun x oc' a' b' o' k1 k2 k3 k4 => ?_)
    refine k_48_34 ?_
    refine lpu (σ := Nat → Int64) (vP V) (fun i c => cW cd_48 (d + 9) _ 37 [some (.ref 256), some (.int (nI u)), some (.int (nI i))] [] (mkH (cx hi s' o' m' p' v (hi 260)) (lx (uR hl 263 c) a' b') (!z.1) kp)) (fun i c => ∀ t, t < vP V → c t = lN (hsum V hi bo H D0 (if t < i then u + 1 else u) t)) ?_ ?_ (vP V) 0 z.2.2.2.2.2 (Nat.zero_add _) (fun t ht => by rw [if_neg (Nat.not_lt_zero t)]; exact h5 t ht)
    · intro c hc
      refine k_48_37 (fun _ => ?_) (fun c => absurd (by rw [e19]; exact Int32.le_refl _) c) (fun c => absurd (by rw [e19]; exact Int32.le_refl _) c)
      rw [nI_1]
      exact ih (!z.1, oc', o', a', b', c) ⟨⟨k1.1, k1.2.1, k1.2.2.2.1, k1.2.2.2.2⟩, k2, k3, k4, fun t ht => (hc t ht).trans (by rw [if_pos ht])⟩ _
    · intro i c hiP hc ih2
      have e7 : (7 : Int32) - nI u = nI (7 - u) := pk_sub (a := 7) (by omega)
      refine k_48_37 (fun c => absurd c (by rw [e19]; exact nI_ge hiP (by omega))) (fun _ => vp_in_nI (by omega) (by decide)) (fun _ => ?_)
      refine f47 (d := d + 7) (t := i) hv hiP (x := lN (od V hi bo H D0 (u + 1) i)) (by rw [k2 i 15 (by omega) (by decide), if_pos ⟨rfl, by omega⟩]) ?_
      refine k_48_60 (by rw [e7]; exact vp_in_nI (by omega) (by decide)) (vp_in_nI (by omega) (by decide)) ?_
      rw [e7, nI_clamp (by omega), nI_clamp (by omega), nI_1, pw60 (by omega)]
      have q1 : (lx (uR hl 263 c) a' b') 263 i = lN (hsum V hi bo H D0 u i) := by
        show uR hl 263 c 263 i = _
        rw [uR_s, hc i hiP, if_neg (Nat.lt_irrefl i)]
      rw [q1, lN_mul, lN_add]
      refine cW.hl (hl := lx (uR hl 263 (up1 c i (lN (hsum V hi bo H D0 u i + od V hi bo H D0 (u + 1) i * 60 ^ (7 - u))))) a' b') (by rw [u2_co (by decide), u2_co (by decide), u2_in]) (ih2 _ (fun t ht => ?_))
      by_cases ct : t = i
      · subst ct
        rw [up1_s, if_pos (by omega)]
        rfl
      · rw [up1_n ct, hc t ht]
        by_cases c2 : t < i
        · rw [if_pos c2, if_pos (by omega)]
        · rw [if_neg c2, if_neg (by omega)]
  · show lrow sw a0 b0 (t * 31 + y) = _
    rw [hr0 t y ht hy]
    congr 1
    show _ = if y = 15 ∧ t < 8 then (if t = D0 then 1 else 0) else 0
    by_cases c : t = D0 ∧ y = 15
    · rw [if_pos c, if_pos ⟨c.2, ht⟩, if_pos c.1]
    · rw [if_neg c]
      by_cases c2 : y = 15 ∧ t < 8
      · rw [if_pos c2, if_neg (fun h => c ⟨h, c2.1⟩)]
      · rw [if_neg c2]
  · have h' : (if t = D0 then 1 else 0) ≠ 0 := h
    by_cases c : t = D0
    · exact (hB t ht).mpr c
    · rw [if_neg c] at h'
      exact absurd rfl h'
end OPSE
