/-! ===== operation: hour ===== -/
section HOUR
variable {d : Nat} {Q : am_Q} {hi : Nat → Nat → Int32} {hl : Nat → Nat → Int64} {sw : Bool} {kp : Nat → Nat} {V : vN}
/-- a draw's goal, as the class counts it -/
theorem f44 {s o m p v g : Nat → Int32} {bo : Nat → Nat} {B H q dr : Nat} (hv : R_vil V hi) (hq : q < vP V) (hdr : dr < 60) (hcw : CW V hi B bo H 1 v) (hn : NR V hi B 0 q) (w' : ∀ t, t < vP V → GG (qp V hi bo H 0 q) (vP V) q dr t → Q (some (.int (nI t))) (mkH (cx hi s o m p v g) hl sw kp)) : cS (d + 3) 44 [.ref 256, .int (nI q), .int (nI dr)] (mkH (cx hi s o m p v g) hl sw kp) Q := by
  have hb := hv.1
  have e1 : (cx hi s o m p v g) 19 1 = nI (vP V) := hv.2.1.2.1
  have h60 : Ts (WY V hi bo H 0 q) (vP V) = 60 := wy_all hq
  refine e_44 (lpu (σ := Unit) (vP V) (fun i _ => cW cd_44 (d + 2) Q 5 [some (.ref 256), some (.int (nI q)), some (.int (nI dr)), some (.int (nI (Ts (WY V hi bo H 0 q) i))), some (.int (nI i))] [] (mkH (cx hi s o m p v g) hl sw kp)) (fun i _ => Ts (WY V hi bo H 0 q) i ≤ dr) ?_ ?_ (vP V) 0 () (Nat.zero_add _) (Nat.zero_le _))
  · intro _ hI
    rw [h60] at hI
    omega
  · intro i _ hiP hI ih
    obtain ⟨g1, g2⟩ := g43 (hi := hi) (u := 0) (s := s) (o := o) (m := m) (p := p) (w := v) (g := g) hv (by decide) hq hiP
    have g3 : g_43 (cx hi s o m p v g) (0 : Int32) (nI q) (nI i) = nI (WY V hi bo H 0 q i) := g1.trans (hcw 0 q i (by decide) hq hn hiP)
    have hT : Ts (WY V hi bo H 0 q) (i + 1) ≤ 60 := by
      rw [← h60]
      exact Ts_le (by omega)
    have es : nI (Ts (WY V hi bo H 0 q) i) + g_43 (cx hi s o m p v g) (0 : Int32) (nI q) (nI i) = nI (Ts (WY V hi bo H 0 q) (i + 1)) := by
      rw [g3, nI_add]
      rfl
    refine k_44_5 (fun c => absurd c (by rw [e1]; exact nI_ge hiP (by omega))) (fun _ _ _ _ _ => ?_) (fun _ c => ?_) (fun _ c => ?_)
    · have : ((0 : Int32) * 8 + nI q) * 8 + nI i = nI ((0 * 8 + q) * 8 + i) := g2
      rw [this]
      exact vp_in_nI (by omega) (by decide)
    · rw [es] at c ⊢
      rw [nI_1]
      exact ih () ((nI_leI (by omega) (by omega)).mp c)
    · rw [es] at c
      have c2 : ¬ Ts (WY V hi bo H 0 q) (i + 1) ≤ dr := fun z => c (nI_le z (by omega))
      refine w' i hiP ?_
      have s1 : Ts (WY V hi bo H 0 q) i = _ := wy_sum (q := qp V hi bo H 0 q) (P := vP V) (f := q) i
      have s2 : Ts (WY V hi bo H 0 q) (i + 1) = _ := wy_sum (q := qp V hi bo H 0 q) (P := vP V) (f := q) (i + 1)
      rw [s1] at hI
      rw [s2] at c2
      unfold GG
      by_cases cz : Ts (qp V hi bo H 0 q) (vP V) = 0
      · rw [if_pos cz] at hI c2 ⊢
        have a1 : ¬ q < i := fun z => by rw [if_pos z] at hI; omega
        have a2 : q < i + 1 := by
          rcases Nat.lt_or_ge q (i + 1) with z | z
          · exact z
          · rw [if_neg (by omega)] at c2
            omega
        omega
      · rw [if_neg cz] at hI c2 ⊢
        omega
/-- the case heard -/
def hdd (V : vN) (H c : Nat) : Bool := Nat.blt c (vC V) && Nat.beq (H / vHr V % vC V) c
def nst (s b : Int32) : Int32 := if s < b then (if -b < s then 0 else 2) else 1
def nsc (h : Bool) (s st g : Int32) : Int32 := bif h then (if st = 0 then s + g else s) else s
def nsd (h : Bool) (s st g b : Int32) : Int32 := bif h then (if st = 0 then nst (s + g) b else st) else st
theorem hdd_t {H : Nat} (hC : 0 < vC V) : hdd V H (H / vHr V % vC V) = true := by
  unfold hdd
  rw [Nat.beq_refl, Bool.and_true]
  exact Nat.ble_eq_true_of_le (Nat.mod_lt _ hC)
theorem hdd_f {H c : Nat} (h : vC V = 0 ∨ c ≠ H / vHr V % vC V) : hdd V H c = false := by
  unfold hdd
  rcases h with h | h
  · have : Nat.blt c (vC V) = false := by
      rw [h]
      rfl
    rw [this]
    rfl
  · have : Nat.beq (H / vHr V % vC V) c = false := by
      cases hh : Nat.beq (H / vHr V % vC V) c with
      | true => exact absurd (Nat.eq_of_beq_eq_true hh).symm h
      | false => rfl
    rw [this, Bool.and_false]
theorem g120' {H : Nat} (hv : R_vil V hi) (hH : H ≤ 5000) (hC : 0 < vC V) : g_120 hi (nI H) = nI (H / vHr V % vC V) := by
  have hb := hv.1
  have h1 : H / vHr V ≤ H := Nat.div_le_self _ _
  unfold g_120
  rw [hv.2.1.2.2.2.2.2.1, hv.2.1.2.2.2.1, if_neg (nI_nle (n := vHr V) (by omega) (by omega)), if_neg (nI_nle (n := vC V) (by omega) (by omega)), pk_div (by omega) (by omega) (by omega), pk_rem (by omega) (by omega) (by omega)]
theorem g120z {x : Int32} (hv : R_vil V hi) (hC : vC V = 0) : g_120 hi x = -1 := by
  unfold g_120
  rw [hv.2.1.2.2.2.1, hC]
  by_cases c : hi 19 5 ≤ 0
  · rw [if_pos c]
  · rw [if_neg c, if_pos (by decide)]
theorem f82 {t H : Nat} (hv : R_vil V hi) (ht : t < vP V) (e28 : hi 28 0 = nI t) (hH : H ≤ 5000) (w' : ∀ hi' : Nat → Nat → Int32, (∀ a j, ¬ (a = 30 ∨ a = 31) → hi' a j = hi a j) → (∀ c, c < 4 → hi' 30 c = nsc (hdd V H c) (hi 30 c) (hi 31 c) (nI (cnA hi c t) - 3)) → (∀ c, c < 4 → hi' 31 c = nsd (hdd V H c) (hi 30 c) (hi 31 c) (nI (cnA hi c t) - 3) (hi 23 c)) → Q none (mkH hi' hl sw kp)) : cS (d + 3) 82 [.ref 28, .ref 19, .int (g_120 hi (nI H))] (mkH hi hl sw kp) Q := by
  have hb := hv.1
  rcases Nat.eq_zero_or_pos (vC V) with hC | hC
  · rw [g120z hv hC]
    have z : g_109 hi (-1) = 0 := g109_out hv.2.1.2.2.2.1 (Or.inl (by decide))
    have same : Q none (mkH hi hl sw kp) := w' hi (fun _ _ _ => rfl) (fun c _ => by rw [hdd_f (Or.inl hC)]; rfl) (fun c _ => by rw [hdd_f (Or.inl hC)]; rfl)
    exact e_82 (fun _ => same) (fun c => absurd z c) (fun c => absurd z c) (fun c => absurd z c) (fun c => absurd z c) (fun c => absurd z c) (fun c => absurd z c) (fun c => absurd z c)
  · rw [g120' hv hH hC]
    obtain ⟨k, hk⟩ : ∃ k, k = H / vHr V % vC V := ⟨_, rfl⟩
    have hkC : k < vC V := by rw [hk]; exact Nat.mod_lt _ hC
    have h1 : hdd V H k = true := by rw [hk]; exact hdd_t hC
    have h0 : ∀ c, c ≠ k → hdd V H c = false := fun c hc => hdd_f (Or.inr (by rw [← hk]; exact hc))
    rw [← hk]
    have ek : (nI k).toNatClampNeg = k := nI_clamp (by omega)
    have et : (nI t).toNatClampNeg = t := nI_clamp (by omega)
    have z9 : ¬ g_109 hi (nI k) = 0 := by rw [g109_in hv.2.1.2.2.2.1 hb.2.2.2.1 hkC]; decide
    obtain ⟨e, e1, e2, e3, e4, e5, e6⟩ := cnA_ok hv ht hkC
    have z8 : ¬ g_108 hi (nI t) = 0 := by rw [g108_in hv.2.1.2.1 hb.2.1 ht]; decide
    have z10 : ¬ g_110 hi (nI e) = 0 := by rw [g110_in hv.2.1.1 hb.1 e1]; decide
    have ei : nI e * 4 + nI k = nI (4 * e + k) := by
      rw [show (4 : Int32) = nI 4 from rfl, pk_mul, nI_add, Nat.mul_comm]
    have eg : g_116 hi (hi 28 0) (nI k) = nI (cnA hi k t) - 3 := by
      unfold g_116
      rw [e28, et, e2, if_neg z8, if_neg z9, if_neg z10, ei, nI_clamp (by omega), e4]
    have es : (u2 hi 30 k (hi 30 k + (nI (cnA hi k t) - 3))) 30 k = hi 30 k + (nI (cnA hi k t) - 3) := u2_s
    have o30 : ∀ x c, c ≠ k → (u2 hi 30 k x) 30 c = hi 30 c := fun x c hc => u2_nn (by omega)
    refine e_82 (fun c => absurd c z9) (fun _ => vp_in_nI (by omega) (by decide)) (fun _ _ _ _ => by rw [e28]; exact vp_in_nI (by omega) (by decide)) (fun _ _ _ _ _ => by rw [e28, et, e2, ei]; exact vp_in_nI (by omega) (by decide)) ?_ ?_ ?_ ?_
    · intro _ c1 c2 c3
      rw [ek, eg] at c2 c3 ⊢
      rw [ek] at c1
      rw [es] at c2 c3
      refine w' _ (fun a j hn => by rw [u2_row_ne (by omega)]) (fun c hc => ?_) (fun c hc => ?_)
      · by_cases hck : c = k
        · subst hck
          rw [es, h1]
          unfold nsc
          rw [cond_true, if_pos c1]
        · rw [o30 _ c hck, h0 c hck]
          rfl
      · rw [u2_row_ne (by decide)]
        by_cases hck : c = k
        · subst hck
          rw [h1]
          unfold nsd nst
          rw [cond_true, if_pos c1, if_pos c2, if_pos c3, c1]
        · rw [h0 c hck]
          rfl
    · intro _ c1 c2 c3
      rw [ek, eg] at c2 c3 ⊢
      rw [ek] at c1
      rw [es] at c2 c3
      refine w' _ (fun a j hn => ?_) (fun c hc => ?_) (fun c hc => ?_)
      · rw [u2_row_ne (by omega), u2_row_ne (by omega)]
      · rw [u2_row_ne (by decide)]
        by_cases hck : c = k
        · subst hck
          rw [es, h1]
          unfold nsc
          rw [cond_true, if_pos c1]
        · rw [o30 _ c hck, h0 c hck]
          rfl
      · by_cases hck : c = k
        · subst hck
          rw [h1]
          unfold nsd nst
          rw [cond_true, if_pos c1, if_pos c2, if_neg c3]
          exact u2_s
        · rw [h0 c hck, u2_nn (by omega), u2_row_ne (by decide)]
          rfl
    · intro _ c1 c2
      rw [ek, eg] at c2 ⊢
      rw [ek] at c1
      rw [es] at c2
      refine w' _ (fun a j hn => ?_) (fun c hc => ?_) (fun c hc => ?_)
      · rw [u2_row_ne (by omega), u2_row_ne (by omega)]
      · rw [u2_row_ne (by decide)]
        by_cases hck : c = k
        · subst hck
          rw [es, h1]
          unfold nsc
          rw [cond_true, if_pos c1]
        · rw [o30 _ c hck, h0 c hck]
          rfl
      · by_cases hck : c = k
        · subst hck
          rw [h1]
          unfold nsd nst
          rw [cond_true, if_pos c1, if_neg c2]
          exact u2_s
        · rw [h0 c hck, u2_nn (by omega), u2_row_ne (by decide)]
          rfl
    · intro _ c1
      rw [ek] at c1
      refine w' hi (fun _ _ _ => rfl) (fun c hc => ?_) (fun c hc => ?_)
      · by_cases hck : c = k
        · subst hck
          rw [h1]
          unfold nsc
          rw [cond_true, if_neg c1]
        · rw [h0 c hck]
          rfl
      · by_cases hck : c = k
        · subst hck
          rw [h1]
          unfold nsd
          rw [cond_true, if_neg c1]
        · rw [h0 c hck]
          rfl
/-- the class comes to t -/
theorem f81 {t H : Nat} (st : Rst V hi hl) (ht : t < vP V) (eH : hi 28 1 = nI H) (hH : H ≤ 2000) (w' : ∀ hi' : Nat → Nat → Int32, (∀ c j, ¬ (28 ≤ c ∧ c ≤ 32) → hi' c j = hi c j) → hi' 28 0 = nI t → hi' 28 1 = nI (H + 1) → hi' 28 2 = hi 28 2 → (∀ j, j < 8 → hi' 29 j = if (H + 1) % vDy V = 0 then nI 0 else hi 29 j) → (∀ c, c < 4 → hi' 30 c = nsc (hdd V H c) (hi 30 c) (hi 31 c) (nI (cnA hi c t) - 3)) → (∀ c, c < 4 → hi' 31 c = nsd (hdd V H c) (hi 30 c) (hi 31 c) (nI (cnA hi c t) - 3) (hi 23 c)) → (∀ j, hi' 32 j = if j = H % 60 then nI t else hi 32 j) → Q none (mkH hi' hl sw kp)) : cS (d + 4) 81 [.ref 28, .ref 19, .int (nI t)] (mkH hi hl sw kp) Q := by
  have hv := st.2.2.2.2.2.1
  have hb := hv.1
  have em : hi 28 1 - hi 28 1 / 60 * 60 = nI (H % 60) := by
    rw [eH]
    exact pk_rem (d := 60) (by omega) (by decide) (by decide)
  have hm : H % 60 < 60 := Nat.mod_lt _ (by decide)
  refine e_81 (by rw [em]; exact vp_in_nI hm (by decide)) ?_
  rw [em, nI_clamp (by omega)]
  have hv2 : R_vil V (u2 (u2 hi 28 0 (nI t)) 32 (H % 60) (nI t)) := (st.fr (hl' := hl) (fun c j h => by rw [u2_row_ne (by unfold NS at h; omega), u2_row_ne (by unfold NS at h; omega)]) rfl).2.2.2.2.2.1
  rw [eH]
  refine f82 (d := d) hv2 ht (by rw [u2_row_ne (by decide)]; exact u2_s) (by omega) (fun hi1 a1 a2 a3 => ?_)
  have x281 : hi1 28 1 = nI H := by
    rw [a1 28 1 (by decide), u2_row_ne (by decide), u2_nn (by decide)]
    exact eH
  have e1 : hi1 28 1 + 1 = nI (H + 1) := by rw [x281, nI_1]
  have x19 : (u2 hi1 28 1 (nI (H + 1))) 19 4 = nI (vDy V) := by
    rw [u2_row_ne (by decide), a1 19 4 (by decide), u2_row_ne (by decide), u2_row_ne (by decide)]
    exact hv.2.1.2.2.2.2.1
  have e117 : g_117 (u2 hi1 28 1 (nI (H + 1))) (nI (H + 1)) = nI ((H + 1) % vDy V) := by
    unfold g_117
    rw [x19, if_neg (nI_nle (n := vDy V) (by omega) (by omega)), pk_rem (by omega) (by omega) (by omega)]
  have hmd : (H + 1) % vDy V < vDy V := Nat.mod_lt _ (by omega)
  have fin : ∀ L : Nat → Int32, (∀ j, j < 8 → L j = if (H + 1) % vDy V = 0 then nI 0 else hi 29 j) → Q none (mkH (uR (u2 hi1 28 1 (nI (H + 1))) 29 L) hl sw kp) := by
    intro L hL
    refine w' _ (fun c j hn => ?_) ?_ ?_ ?_ (fun j hj => ?_) (fun c hc => ?_) (fun c hc => ?_) (fun j => ?_)
    · rw [uR_ne (by omega), u2_row_ne (by omega), a1 c j (by omega), u2_row_ne (by omega), u2_row_ne (by omega)]
    · rw [uR_ne (by decide), u2_nn (by decide), a1 28 0 (by decide), u2_row_ne (by decide)]
      exact u2_s
    · rw [uR_ne (by decide)]
      exact u2_s
    · rw [uR_ne (by decide), u2_nn (by decide), a1 28 2 (by decide), u2_row_ne (by decide), u2_nn (by decide)]
    · rw [uR_s]
      exact hL j hj
    · rw [uR_ne (by decide), u2_row_ne (by decide), a2 c hc]
      rfl
    · rw [uR_ne (by decide), u2_row_ne (by decide), a3 c hc]
      rfl
    · rw [uR_ne (by decide), u2_row_ne (by decide), a1 32 j (by decide), u2_eq, u2_row_ne (by decide)]
      by_cases hj : j = H % 60
      · rw [if_pos ⟨rfl, hj⟩, if_pos hj]
      · rw [if_neg (fun z => hj z.2), if_neg hj]
  have x29 : ∀ j, (u2 hi1 28 1 (nI (H + 1))) 29 j = hi 29 j := fun j => by
    rw [u2_row_ne (by decide), a1 29 j (by decide), u2_row_ne (by decide), u2_row_ne (by decide)]
  refine k_81_31 ?_ ?_ <;> rw [e1, e117] <;> intro c
  · have c0 : (H + 1) % vDy V = 0 := (nI_eq (b := 0) (by omega) (by decide)).mp c
    refine e_287_29 (cW.hi (hi := uR (u2 hi1 28 1 (nI (H + 1))) 29 ((u2 hi1 28 1 (nI (H + 1))) 29)) uR_id.symm ?_)
    refine lpu (σ := Nat → Int32) 8 (fun i L => cW cd_287 (d + 2) _ 5 [some (.ref 29), some (.int 0), some (.int (nI i)), some (.int (Int32.ofNat 8))] [] (mkH (uR (u2 hi1 28 1 (nI (H + 1))) 29 L) hl sw kp)) (fun i L => ∀ j, j < i → L j = nI 0) ?_ ?_ 8 0 _ rfl (fun j hj => absurd hj (Nat.not_lt_zero j))
    · intro L h
      exact k_287_29_5 (fun _ => k_81_60 (fin L (fun j hj => by rw [if_pos c0]; exact h j hj))) (fun c => absurd (by decide) c) (fun c => absurd (by decide) c)
    · intro i L hi' h ih
      refine k_287_29_5 (fun c => absurd c (nI_ge (a := i) (b := 8) hi' (by decide))) (fun _ => vp_in_nI hi' (by decide)) (fun _ => ?_)
      rw [nI_clamp (by omega), nI_1]
      refine cW.hi u2_in (ih _ (fun j hj => ?_))
      by_cases hji : j = i
      · subst hji
        rw [up1_s]
        rfl
      · rw [up1_n hji]
        exact h j (by omega)
  · have c0 : ¬ (H + 1) % vDy V = 0 := fun z => c (by rw [z]; rfl)
    refine k_81_60 (qhi (hi := uR (u2 hi1 28 1 (nI (H + 1))) 29 ((u2 hi1 28 1 (nI (H + 1))) 29)) uR_id.symm (fin _ (fun j hj => ?_)))
    rw [if_neg c0]
    exact x29 j
end HOUR
