/-! ===== acts: lay, take, undo, redo; images ===== -/
theorem u2_s {α : Type} {f : Nat → Nat → α} {i j : Nat} {x : α} : u2 f i j x i j = x := by rw [u2_eq, if_pos ⟨rfl, rfl⟩]
section ACTS
variable {d : Nat} {Q : am_Q} {hi : Nat → Nat → Int32} {hl : Nat → Nat → Int64} {sw : Bool} {kp : Nat → Nat} {V : vN}
/-- now is copied to the kept state at s; done and undone may change -/
def CK (hi' hi : Nat → Nat → Int32) (s : Nat) : Prop := (∀ c, c ≠ 33 → (c < s ∨ s + 4 < c) → hi' c = hi c) ∧ (∀ j, j < 3 → hi' s j = hi 28 j) ∧ (∀ j, j < 8 → hi' (s + 1) j = hi 29 j) ∧ (∀ j, j < 4 → hi' (s + 2) j = hi 30 j) ∧ (∀ j, j < 4 → hi' (s + 3) j = hi 31 j) ∧ (∀ j, j < 60 → hi' (s + 4) j = hi 32 j)
theorem CK.of {hi' hi0 : Nat → Nat → Int32} {s : Nat} (hs : 33 < s) (h : CP hi' hi0 s 28) (e : ∀ c, c ≠ 33 → hi0 c = hi c) {x y : Int32} : CK (u2 (u2 hi' 33 1 x) 33 2 y) hi s := by
  obtain ⟨h0, h1, h2, h3, h4, h5⟩ := h
  refine ⟨fun c hc hc2 => ?_, fun j hj => ?_, fun j hj => ?_, fun j hj => ?_, fun j hj => ?_, fun j hj => ?_⟩
  · rw [u2_row_ne hc, u2_row_ne hc, h0 c hc2, e c hc]
  · rw [u2_row_ne (by omega), u2_row_ne (by omega), h1 j hj, e 28 (by decide)]
  · rw [u2_row_ne (by omega), u2_row_ne (by omega), h2 j hj, e _ (by decide)]
  · rw [u2_row_ne (by omega), u2_row_ne (by omega), h3 j hj, e _ (by decide)]
  · rw [u2_row_ne (by omega), u2_row_ne (by omega), h4 j hj, e _ (by decide)]
  · rw [u2_row_ne (by omega), u2_row_ne (by omega), h5 j hj, e _ (by decide)]
theorem f2 {a : Nat} (hk : R_kp kp) (ha : a ≤ 40) (e1 : hi 33 1 = nI a) (w : ∀ (hi' : Nat → Nat → Int32) (kp' : Nat → Nat) (a' : Nat), R_kp kp' → a' < 40 → ((kp' = kp ∧ a' = a) ∨ (kp' = kpr kp ∧ a = 40 ∧ a' = 39)) → CK hi' hi (35 + 5 * kp' a') → hi' 33 1 = nI (a' + 1) → hi' 33 2 = nI 0 → Q none (mkH hi' hl sw kp')) : cS (d + 2) 2 [.ref 33, .ref 28] (mkH hi hl sw kp) Q := by
  refine e_2 (fun c => ?_) (fun c => ?_)
  · rw [e1] at c
    have h40 : a < 40 := (nI_ltI (b := 40) (by omega) (by decide)).mp c
    have hka := hk.1 a (by omega)
    have ea : (hi 33 1).toNatClampNeg = a := by rw [e1, nI_clamp (by omega)]
    refine k_2_13 (by rw [e1]; exact vp_in_nI (by omega) (by decide)) (by rw [ea]; exact hka) ?_
    rw [ea]
    refine f80 (stt_k hka) stt_28 (by omega) (fun hi' cp => ?_)
    refine k_2_26 ?_
    have e3 : hi' 33 1 + 1 = nI (a + 1) := by rw [cp.1 33 (by omega), e1, nI_1]
    rw [e3]
    exact w _ kp a hk h40 (Or.inl ⟨rfl, rfl⟩) (CK.of (by omega) cp (fun _ _ => rfl)) (by rw [u2_nn (by decide), u2_s]) (by rw [u2_s]; rfl)
  · rw [e1] at c
    have h40 : a = 40 := by
      rcases Nat.lt_or_ge a 40 with q | q
      · exact absurd (nI_lt (b := 40) q (by decide)) c
      · omega
    refine f3 hk ?_
    have hk2 := kpr_ok hk
    have hka := hk2.1 39 (by omega)
    have ea : ((u2 hi 33 1 39) 33 1).toNatClampNeg = 39 := by rw [u2_s]; rfl
    refine k_2_13 (by rw [u2_s]; exact vp_in_nI (n := 39) (by omega) (by decide)) (by rw [ea]; exact hka) ?_
    rw [ea]
    refine f80 (stt_k hka) stt_28 (by omega) (fun hi' cp => ?_)
    refine k_2_26 ?_
    have e3 : hi' 33 1 + 1 = nI (39 + 1) := by rw [cp.1 33 (by omega), u2_s]; rfl
    rw [e3]
    exact w _ (kpr kp) 39 hk2 (by omega) (Or.inr ⟨rfl, h40, rfl⟩) (CK.of (by omega) cp (fun c hc => u2_row_ne hc)) (by rw [u2_nn (by decide), u2_s]) (by rw [u2_s]; rfl)
theorem act2 {a : Nat} (ha : a < 40) (e : hi 279 66 = nI a) (w : ∀ g : Nat → Int32, (∀ k, k < 81 → g (82 * a + k) = hi 299 k) → (∀ m, m < 82 * a ∨ 82 * a + 81 ≤ m → g m = hi 303 m) → Q none (mkH (u2 (u2 (uR hi 303 g) 279 66 (nI (a + 1))) 279 67 (nI 0)) hl sw kp)) : cW cd_223 d Q 51 [some (.ref 279), some (.int 0)] [] (mkH hi hl sw kp) := by
  refine cW.hi uR_id.symm (lpu (σ := Nat → Int32) 81 (fun i g => cW cd_223 d Q 51 [some (.ref 279), some (.int (nI i))] [] (mkH (uR hi 303 g) hl sw kp)) (fun i g => (∀ k, k < i → g (82 * a + k) = hi 299 k) ∧ ∀ m, m < 82 * a ∨ 82 * a + i ≤ m → g m = hi 303 m) ?_ ?_ 81 0 (hi 303) rfl ⟨fun k hk => absurd hk (Nat.not_lt_zero k), fun m _ => rfl⟩)
  · intro g ⟨h1, h2⟩
    refine k_223_51 (fun _ => ?_) (fun c => absurd (by decide) c) (fun c => absurd (by decide) c) (fun c => absurd (by decide) c)
    have e3 : (uR hi 303 g) 279 66 + 1 = nI (a + 1) := by
      show hi 279 66 + 1 = _
      rw [e, nI_1]
    rw [e3]
    exact w g h1 h2
  · intro i g hi' ⟨h1, h2⟩ ih
    have e4 : (82 : Int32) * (uR hi 303 g) 279 66 + nI i = nI (82 * a + i) := by
      show (82 : Int32) * hi 279 66 + nI i = _
      rw [e, show (82 : Int32) = nI 82 from rfl, pk_mul, nI_add]
    refine k_223_51 (fun c => absurd c (nI_ge (a := i) (b := 81) hi' (by decide))) (fun _ => vp_in_nI (by omega) (by decide)) (fun _ => by rw [e4]; exact vp_in_nI (by omega) (by decide)) (fun _ => ?_)
    rw [e4, nI_clamp (by omega), nI_clamp (by omega), nI_1]
    refine cW.hi u2_in (ih _ ⟨fun k hk => ?_, fun m hm => ?_⟩)
    · by_cases hki : k = i
      · subst hki
        rw [up1_s]
        rfl
      · rw [up1_n (by omega)]
        exact h1 k (by omega)
    · rw [up1_n (by omega)]
      exact h2 m (by omega)
theorem f223 {a : Nat} (ha : a ≤ 40) (e : hi 279 66 = nI a) (w : ∀ (a' : Nat) (g : Nat → Int32), a' < 40 → (a' = a ∨ (a = 40 ∧ a' = 39)) → (∀ k, k < 81 → g (82 * a' + k) = hi 299 k) → (∀ j k, j < a' → k < 81 → g (82 * j + k) = hi 303 (82 * (j + (a - a')) + k)) → Q none (mkH (u2 (u2 (uR hi 303 g) 279 66 (nI (a' + 1))) 279 67 (nI 0)) hl sw kp)) : cS (d + 1) 223 [.ref 279] (mkH hi hl sw kp) Q := by
  refine e_223 (fun c => ?_) (fun c => ?_)
  · rw [e] at c
    have h40 : a = 40 := (nI_eq (b := 40) (by omega) (by decide)).mp c
    refine cW.hi uR_id.symm (lpu (σ := Nat → Int32) 3198 (fun i g => cW cd_223 d Q 11 [some (.ref 279), some (.int (nI i))] [] (mkH (uR hi 303 g) hl sw kp)) (fun i g => ∀ m, g m = if m < i then hi 303 (82 + m) else hi 303 m) ?_ ?_ 3198 0 (hi 303) rfl (fun m => by rw [if_neg (Nat.not_lt_zero m)]))
    · intro g h1
      refine k_223_11 (fun _ => ?_) (fun c => absurd (by decide) c) (fun c => absurd (by decide) c) (fun c => absurd (by decide) c)
      have e3 : (uR hi 303 g) 279 66 - 1 = nI 39 := by
        show hi 279 66 - 1 = _
        rw [e, h40]
        rfl
      rw [e3]
      refine act2 (a := 39) (by decide) (by rw [u2_s]) (fun g2 h2 h3 => ?_)
      have e5 : uR (u2 (uR hi 303 g) 279 66 (nI 39)) 303 g2 = u2 (uR hi 303 g2) 279 66 (nI 39) := by
        rw [← u2_co (by decide), uR_uR]
      rw [e5, u2_u2]
      refine w 39 g2 (by decide) (Or.inr ⟨h40, rfl⟩) h2 (fun j k hj hk => ?_)
      rw [h3 _ (by omega)]
      show g (82 * j + k) = _
      rw [h1, if_pos (by omega)]
      congr 1
      omega
    · intro i g hi' h1 ih
      have e4 : (82 : Int32) + nI i = nI (82 + i) := nI_add 82 i
      refine k_223_11 (fun c => absurd c (nI_ge (a := i) (b := 3198) hi' (by decide))) (fun _ => by rw [e4]; exact vp_in_nI (by omega) (by decide)) (fun _ => vp_in_nI (by omega) (by decide)) (fun _ => ?_)
      rw [e4, nI_clamp (by omega), nI_clamp (by omega), nI_1]
      refine cW.hi u2_in (ih _ (fun m => ?_))
      by_cases hm : m = i
      · subst hm
        rw [up1_s, if_pos (by omega), uR_s, h1, if_neg (by omega)]
      · rw [up1_n hm, h1]
        by_cases h2 : m < i
        · rw [if_pos h2, if_pos (by omega)]
        · rw [if_neg h2, if_neg (by omega)]
  · rw [e] at c
    have h40 : a < 40 := by
      rcases Nat.lt_or_ge a 40 with q | q
      · exact q
      · exact absurd (show nI a = (40 : Int32) by rw [show a = 40 by omega]; rfl) c
    refine act2 h40 e (fun g h1 h2 => w a g h40 (Or.inl rfl) h1 (fun j k hj hk => ?_))
    rw [h2 _ (by omega)]
    congr 1
    omega
/-- the acts once one more is kept -/
theorem acts_keep {hi2 : Nat → Nat → Int32} {kp' : Nat → Nat} {a a' : Nat} (hk : R_kp kp) (ha : R_acts V hi kp) (ea : hi 33 1 = nI a) (hal : a ≤ 40) (hs : SRc V hi 28 (hi 299)) (hk' : R_kp kp') (ha' : a' < 40) (hr : (kp' = kp ∧ a' = a) ∨ (kp' = kpr kp ∧ a = 40 ∧ a' = 39))
    (f0 : ∀ c, 35 ≤ c → c < 240 → (c < 35 + 5 * kp' a' ∨ 35 + 5 * kp' a' + 4 < c) → hi2 c = hi c) (f1 : ∀ j, j < 3 → hi2 (35 + 5 * kp' a') j = hi 28 j) (f2 : ∀ j, j < 8 → hi2 (35 + 5 * kp' a' + 1) j = hi 29 j) (f3 : ∀ j, j < 4 → hi2 (35 + 5 * kp' a' + 2) j = hi 30 j) (f4 : ∀ j, j < 4 → hi2 (35 + 5 * kp' a' + 3) j = hi 31 j) (f5 : ∀ j, j < 60 → hi2 (35 + 5 * kp' a' + 4) j = hi 32 j)
    (eb : hi2 23 = hi 23) (e1 : hi2 33 1 = nI (a' + 1)) (e2 : hi2 33 2 = nI 0) (e3 : hi2 279 66 = nI (a' + 1)) (e4 : hi2 279 67 = nI 0) (g1 : ∀ k, k < 81 → hi2 303 (82 * a' + k) = hi 299 k) (g2 : ∀ j k, j < a' → k < 81 → hi2 303 (82 * j + k) = hi 303 (82 * (j + (a - a')) + k)) : R_acts V hi2 kp' := by
  obtain ⟨a0, u, q0, q1, q2, q3, q4, q5, q6, q7⟩ := ha
  have haa : a0 = a := (nI_eq (by omega) (by omega)).mp (q1.symm.trans ea)
  subst haa
  refine ⟨a' + 1, 0, by omega, e1, e2, e3, e4, fun j hj => ?_, fun j hj1 hj2 => absurd hj2 (by omega), fun q => absurd q (Nat.lt_irrefl 0)⟩
  by_cases hja : j = a'
  · subst hja
    exact SR.eq eb f1 f2 f3 f4 f5 g1 hs
  · have hjl : j < a' := by omega
    have hkj : kp' j = kp (j + (a0 - a')) ∧ j + (a0 - a') < a0 := by
      rcases hr with ⟨r1, r2⟩ | ⟨r1, r2, r3⟩
      · rw [r1, r2]
        exact ⟨by congr 1; omega, by omega⟩
      · rw [r1]
        unfold kpr
        rw [if_pos (by omega)]
        exact ⟨by congr 1; omega, by omega⟩
    have hne : kp' j ≠ kp' a' := fun q => hja (hk'.2 j a' (by omega) (by omega) q)
    have hb1 := hk'.1 j (by omega)
    have hb2 := hk'.1 a' (by omega)
    have := q5 _ hkj.2
    rw [← hkj.1] at this
    refine SRc.fr2 eb (fun i hi' => f0 _ (by omega) (by omega) (by omega)) (fun k hk => ?_) this
    exact g2 j k hjl hk
theorem SR.bone {bar ob bo sc sd wk row bo' row' : Nat → Int32} {p b : Nat} (hp : p < 8) (hb : b ≤ 9) (e1 : bo' p = nI b) (e2 : row' p = nI b) (o1 : ∀ j, j ≠ p → bo' j = bo j) (o2 : ∀ j, j ≠ p → row' j = row j) (h : SR V bar ob bo sc sd wk row) : SR V bar ob bo' sc sd wk row' := by
  obtain ⟨H, s1, s2, s3, s4, s5, s6, s7, s8, s9, s10, s11, s12⟩ := h
  refine ⟨H, s1, s2, by rw [o2 17 (by omega)]; exact s3, by rw [o2 16 (by omega)]; exact s4, s5, by rw [o2 19 (by omega)]; exact s6, s7, by rw [o2 18 (by omega)]; exact s8, fun q hq => ?_, fun c hc => ?_, by rw [o2 20 (by omega)]; exact s11, fun k hk => ?_⟩
  · by_cases hqp : q = p
    · subst hqp
      exact ⟨b, hb, e1, e2⟩
    · rw [o1 q hqp, o2 q hqp]
      exact s9 q hq
  · rw [o2 (8 + c) (by omega), o2 (12 + c) (by omega)]
    exact s10 c hc
  · rw [o2 (21 + k) (by omega)]
    exact s12 k hk
/-- a bone is laid or taken: both sides behind the kept act -/
theorem bone_rel {hiK : Nat → Nat → Int32} {kp' : Nat → Nat} {a a' p b : Nat} {g : Nat → Int32} (hR : Rst V hi hl) (hk : R_kp kp) (ha : R_acts V hi kp) (hx : R_box V hi) (ea : hi 33 1 = nI a) (hal : a ≤ 40) (hs : SRc V hi 28 (hi 299)) (hk' : R_kp kp') (ha' : a' < 40) (hr : (kp' = kp ∧ a' = a) ∨ (kp' = kpr kp ∧ a = 40 ∧ a' = 39)) (ck : CK hiK hi (35 + 5 * kp' a')) (e1 : hiK 33 1 = nI (a' + 1)) (e2 : hiK 33 2 = nI 0) (hp : p < 8) (hb : b ≤ 9) (g1 : ∀ k, k < 81 → g (82 * a' + k) = hi 299 k) (g2 : ∀ j k, j < a' → k < 81 → g (82 * j + k) = hi 303 (82 * (j + (a - a')) + k)) :
    Rel (u2 (u2 (u2 (uR (u2 hiK 29 p (nI b)) 303 g) 279 66 (nI (a' + 1))) 279 67 (nI 0)) 299 p (nI b)) hl sw kp' := by
  have hka := hk'.1 a' (by omega)
  have fr : ∀ c, c ≠ 29 → c ≠ 33 → c ≠ 303 → c ≠ 279 → c ≠ 299 → (c < 35 + 5 * kp' a' ∨ 35 + 5 * kp' a' + 4 < c) → (u2 (u2 (u2 (uR (u2 hiK 29 p (nI b)) 303 g) 279 66 (nI (a' + 1))) 279 67 (nI 0)) 299 p (nI b)) c = hi c := by
    intro c h1 h2 h3 h4 h5 h6
    rw [u2_row_ne h5, u2_row_ne h4, u2_row_ne h4, uR_ne h3, u2_row_ne h1, ck.1 c h2 h6]
  have f279 : ∀ j, j ≠ 66 → j ≠ 67 → (u2 (u2 (u2 (uR (u2 hiK 29 p (nI b)) 303 g) 279 66 (nI (a' + 1))) 279 67 (nI 0)) 299 p (nI b)) 279 j = hi 279 j := by
    intro j h1 h2
    rw [u2_nn (by omega), u2_nn (by omega), u2_nn (by omega), uR_ne (by decide), u2_row_ne (by decide), ck.1 279 (by decide) (by omega)]
  refine Rel.jn (V := V) (hR.fr (fun c j h => ?_) rfl) ⟨hk', ?_, ?_, ?_⟩
  · by_cases hc : c = 279
    · subst hc
      exact f279 j (by unfold NS at h; omega) (by unfold NS at h; omega)
    · rw [fr c (by unfold NS at h; omega) (by unfold NS at h; omega) (by unfold NS at h; omega) hc (by unfold NS at h; omega) (by unfold NS at h; omega)]
  · have e28 : (u2 (u2 (u2 (uR (u2 hiK 29 p (nI b)) 303 g) 279 66 (nI (a' + 1))) 279 67 (nI 0)) 299 p (nI b)) 28 = hi 28 := fr 28 (by decide) (by decide) (by decide) (by decide) (by decide) (by omega)
    have e23 := fr 23 (by decide) (by decide) (by decide) (by decide) (by decide) (by omega)
    have e30 := fr 30 (by decide) (by decide) (by decide) (by decide) (by decide) (by omega)
    have e31 := fr 31 (by decide) (by decide) (by decide) (by decide) (by decide) (by omega)
    have e32 := fr 32 (by decide) (by decide) (by decide) (by decide) (by decide) (by omega)
    have k29 : hiK 29 = hi 29 := ck.1 29 (by decide) (by omega)
    have k299 : hiK 299 = hi 299 := ck.1 299 (by decide) (by omega)
    unfold SRc at hs ⊢
    rw [e28, e23, e30, e31, e32]
    refine SR.bone hp hb ?_ ?_ (fun j hj => ?_) (fun j hj => ?_) hs
    · rw [u2_row_ne (by decide), u2_row_ne (by decide), u2_row_ne (by decide), uR_ne (by decide)]
      exact u2_s
    · exact u2_s
    · rw [u2_row_ne (by decide), u2_row_ne (by decide), u2_row_ne (by decide), uR_ne (by decide), u2_nn (by omega), k29]
    · rw [u2_nn (by omega), u2_row_ne (by decide), u2_row_ne (by decide), uR_ne (by decide), u2_row_ne (by decide), k299]
  · refine acts_keep (hi := hi) hk ha ea hal hs hk' ha' hr (fun c h1 h2 h3 => fr c (by omega) (by omega) (by omega) (by omega) (by omega) h3) ?_ ?_ ?_ ?_ ?_ (fr 23 (by decide) (by decide) (by decide) (by decide) (by decide) (by omega)) ?_ ?_ ?_ ?_ ?_ ?_
    · intro j hj
      rw [u2_row_ne (by omega), u2_row_ne (by omega), u2_row_ne (by omega), uR_ne (by omega), u2_row_ne (by omega)]
      exact ck.2.1 j hj
    · intro j hj
      rw [u2_row_ne (by omega), u2_row_ne (by omega), u2_row_ne (by omega), uR_ne (by omega), u2_row_ne (by omega)]
      exact ck.2.2.1 j hj
    · intro j hj
      rw [u2_row_ne (by omega), u2_row_ne (by omega), u2_row_ne (by omega), uR_ne (by omega), u2_row_ne (by omega)]
      exact ck.2.2.2.1 j hj
    · intro j hj
      rw [u2_row_ne (by omega), u2_row_ne (by omega), u2_row_ne (by omega), uR_ne (by omega), u2_row_ne (by omega)]
      exact ck.2.2.2.2.1 j hj
    · intro j hj
      rw [u2_row_ne (by omega), u2_row_ne (by omega), u2_row_ne (by omega), uR_ne (by omega), u2_row_ne (by omega)]
      exact ck.2.2.2.2.2 j hj
    · rw [u2_row_ne (by decide), u2_row_ne (by decide), u2_row_ne (by decide), uR_ne (by decide), u2_row_ne (by decide)]
      exact e1
    · rw [u2_row_ne (by decide), u2_row_ne (by decide), u2_row_ne (by decide), uR_ne (by decide), u2_row_ne (by decide)]
      exact e2
    · rw [u2_row_ne (by decide), u2_nn (by decide), u2_s]
    · rw [u2_row_ne (by decide), u2_s]
    · intro k hk
      rw [u2_row_ne (by decide), u2_row_ne (by decide), u2_row_ne (by decide), uR_s]
      exact g1 k hk
    · intro j k hj hk
      rw [u2_row_ne (by decide), u2_row_ne (by decide), u2_row_ne (by decide), uR_s]
      exact g2 j k hj hk
  · have fb : ∀ c, 241 ≤ c → c < 256 → (u2 (u2 (u2 (uR (u2 hiK 29 p (nI b)) 303 g) 279 66 (nI (a' + 1))) 279 67 (nI 0)) 299 p (nI b)) c = hi c := fun c h1 h2 => fr c (by omega) (by omega) (by omega) (by omega) (by omega) (by omega)
    obtain ⟨B, g0, g1', g2'⟩ := hx
    have e0 := fr 0 (by decide) (by decide) (by decide) (by decide) (by decide) (by omega)
    have e322 := fr 322 (by decide) (by decide) (by decide) (by decide) (by decide) (by omega)
    have e323 := fr 323 (by decide) (by decide) (by decide) (by decide) (by decide) (by omega)
    refine ⟨B, g0, by rw [e0]; exact g1', fun x hx => ⟨by rw [e322]; exact (g2' x hx).1, fun q => ?_⟩⟩
    exact SRc.fr2 (fr 23 (by decide) (by decide) (by decide) (by decide) (by decide) (by omega)) (fun i hi' => fb _ (by omega) (by omega)) (fun k _ => by rw [e323]) ((g2' x hx).2 q)
theorem op_lay (a1 : Int32) : OpI Rel (d + 3) 132 228 [.int a1] := by
  intro hi hl sw kp Q hR k
  obtain ⟨V, st, hk, hs, ha, hx⟩ := hR.sp
  have hv := st.2.2.2.2.2.1
  have hb8 := hv.1.2.1
  rcases plc hv a1 with ⟨p, hp, rfl, q1, q2⟩ | ⟨-, q1, q2⟩
  · obtain ⟨H, s1, s2, s3, s4, s5, s6, s7, s8, s9, s10, s11, s12⟩ := id hs
    obtain ⟨b, b1, b2, b3⟩ := s9 p (by omega)
    have ep : (nI p).toNatClampNeg = p := nI_clamp (by omega)
    have e0p : (0 : Int32) + nI p = nI p := Int32.zero_add _
    have z1 : ¬ g_108 hi (nI p) = 0 := by rw [q1]; decide
    have z2 : ¬ g_208 hi (nI p) = 0 := by rw [q2]; decide
    have b2' : hi 29 p = nI b := b2
    by_cases h9 : b = 9
    · subst h9
      refine e_132 (fun c => absurd c z1) (fun _ => vp_in_nI (by omega) (by decide)) (fun _ c => ?_) (fun _ _ => k (-1) hi hl sw kp (fun Q2 k2 => e_228 (fun c => absurd c z2) (fun _ => by rw [e0p]; exact vp_in_nI (by omega) (by decide)) (fun _ _ => k2 hi hl sw kp hR) (fun _ c => ?_)))
      · rw [ep, b2'] at c
        exact absurd c (nI_nlt (a := 9) (b := 9) (Nat.le_refl _) (by decide))
      · rw [e0p, ep, b3] at c
        exact absurd rfl c
    · have hac := ha
      obtain ⟨a, u, u0, u1, u2', u3, u4, -⟩ := hac
      refine e_132 (fun c => absurd c z1) (fun _ => vp_in_nI (by omega) (by decide)) (fun _ _ => f2 hk (by omega) u1 (fun hi' kp' a' hk' ha' hr ck e1 e2 => ?_)) (fun _ c => ?_)
      · have hka := hk'.1 a' (by omega)
        have k29 : hi' 29 p = nI b := by rw [ck.1 29 (by decide) (by omega)]; exact b2
        refine k_132_38 (vp_in_nI (by omega) (by decide)) ?_
        rw [ep, u2_s, k29, nI_1]
        have k279 : (u2 hi' 29 p (nI (b + 1))) 279 = hi 279 := by rw [u2_row_ne (by decide), ck.1 279 (by decide) (by omega)]
        have k299 : (u2 hi' 29 p (nI (b + 1))) 299 = hi 299 := by rw [u2_row_ne (by decide), ck.1 299 (by decide) (by omega)]
        have k303 : (u2 hi' 29 p (nI (b + 1))) 303 = hi 303 := by rw [u2_row_ne (by decide), ck.1 303 (by decide) (by omega)]
        have z3 : ¬ g_208 (u2 hi' 29 p (nI (b + 1))) (nI p) = 0 := by
          unfold g_208 at z2 ⊢
          rw [k279]
          exact z2
        refine k _ _ hl sw kp' (fun Q2 k2 => e_228 (fun c => absurd c z3) (fun _ => by rw [e0p]; exact vp_in_nI (by omega) (by decide)) (fun _ c => ?_) (fun _ _ => f223 (a := a) (by omega) (by rw [k279]; exact u3) (fun a'' g h1 h2 h3 h4 => ?_)))
        · rw [e0p, ep, k299, b3] at c
          exact absurd ((nI_eq (b := 9) (by omega) (by decide)).mp c) h9
        · have haa : a'' = a' := by omega
          subst haa
          rw [k299] at h3
          rw [k303] at h4
          refine k_228_27 (by rw [e0p]; exact vp_in_nI (by omega) (by decide)) ?_
          rw [e0p, ep, u2_s]
          have k299b : (u2 (u2 (uR (u2 hi' 29 p (nI (b + 1))) 303 g) 279 66 (nI (a'' + 1))) 279 67 (nI 0)) 299 p = nI b := by
            show hi' 299 p = nI b
            rw [ck.1 299 (by decide) (by omega)]
            exact b3
          rw [k299b, nI_1]
          exact k2 _ hl sw kp' (bone_rel st hk ha hx u1 (by omega) hs hk' ha' hr ck e1 e2 (by omega) (by omega) h3 h4)
      · rw [ep, b2'] at c
        exact absurd (nI_lt (b := 9) (by omega) (by decide)) c
  · have z1 : g_108 hi a1 = 0 := q1
    exact e_132 (fun _ => k (-1) hi hl sw kp (fun Q2 k2 => e_228 (fun _ => k2 hi hl sw kp hR) (fun c => absurd q2 c) (fun c => absurd q2 c) (fun c => absurd q2 c))) (fun c => absurd q1 c) (fun c => absurd q1 c) (fun c => absurd q1 c)
end ACTS
