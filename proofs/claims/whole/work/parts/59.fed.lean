/-! ===== operation: fed ===== -/
section FED
variable {d : Nat} {Q : am_Q} {hi : Nat → Nat → Int32} {hl : Nat → Nat → Int64} {sw : Bool} {kp : Nat → Nat} {V : vN}
def prd (f : Nat → Nat) : Nat → Nat
  | 0 => 1
  | n + 1 => prd f n * f n
theorem prd_le {f : Nat → Nat} : ∀ n, (∀ i, i < n → f i ≤ 60) → prd f n ≤ 60 ^ n
  | 0, _ => Nat.le_refl 1
  | n + 1, h => Nat.mul_le_mul (prd_le n (fun i hi => h i (by omega))) (h n (by omega))
theorem prd_cg {f g : Nat → Nat} : ∀ n, (∀ i, i < n → f i = g i) → prd f n = prd g n
  | 0, _ => rfl
  | n + 1, h => by
    show prd f n * f n = prd g n * g n
    rw [prd_cg n (fun i hi => h i (by omega)), h n (by omega)]
theorem WY_le {bb : Nat → Nat} {H u f t : Nat} (hf : f < vP V) (ht : t < vP V) : WY V hi bb H u f t ≤ 60 := by
  have h : Ts (WY V hi bb H u f) (vP V) = 60 := wy_all hf
  rw [← h]
  exact Ts_mem ht
def bx2 (W : Nat → Nat) : Nat → Int32
  | 0 => -1
  | j + 1 => nI (amx W j)
def bx3 (W : Nat → Nat) : Nat → Int64
  | 0 => -1
  | j + 1 => lN (W (amx W j))
theorem bx_le {W : Nat → Nat} {j : Nat} (hW : ∀ i, i ≤ j → W i < 2 ^ 63) (h : lg_cmp (lN (W j)) (bx3 W j) ≤ 0) : bx2 W (j + 1) = bx2 W j ∧ bx3 W (j + 1) = bx3 W j := by
  cases j with
  | zero => exact absurd h (lgm (hW 0 (Nat.le_refl 0)))
  | succ i =>
    have h2 : W (i + 1) ≤ W (amx W i) := (lgc (hW _ (Nat.le_refl _)) (hW _ (by have := amx_le W i; omega))).mp h
    have e : amx W (i + 1) = amx W i := if_neg (by omega)
    exact ⟨congrArg nI e, congrArg (fun k => lN (W k)) e⟩
theorem bx_gt {W : Nat → Nat} {j : Nat} (hW : ∀ i, i ≤ j → W i < 2 ^ 63) (h : ¬ lg_cmp (lN (W j)) (bx3 W j) ≤ 0) : bx2 W (j + 1) = nI j ∧ bx3 W (j + 1) = lN (W j) := by
  cases j with
  | zero => exact ⟨rfl, rfl⟩
  | succ i =>
    have h2 : ¬ W (i + 1) ≤ W (amx W i) := fun z => h ((lgc (hW _ (Nat.le_refl _)) (hW _ (by have := amx_le W i; omega))).mpr z)
    have e : amx W (i + 1) = i + 1 := if_pos (by omega)
    exact ⟨congrArg nI e, congrArg (fun k => lN (W k)) e⟩
/-- the ways of the last n hours' walk, as the class multiplies them -/
theorem f54 {X : Nat → Nat → Int32} {H n : Nat} {pl W : Nat → Nat} (hn : n ≤ 8) (hn1 : 1 ≤ n) (hnH : n ≤ H) (hH : H ≤ 2000) (eH : X 28 1 = nI H) (e196 : X 19 6 = nI (pl n) ∨ n < H) (h83 : ∀ j, j < 60 → j < H → g_83 X (nI j) = nI (pl j)) (hpl : ∀ j, j ≤ n → pl j < 8) (h43 : ∀ i, i < n → g_43 X (0 : Int32) (nI (pl (i + 1))) (nI (pl i)) = nI (W i)) (hW : ∀ i, i < n → W i ≤ 60) (w' : Q (some (.long (lN (prd W n)))) (mkH X hl sw kp)) : cS (d + 3) 54 [.ref 256, .int (nI n)] (mkH X hl sw kp) Q := by
  have w0 : ∀ j, j < H → ((X 28 1 - 1) - nI j) - ((X 28 1 - 1) - nI j) / 60 * 60 = nI ((H - 1 - j) % 60) := by
    intro j hj
    rw [eH, show nI H - 1 = nI (H - 1) from pk_sub (a := H) (b := 1) (by omega), pk_sub (by omega)]
    exact pk_rem (d := 60) (by omega) (by decide) (by decide)
  have vin : ∀ j, j ≤ 8 → nI j < X 28 1 → vp_in (((X 28 1 - 1) - nI j) - ((X 28 1 - 1) - nI j) / 60 * 60) 60 := by
    intro j hj h
    rw [eH] at h
    rw [w0 j ((nI_ltI (by omega) (by omega)).mp h)]
    exact vp_in_nI (Nat.mod_lt _ (by decide)) (by decide)
  have loop : ∀ o6, cW cd_54 (d + 2) Q 32 [some (.ref 256), some (.int (nI n)), some (.long 1), none, some (.int (nI (pl n))), some (.int (nI n - 1)), o6] [] (mkH X hl sw kp) := by
    intro o6
    refine lpu (σ := Nat) n (fun k A => ∀ o6, cW cd_54 (d + 2) Q 32 [some (.ref 256), some (.int (nI n)), some (.long (lN A)), none, some (.int (nI (pl (n - k)))), some (.int (nI (n - k) - 1)), o6] [] (mkH X hl sw kp)) (fun k A => A * prd W (n - k) = prd W n) ?_ ?_ n 0 1 (Nat.zero_add n) (Nat.one_mul _) o6
    · intro A hA o6
      have e : A = prd W n := by
        rw [Nat.sub_self] at hA
        exact (Nat.mul_one A).symm.trans hA
      have z : nI (n - n) - 1 < (0 : Int32) := by
        rw [Nat.sub_self]
        decide
      exact k_54_32 (fun _ => by rw [e]; exact w') (fun c => absurd z c) (fun c => absurd z c) (fun c => absurd z c)
    · intro k A hk hA ih o6
      obtain ⟨i, hi'⟩ : ∃ i, n - k = i + 1 := ⟨n - k - 1, by omega⟩
      have hik : n - (k + 1) = i := by omega
      have e1 : nI (i + 1) - 1 = nI i := pk_sub (a := i + 1) (b := 1) (by omega)
      rw [hi', e1]
      have z : ¬ nI i < (0 : Int32) := nI_pos (by omega)
      have h1 := h83 i (by omega) (by omega)
      have h2 := h43 i (by omega)
      have hp1 := hpl (i + 1) (by omega)
      have hp2 := hpl i (by omega)
      have e3 : ((0 : Int32) * 8 + nI (pl (i + 1))) * 8 + nI (pl i) = nI ((0 * 8 + pl (i + 1)) * 8 + pl i) := by
        rw [show (8 : Int32) = nI 8 from rfl, show (0 : Int32) = nI 0 from rfl, pk_mul, nI_add, pk_mul, nI_add]
      refine k_54_32 (fun c => absurd c z) (fun _ _ _ c => vin i (by omega) c) (fun _ _ _ _ _ => by rw [h1, e3]; exact vp_in_nI (by omega) (by decide)) (fun _ => ?_)
      have hw := hW i (by omega)
      rw [h1, h2, nI_l (by omega), lN_mul, show nI i + (-1) = nI i - 1 from (Int32.sub_eq_add_neg ..).symm]
      have := ih (A * W i) (by
        rw [hik, Nat.mul_assoc, Nat.mul_comm (W i)]
        rw [hi'] at hA
        exact hA)
      rw [hik] at this
      exact this _
  refine e_54 (fun _ _ c => vin n hn c) (fun c => ?_) (fun c => ?_)
  · rcases e196 with h | h
    · rw [h]
      exact loop _
    · rw [h83 n (by omega) h] at c
      have := hpl n (Nat.le_refl n)
      exact absurd c (fun z => by
        have z2 : nI (pl n) < 0 := by rw [z]; decide
        exact nI_pos (by omega) z2)
  · by_cases h : n < H
    · rw [h83 n (by omega) h]
      exact loop _
    · exfalso
      refine c ?_
      unfold g_83
      rw [eH, if_neg (nI_pos (by omega)), if_neg (show ¬ (60 : Int32) ≤ nI n from nI_ge (b := 60) (by omega) (by decide)), if_neg (nI_nlt (by omega) (by omega))]
theorem g260 {X : Nat → Nat → Int32} {H j : Nat} {pl : Nat → Nat} (e20 : X 299 20 = nI (min H 60)) (e49 : X 279 49 = nI (vSt V)) (hj : j ≤ 60) (hr : ∀ k, k < min H 60 → X 299 (21 + (min H 60 - 1 - k)) = nI (pl k)) (hz : ∀ k, min H 60 ≤ k → pl k = vSt V) : g_260 X (nI j) = nI (pl j) ∧ (¬ X 299 20 ≤ nI j → vp_in (((21 + X 299 20) - 1) - nI j) 82) := by
  unfold g_260
  rw [e20]
  by_cases c : min H 60 ≤ j
  · rw [if_pos (nI_le c (by omega)), hz j c]
    exact ⟨e49, fun z => absurd (nI_le c (by omega)) z⟩
  · have e21 : ((21 + nI (min H 60)) - 1) - nI j = nI (21 + (min H 60 - 1 - j)) := by
      rw [show (21 : Int32) + nI (min H 60) = nI (21 + min H 60) from nI_add 21 _, show nI (21 + min H 60) - 1 = nI (21 + min H 60 - 1) from pk_sub (a := 21 + min H 60) (b := 1) (by omega), pk_sub (by omega)]
      congr 1
      omega
    rw [if_neg (nI_ge (by omega) (by omega)), e21, nI_clamp (by omega)]
    exact ⟨hr j (by omega), fun _ => vp_in_nI (by omega) (by decide)⟩
/-- the same, as the reference multiplies them -/
theorem f262 {h a : Int32} {b g f r w : Nat → Int32} {H n p : Nat} {pl bo : Nat → Nat} (hv : R_vil V hi) (hpu : R_pul hi) (hp : p < vP V) (hn : n ≤ 8) (hH : H ≤ 2000) (e17 : hi 299 17 = nI H) (e18 : hi 299 18 = nI (min 99 (vAg V + H / vDy V))) (ebo : ∀ t, t < 8 → hi 299 t = nI (bo t)) (e20 : hi 299 20 = nI (min H 60)) (e49 : hi 279 49 = nI (vSt V)) (hr : ∀ k, k < min H 60 → hi 299 (21 + (min H 60 - 1 - k)) = nI (pl k)) (hz : ∀ k, min H 60 ≤ k → pl k = vSt V) (hpl : ∀ j, j ≤ n → pl j < vP V) (w' : ∀ h a b g f r w, Q (some (.long (lN (prd (fun i => WY V hi (fun t => bo t + if t = p then 1 else 0) H 0 (pl (i + 1)) (pl i)) n)))) (mkH (rx hi h a b g f r w) hl sw kp)) : cS (d + 8) 262 [.ref 279, .int (nI p), .int (nI n)] (mkH (rx hi h a b g f r w) hl sw kp) Q := by
  have hb8 := hv.1
  refine e_262 (f211 (d := d + 6) (fun b' hb' => k_262_4 (vp_in_nI (by omega) (by decide)) ?_))
  rw [e17, e18, nI_clamp (by omega), rx_300]
  have ebp : (rx hi (nI H) (nI (min 99 (vAg V + H / vDy V))) b' g f r w) 300 p = nI (bo p) := by
    have : (rx hi (nI H) (nI (min 99 (vAg V + H / vDy V))) b' g f r w) 300 p = b' p := rfl
    rw [this, hb' p (by omega)]
    exact ebo p (by omega)
  rw [ebp, nI_1]
  refine f217 (d := d + 1) (V := V) (bn := bs V (fun t => bo t + if t = p then 1 else 0) H 0) hv hpu (by omega) (fun t ht => ?_) (fun g' f' r' v hv' => k_262_18 ?_)
  · rw [bs_0]
    by_cases c : t = p
    · subst c
      rw [up1_s, if_pos rfl]
    · rw [up1_n c, if_neg c, hb' t (by omega)]
      exact ebo t (by omega)
  · obtain ⟨X, eX⟩ : ∃ X, X = rx hi (nI H) (nI (min 99 (vAg V + H / vDy V))) (up1 b' p (nI (bo p + 1))) g' f' r' v := ⟨_, rfl⟩
    have w2 := w' (nI H) (nI (min 99 (vAg V + H / vDy V))) (up1 b' p (nI (bo p + 1))) g' f' r' v
    rw [← eX] at w2 ⊢
    have X299 : ∀ k, X 299 k = hi 299 k := fun k => by rw [eX, rx_r299]
    have X302 : ∀ k, X 302 k = v k := fun k => by rw [eX]; exact congrFun uR_s k
    have X49 : X 279 49 = nI (vSt V) := by rw [eX]; exact e49
    have hg := fun j (hj : j ≤ 60) => g260 (V := V) (X := X) (j := j) (pl := pl) (H := H) (by rw [X299]; exact e20) X49 hj (fun k hk => by rw [X299]; exact hr k hk) hz
    refine lpu (σ := Unit) n (fun i _ => cW cd_262 (d + 7) Q 23 [some (.ref 279), some (.int (nI p)), some (.int (nI n)), some (.long (lN (prd (fun i => WY V hi (fun t => bo t + if t = p then 1 else 0) H 0 (pl (i + 1)) (pl i)) i))), none, some (.int (nI i))] [] (mkH X hl sw kp)) (fun _ _ => True) ?_ ?_ n 0 () (Nat.zero_add n) trivial
    · intro _ _
      exact k_262_23 (fun _ => w2) (fun c => absurd (Int32.le_refl _) c) (fun c => absurd (Int32.le_refl _) c) (fun c => absurd (Int32.le_refl _) c) (fun c => absurd (Int32.le_refl _) c)
    · intro i _ hin _ ih
      have g1 := hg (i + 1) (by omega)
      have g0 := hg i (by omega)
      have p1 := hpl (i + 1) (by omega)
      have p0 := hpl i (by omega)
      have e8 : (8 : Int32) * nI (pl (i + 1)) + nI (pl i) = nI (8 * pl (i + 1) + pl i) := by
        rw [show (8 : Int32) = nI 8 from rfl, pk_mul, nI_add]
      have hw := WY_le (hi := hi) (bb := fun t => bo t + if t = p then 1 else 0) (H := H) (u := 0) p1 p0
      refine k_262_23 (fun c => absurd c (nI_ge hin (by omega))) (fun _ c => ?_) (fun _ c => g0.2 c) (fun _ => ?_) (fun _ => ?_)
      · rw [nI_1] at c ⊢
        exact g1.2 c
      · rw [nI_1, g1.1, g0.1, e8]
        exact vp_in_nI (by omega) (by decide)
      · rw [nI_1, g1.1, g0.1, e8, nI_clamp (by omega), X302, hv' _ _ p1 (by omega), if_pos p0]
        have ew : wy (qq V hi (bs V (fun t => bo t + if t = p then 1 else 0) H 0) H (pl (i + 1))) (vP V) (pl (i + 1)) (pl i) = WY V hi (fun t => bo t + if t = p then 1 else 0) H 0 (pl (i + 1)) (pl i) := rfl
        rw [ew, nI_l (by omega), lN_mul]
        exact ih () trivial
theorem op_fed (a1 : Int32) : OpI Rel (d + 10) 146 263 [.int a1] := by
  intro hi hl sw kp Q hR k
  obtain ⟨V, st, hk, hs, ha, hx⟩ := hR.sp
  have hv := st.2.2.2.2.2.1
  have hpu := st.2.2.2.2.2.2
  have hb8 := hv.1
  have e46 : hi 279 46 = nI (vP V) := hv.2.2.1.2.1
  have e7 : g_207 a1 (1 : Int32) (8 : Int32) = g_158 a1 (1 : Int32) (8 : Int32) := rfl
  by_cases c0 : g_158 a1 (1 : Int32) (8 : Int32) = 0
  · exact e_146 (fun _ => k (-1) hi hl sw kp (fun Q2 k2 => e_263 (fun _ => k2 hi hl sw kp hR) (fun c => absurd c0 c) (fun c => absurd c0 c))) (fun c => absurd c0 c) (fun c => absurd c0 c)
  · obtain ⟨q1, q2⟩ := g158_n c0
    obtain ⟨n, hn', rfl⟩ := nI_of (show ¬ a1 < 0 from fun z => q1 (Int32.lt_trans z (by decide)))
    have hn1 : 1 ≤ n := by
      rcases Nat.eq_zero_or_pos n with z | z
      · subst z
        exact absurd (by decide) q1
      · exact z
    have hn : n ≤ 8 := by
      rcases Nat.lt_or_ge 8 n with z | z
      · exact absurd (nI_lt (a := 8) z hn') q2
      · exact z
    obtain ⟨H, bo, hsn⟩ := SN.of hs
    obtain ⟨n1, n2, n3, n4, n5, n6, n7⟩ := id hsn
    obtain ⟨H', s1, s2, s3, s4, s5, s6, s7, s8, s9, s10, s11, s12⟩ := id hs
    have hHH : H' = H := (nI_eq (by omega) (by omega)).mp (s2.symm.trans n2)
    subst hHH
    have e20 : hi 299 20 = nI (min H' 60) := s11
    by_cases hnH : n ≤ H'
    · obtain ⟨-, g0, hg0, -⟩ := s12 0 (by omega)
      have hst : vSt V < vP V := by
        rcases hb8.2.2.2.2.2.2.2.2.1 with h | h
        · exact h
        · omega
      obtain ⟨pl, epl⟩ : ∃ pl : Nat → Nat, pl = fun j => if j < min H' 60 then (hi 299 (21 + (min H' 60 - 1 - j))).toNatClampNeg else vSt V := ⟨_, rfl⟩
      have hr : ∀ j, j < min H' 60 → hi 299 (21 + (min H' 60 - 1 - j)) = nI (pl j) ∧ pl j < vP V := fun j hj => by
        obtain ⟨-, g, hg, eg⟩ := s12 (min H' 60 - 1 - j) (by omega)
        have : pl j = g := by
          rw [epl]
          show (if j < min H' 60 then _ else _) = g
          rw [if_pos hj, eg, nI_clamp (by omega)]
        rw [this]
        exact ⟨eg, hg⟩
      have hz : ∀ j, min H' 60 ≤ j → pl j = vSt V := fun j hj => by
        rw [epl]
        exact if_neg (by omega)
      have hpl : ∀ j, pl j < vP V := fun j => by
        by_cases c : j < min H' 60
        · exact (hr j c).2
        · rw [hz j (by omega)]
          exact hst
      have h83 : ∀ j, j < 60 → j < H' → g_83 hi (nI j) = nI (pl j) := by
        intro j hj hjH
        have w0 : ((hi 28 1 - 1) - nI j) - ((hi 28 1 - 1) - nI j) / 60 * 60 = nI ((H' - 1 - j) % 60) := by
          rw [n2, show nI H' - 1 = nI (H' - 1) from pk_sub (a := H') (b := 1) (by omega), pk_sub (by omega)]
          exact pk_rem (d := 60) (by omega) (by decide) (by decide)
        have hw := (s12 (min H' 60 - 1 - j) (by omega)).1
        have hm : H' - min H' 60 + (min H' 60 - 1 - j) = H' - 1 - j := by omega
        rw [hm] at hw
        have hmod : (H' - 1 - j) % 60 < 60 := Nat.mod_lt _ (by decide)
        unfold g_83
        rw [if_neg (nI_pos (by omega)), if_neg (show ¬ (60 : Int32) ≤ nI j from nI_ge (a := j) (b := 60) hj (by decide)), w0, nI_clamp (by omega), n2, if_pos (nI_lt hjH (by omega))]
        exact hw.symm.trans (hr j (by omega)).1
      have e49 : hi 279 49 = nI (vSt V) := hv.2.2.1.2.2.2.2.2.2
      obtain ⟨W, eW⟩ : ∃ W : Nat → Nat, W = fun p => prd (fun i => WY V hi (fun t => bo t + if t = p then 1 else 0) H' 0 (pl (i + 1)) (pl i)) n := ⟨_, rfl⟩
      have hW : ∀ p, W p < 2 ^ 63 := fun p => by
        rw [eW]
        have h1 := prd_le (f := fun i => WY V hi (fun t => bo t + if t = p then 1 else 0) H' 0 (pl (i + 1)) (pl i)) n (fun i _ => WY_le (hpl _) (hpl _))
        have h2 := p60 hn
        exact Nat.lt_of_le_of_lt h1 (by omega)
      have enH : nI n ≤ hi 28 1 := by rw [n2]; exact nI_le hnH (by omega)
      have en20 : nI n ≤ hi 299 20 := by rw [e20]; exact nI_le (by omega) (by omega)
      refine e_146 (fun c => absurd c c0) (fun _ _ => ?_) (fun _ c => absurd enH c)
      refine cS.hi cx_id.symm (f39 (d := d + 4) (N := 1) (M := 1) hv hpu (by decide) (by decide) n1 n2 (fun t ht => (n5 t (by omega)).2.1) (fun s' p' hp' => k_146_32 ?_))
      refine lpu (σ := (Nat → Int32) × (Nat → Int32)) (vP V) (fun j z => ∀ o6 : Option Value, cW cd_146 (d + 9) Q 41 [some (.ref 0), some (.int (nI n)), some (.int (bx2 W j)), some (.long (bx3 W j)), none, some (.int (nI j)), o6, none] [] (mkH (cx hi s' (hi 256) z.1 p' z.2 (hi 260)) hl sw kp)) (fun _ _ => True) ?_ ?_ (vP V) 0 (hi 257, hi 259) (Nat.zero_add _) trivial none
      · intro z _ o6
        have e19 : (cx hi s' (hi 256) z.1 p' z.2 (hi 260)) 19 1 = nI (vP V) := hv.2.1.2.1
        refine k_146_41 (fun _ => ?_) (fun c => absurd (by rw [e19]; exact Int32.le_refl _) c)
        refine k (bx2 W (vP V)) _ hl sw kp (fun Q2 k2 => e_263 (fun c => absurd c c0) (fun _ _ => ?_) (fun _ c => absurd en20 c))
        have fin : ∀ h a b g f r w, Q2 (some (.int (bx2 W (vP V)))) (mkH (rx (cx hi s' (hi 256) z.1 p' z.2 (hi 260)) h a b g f r w) hl sw kp) := fun h a b g f r w => k2 _ hl sw kp (hR.fr (fr_tr (rx_fr (hi := cx hi s' (hi 256) z.1 p' z.2 (hi 260))) cx_fr) rfl)
        obtain ⟨X, eX⟩ : ∃ X, X = cx hi s' (hi 256) z.1 p' z.2 (hi 260) := ⟨_, rfl⟩
        have hvX : R_vil V X := by rw [eX]; exact hv
        have hpX : R_pul X := by rw [eX]; exact hpu
        have X299 : ∀ k, X 299 k = hi 299 k := fun k => by rw [eX]; rfl
        have X49 : X 279 49 = nI (vSt V) := by rw [eX]; exact e49
        have X46 : ∀ h a b g f r w, (rx X h a b g f r w) 279 46 = nI (vP V) := fun h a b g f r w => hvX.2.2.1.2.1
        have eWX : ∀ p, prd (fun i => WY V X (fun t => bo t + if t = p then 1 else 0) H' 0 (pl (i + 1)) (pl i)) n = W p := fun p => by
          rw [eW, eX]
          exact prd_cg n (fun i _ => WY_cx 0 _ _)
        rw [← eX] at fin ⊢
        refine cW.hi (hi := rx X (X 279 61) (X 279 62) (X 300) (X 288) (X 287) (X 301) (X 302)) rx_id.symm ?_
        refine lpu (σ := Int32 × Int32 × (Nat → Int32) × (Nat → Int32) × (Nat → Int32) × (Nat → Int32) × (Nat → Int32)) (vP V) (fun j y => ∀ o6 : Option Value, cW cd_263 (d + 9) Q2 32 [some (.ref 279), some (.int (nI n)), some (.int (bx2 W j)), some (.long (bx3 W j)), none, some (.int (nI j)), o6, none] [] (mkH (rx X y.1 y.2.1 y.2.2.1 y.2.2.2.1 y.2.2.2.2.1 y.2.2.2.2.2.1 y.2.2.2.2.2.2) hl sw kp)) (fun _ _ => True) ?_ ?_ (vP V) 0 (X 279 61, X 279 62, X 300, X 288, X 287, X 301, X 302) (Nat.zero_add _) trivial none
        · intro y _ o6
          exact k_263_32 (fun _ => fin _ _ _ _ _ _ _) (fun c => absurd (by rw [X46]; exact Int32.le_refl _) c)
        · intro j y hj _ ih o6
          refine k_263_32 (fun c => absurd c (by rw [X46]; exact nI_ge hj (by omega))) (fun _ => ?_)
          refine f262 (d := d + 1) (V := V) (hi := X) (H := H') (pl := pl) (bo := bo) hvX hpX hj hn n1 (by rw [X299]; exact n3) (by rw [X299]; exact n4) (fun t ht => by rw [X299]; exact (n5 t ht).2.2) (by rw [X299]; exact e20) X49 (fun k hk => by rw [X299]; exact (hr k hk).1) hz (fun j _ => hpl j) (fun h a b g f r w => k_263_48 (fun c => ?_) (fun c => ?_))
          · rw [eWX] at c ⊢
            have := bx_gt (W := W) (j := j) (fun i _ => hW i) (Int32.not_le.mpr c)
            rw [nI_1, ← this.1, ← this.2]
            exact ih (h, a, b, g, f, r, w) trivial _
          · rw [eWX] at c ⊢
            have := bx_le (W := W) (j := j) (fun i _ => hW i) (Int32.not_lt.mp c)
            rw [nI_1, ← this.1, ← this.2]
            exact ih (h, a, b, g, f, r, w) trivial _
      · intro j z hj _ ih o6
        have e19 : (cx hi s' (hi 256) z.1 p' z.2 (hi 260)) 19 1 = nI (vP V) := hv.2.1.2.1
        refine k_146_41 (fun c => absurd c (by rw [e19]; exact nI_ge hj (by omega))) (fun _ => f38 (d := d + 7) (fun m' hm' => k_146_60 (vp_in_nI (by omega) (by decide)) ?_))
        rw [nI_clamp (by omega), cx_257]
        refine f40 (d := d + 6) (V := V) (B := 255) (fi := 0) (en := 1) (mr := fun t => if t = j then 1 else 0) (pl := fun u t e => PU V hi t (if H' / vDy V < (H' + u) / vDy V then 0 else bo t + if t = j then 1 else 0) (H' + u) e) hv (by decide) (by decide) (by decide) (fun t ht => ?_) (fun u t e _ hu ht he => ?_) (fun u t e => PU_le) (fun v hv1 hv2 => k_146_83 ?_)
        · by_cases c : t = j
          · subst c
            rw [up1_s]
            show (1 : Int32) = nI (if t = t then 1 else 0) ∧ (if t = t then 1 else 0) ≤ 4
            rw [if_pos rfl]
            exact ⟨rfl, by decide⟩
          · rw [up1_n c]
            show m' t = nI (if t = j then 1 else 0) ∧ (if t = j then 1 else 0) ≤ 4
            rw [if_neg c]
            exact ⟨hm' t (by omega), by decide⟩
        · have hle : (if t = j then 1 else 0) ≤ 1 := by
            by_cases c : t = j
            · rw [if_pos c]; exact Nat.le_refl 1
            · rw [if_neg c]; exact Nat.zero_le 1
          exact hp' u t _ e hu ht hle he
        · have hcw : ∀ f t, f < vP V → t < vP V → g_43 (cx hi s' (hi 256) (up1 m' j 1) p' v (hi 260)) (0 : Int32) (nI f) (nI t) = nI (WY V hi (fun t => bo t + if t = j then 1 else 0) H' 0 f t) := fun f t hf ht => by
            obtain ⟨g1, g2⟩ := g43 (hi := hi) (u := 0) (s := s') (o := hi 256) (m := up1 m' j 1) (p := p') (w := v) (g := hi 260) hv (by decide) hf ht
            exact g1.trans (hv1 0 f t (Nat.le_refl 0) (by decide) hf (b255 f (by omega)) ht)
          refine f54 (d := d + 6) (X := cx hi s' (hi 256) (up1 m' j 1) p' v (hi 260)) (H := H') (pl := pl) (W := fun i => WY V hi (fun t => bo t + if t = j then 1 else 0) H' 0 (pl (i + 1)) (pl i)) hn hn1 hnH n1 n2 ?_ h83 (fun i _ => by have := hpl i; omega) (fun i _ => hcw _ _ (hpl _) (hpl _)) (fun i _ => WY_le (hpl _) (hpl _)) (k_146_91 (fun c => ?_) (fun c => ?_))
          · rcases Nat.lt_or_ge n H' with h | h
            · exact Or.inr h
            · refine Or.inl ?_
              rw [hz n (by omega)]
              exact hv.2.1.2.2.2.2.2.2.1
          · have ew : prd (fun i => WY V hi (fun t => bo t + if t = j then 1 else 0) H' 0 (pl (i + 1)) (pl i)) n = W j := by rw [eW]
            rw [ew] at c ⊢
            have := bx_le (W := W) (j := j) (fun i _ => hW i) c
            rw [nI_1, ← this.1, ← this.2]
            exact ih (up1 m' j 1, v) trivial _
          · have ew : prd (fun i => WY V hi (fun t => bo t + if t = j then 1 else 0) H' 0 (pl (i + 1)) (pl i)) n = W j := by rw [eW]
            rw [ew] at c ⊢
            have := bx_gt (W := W) (j := j) (fun i _ => hW i) c
            rw [nI_1, ← this.1, ← this.2]
            exact ih (up1 m' j 1, v) trivial _
    · have z1 : ¬ nI n ≤ hi 28 1 := by rw [n2]; exact nI_ge (by omega) (by omega)
      have z2 : ¬ nI n ≤ hi 299 20 := by rw [e20]; exact nI_ge (by omega) (by omega)
      exact e_146 (fun c => absurd c c0) (fun _ c => absurd c z1) (fun _ _ => k (-1) hi hl sw kp (fun Q2 k2 => e_263 (fun c => absurd c c0) (fun _ c => absurd c z2) (fun _ _ => k2 hi hl sw kp hR)))
end FED
