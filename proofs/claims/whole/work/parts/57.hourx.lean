/-! ===== operation: hour, both ===== -/
section HOURX
variable {d : Nat} {Q : am_Q} {hi : Nat → Nat → Int32} {hl : Nat → Nat → Int64} {sw : Bool} {kp : Nat → Nat} {V : vN}
theorem rx_r299 {h a : Int32} {b g f r w : Nat → Int32} (k : Nat) : (rx hi h a b g f r w) 299 k = hi 299 k := by
  show uR (uR (uR (uR (uR (u2 (u2 hi 279 61 h) 279 62 a) 300 b) 288 g) 287 f) 301 r) 302 w 299 k = _
  rw [uR_ne (by decide), uR_ne (by decide), uR_ne (by decide), uR_ne (by decide), uR_ne (by decide), u2_row_ne (by decide), u2_row_ne (by decide)]
theorem qp_fr {X Y : Nat → Nat → Int32} {bb : Nat → Nat} {H s f : Nat} (e : ∀ c j, NS c j → X c j = Y c j) : qp V X bb H s f = qp V Y bb H s f := by
  have e20 : X 20 = Y 20 := funext (fun j => e 20 j (by unfold NS; omega))
  have e22 : X 22 = Y 22 := funext (fun j => e 22 j (by unfold NS; omega))
  have e284 : X 284 = Y 284 := funext (fun j => e 284 j (by unfold NS; omega))
  have e285 : X 285 = Y 285 := funext (fun j => e 285 j (by unfold NS; omega))
  have e58 : X 279 58 = Y 279 58 := e 279 58 (by unfold NS; omega)
  have e18 : X 279 18 = Y 279 18 := e 279 18 (by unfold NS; omega)
  funext t
  unfold qp go PU pval
  rw [e20, e22, e284, e285, e58, e18]
/-- what the reference's hour leaves alone -/
def UR (c j : Nat) : Prop := ¬ (c = 299 ∨ c = 300 ∨ c = 287 ∨ c = 288 ∨ c = 301 ∨ c = 302 ∨ c = 303 ∨ (c = 279 ∧ (j = 61 ∨ j = 62 ∨ j = 66 ∨ j = 67)))
theorem rx_UR {h a : Int32} {b g f r w : Nat → Int32} {c j : Nat} (n : UR c j) : (rx hi h a b g f r w) c j = hi c j := by
  unfold UR at n
  show uR (uR (uR (uR (uR (u2 (u2 hi 279 61 h) 279 62 a) 300 b) 288 g) 287 f) 301 r) 302 w c j = _
  rw [uR_ne (by omega), uR_ne (by omega), uR_ne (by omega), uR_ne (by omega), uR_ne (by omega), u2_nn (by omega), u2_nn (by omega)]
/-- the reference's row behind an hour -/
def RW (V : vN) (X : Nat → Nat → Int32) (H t sd : Nat) (bo : Nat → Nat) (r r0 : Nat → Int32) : Prop :=
  r 16 = nI t ∧ r 17 = nI (H + 1) ∧ r 18 = nI (min 99 (vAg V + (H + 1) / vDy V)) ∧ r 19 = nI ((sd * 137 + 71) % 1000) ∧ (∀ p, p < 8 → r p = nI (if (H + 1) % vDy V = 0 then 0 else bo p)) ∧
  (∀ c, c < 4 → r (8 + c) = nsc (hdd V H c) (r0 (8 + c)) (r0 (12 + c)) (nI (cnA X c t) - 3)) ∧ (∀ c, c < 4 → r (12 + c) = nsd (hdd V H c) (r0 (8 + c)) (r0 (12 + c)) (nI (cnA X c t) - 3) (X 23 c)) ∧
  r 20 = nI (min (H + 1) 60) ∧ (∀ k, k < min (H + 1) 60 → r (21 + k) = if k + 1 = min (H + 1) 60 then nI t else r0 (21 + (k + (min H 60 + 1 - min (H + 1) 60))))
theorem f227 {q H a sd : Nat} {bo : Nat → Nat} (st : Rst V hi hl) (hq : q < vP V) (hH : H < 2000) (ha : a ≤ 40) (e66 : hi 279 66 = nI a) (e16 : hi 299 16 = nI q) (e17 : hi 299 17 = nI H) (e18 : hi 299 18 = nI (min 99 (vAg V + H / vDy V))) (e19 : hi 299 19 = nI sd) (hsd : sd < 1000) (e20 : hi 299 20 = nI (min H 60)) (ebo : ∀ t, t < 8 → hi 299 t = nI (bo t)) (hst : ∀ c, c < 4 → hi 299 (12 + c) = 0 ∨ hi 299 (12 + c) = 1 ∨ hi 299 (12 + c) = 2)
    (w' : ∀ (t a' : Nat) (hi' : Nat → Nat → Int32), t < vP V → GG (qp V hi bo H 0 q) (vP V) q ((sd * 137 + 71) % 1000 % 60) t → a' < 40 → (a' = a ∨ (a = 40 ∧ a' = 39)) → (∀ k, k < 81 → hi' 303 (82 * a' + k) = hi 299 k) → (∀ j k, j < a' → k < 81 → hi' 303 (82 * j + k) = hi 303 (82 * (j + (a - a')) + k)) → hi' 279 66 = nI (a' + 1) → hi' 279 67 = nI 0 → (∀ c j, UR c j → hi' c j = hi c j) → RW V hi H t sd bo (hi' 299) (hi 299) → Q (some (.int (nI t))) (mkH hi' hl sw kp)) : cS (d + 6) 227 [.ref 279] (mkH hi hl sw kp) Q := by
  have hv := st.2.2.2.2.2.1
  have hb := hv.1
  have e46 : hi 279 46 = nI (vP V) := hv.2.2.1.2.1
  refine e_227 (fun c => absurd c (by rw [e17]; exact fun z => absurd ((nI_eq (b := 2000) (by omega) (by decide)).mp z) (by omega))) (fun _ c => absurd c (by rw [e46]; exact nI_ne0 (by omega) (by omega))) (fun _ _ => f223 (d := d + 4) (a := a) ha e66 (fun a' g h1 h2 h3 h4 => k_227_26 ?_))
  obtain ⟨hA, eA⟩ : ∃ X, X = u2 (u2 (uR hi 303 g) 279 66 (nI (a' + 1))) 279 67 (nI 0) := ⟨_, rfl⟩
  rw [← eA]
  have frA : ∀ c j, c ≠ 303 → ¬ (c = 279 ∧ (j = 66 ∨ j = 67)) → hA c j = hi c j := by
    intro c j n1 n2
    rw [eA, u2_nn (by omega), u2_nn (by omega), uR_ne n1]
  have A303 : ∀ j, hA 303 j = g j := fun j => by
    rw [eA, u2_row_ne (by decide), u2_row_ne (by decide), uR_s]
  have A66 : hA 279 66 = nI (a' + 1) := by rw [eA, u2_nn (by decide), u2_s]
  have A67 : hA 279 67 = nI 0 := by rw [eA, u2_s]
  have A299 : ∀ k, hA 299 k = hi 299 k := fun k => frA 299 k (by decide) (by omega)
  refine f211' (d := d + 4) (fun b' hb' => k_227_30 ?_)
  have hb2 : ∀ p, p < 8 → b' p = nI (bo p) := fun p hp => by
    rw [hb' p hp, A299]
    exact ebo p hp
  rw [show hA 299 17 = nI H from (A299 17).trans e17, show hA 299 18 = nI (min 99 (vAg V + H / vDy V)) from (A299 18).trans e18, rx_r299 16, rx_r299 19, A299 16, A299 19, e16, e19]
  obtain ⟨g1, eg1⟩ : ∃ g1, g1 = (sd * 137 + 71) % 1000 := ⟨_, rfl⟩
  have hg1 : g1 < 1000 := by rw [eg1]; exact Nat.mod_lt _ (by decide)
  have es : (nI sd * 137 + 71) - (nI sd * 137 + 71) / 1000 * 1000 = nI g1 := by
    rw [show (137 : Int32) = nI 137 from rfl, pk_mul, show (71 : Int32) = nI 71 from rfl, nI_add, eg1]
    exact pk_rem (d := 1000) (by omega) (by decide) (by decide)
  have es2 : nI g1 - nI g1 / 60 * 60 = nI (g1 % 60) := pk_rem (d := 60) (by omega) (by decide) (by decide)
  rw [es, es2, rx_299]
  rw [← eg1] at w'
  have hg60 : g1 % 60 < 60 := Nat.mod_lt _ (by decide)
  obtain ⟨hB, eB⟩ : ∃ X, X = u2 hA 299 19 (nI g1) := ⟨_, rfl⟩
  rw [← eB]
  have frB : ∀ c j, c ≠ 299 → hB c j = hA c j := fun c j n => by rw [eB, u2_row_ne n]
  have stB : Rst V hB hl := st.fr (fun c j h => by
    unfold NS at h
    rw [frB c j (by omega), frA c j (by omega) (by omega)]) rfl
  have B22 : hB 22 = hi 22 := by
    funext j
    rw [frB 22 j (by decide), frA 22 j (by decide) (by omega)]
  refine f215 (d := d) (V := V) (hi := hB) (bn := bs V bo H 0) stB.2.2.2.2.2.1 stB.2.2.2.2.2.2 hq (by omega) (fun t ht => by rw [hb2 t (by omega), bs_0]) (fun g' f' r' hr' => k_227_84 ?_)
  refine f216 (d := d + 4) (q := qq V hB (bs V bo H 0) H q) hb.2.1 ?_ hq hg60 (fun t => qq_le) (fun t ht => ?_) (fun t ht hG => k_227_87 ?_)
  · rw [rx_UR (by unfold UR; omega)]
    exact stB.2.2.2.2.2.1.2.2.1.2.1
  · show uR (uR _ 301 r') 302 _ 301 t = _
    rw [uR_ne (by decide), uR_s]
    exact hr' t ht
  rw [rx_299]
  obtain ⟨hC, eC⟩ : ∃ X, X = u2 hB 299 16 (nI t) := ⟨_, rfl⟩
  rw [← eC]
  have frC : ∀ c j, c ≠ 299 → hC c j = hA c j := fun c j n => by rw [eC, u2_row_ne n, frB c j n]
  have C16 : hC 299 16 = nI t := by rw [eC, u2_s]
  have C19 : hC 299 19 = nI g1 := by rw [eC, u2_nn (by decide), eB, u2_s]
  have C299 : ∀ k, k ≠ 16 → k ≠ 19 → hC 299 k = hi 299 k := fun k n1 n2 => by rw [eC, u2_nn (by omega), eB, u2_nn (by omega), A299]
  refine f226 (d := d + 4) (n := min H 60) (by omega) (by rw [rx_r299, C299 20 (by decide) (by decide)]; exact e20) (fun r1 hw1 => k_227_101 (vp_in_nI (by omega) (by decide)) ?_)
  obtain ⟨w1, w2, w3⟩ := hw1
  rw [nI_clamp (by omega)]
  obtain ⟨hX, eX⟩ : ∃ X, X = uR (rx hC (nI H) (nI (min 99 (vAg V + H / vDy V))) b' g' f' r' (hA 302)) 299 r1 := ⟨_, rfl⟩
  have frX : ∀ c j, UR c j → hX c j = hi c j := fun c j n => by
    have n2 := n
    unfold UR at n2
    rw [eX, uR_ne (by omega), rx_UR n, frC c j (by omega), frA c j (by omega) (by omega)]
  have stX : Rst V hX hl := st.fr (fun c j h => frX c j (by unfold NS at h; unfold UR; omega)) rfl
  have X299 : ∀ k, hX 299 k = r1 k := fun k => by rw [eX, uR_s]
  have cX : ∀ c, cnA hX c t = cnA hi c t := fun c => by
    have x21 : hX 21 = hi 21 := funext (fun j => frX 21 j (by unfold UR; omega))
    have x24 : hX 24 = hi 24 := funext (fun j => frX 24 j (by unfold UR; omega))
    unfold cnA
    rw [x21, x24]
  have r1v : ∀ k, k < 20 → k ≠ 16 → k ≠ 19 → r1 k = hi 299 k := fun k hk n1 n2 => by rw [w1 k hk, rx_r299, C299 k n1 n2]
  rw [← eX]
  refine f225 (d := d + 3) stX.2.2.2.2.2.1 ht (by rw [X299, r1v 17 (by decide) (by decide) (by decide)]; exact e17) (by omega) (fun c hc => by rw [X299, r1v _ (by omega) (by omega) (by omega)]; exact hst c hc) (fun r2 hd2 => k_227_111 ?_)
  obtain ⟨d1, d2, d3⟩ := hd2
  obtain ⟨hD, eD⟩ : ∃ X, X = uR hC 299 r2 := ⟨_, rfl⟩
  have D50 : hD 279 50 = nI (vDy V) := by
    rw [eD, uR_ne (by decide), frC 279 50 (by decide), frA 279 50 (by decide) (by omega)]
    exact hv.2.2.1.2.2.2.2.1
  refine cS.hi (hi := rx hD (nI H) (nI (min 99 (vAg V + H / vDy V))) b' g' f' r' (hA 302)) (by rw [eX, uR_uR, rx_299R, eD]) ?_
  refine f212 (d := d + 4) (V := V) (n := H) (A := vAg V) (bn := bo) (by omega) (by omega) (by omega) D50 rfl rfl hb2 (fun b'' hb'' => k_227_115 ?_)
  obtain ⟨hE, eE⟩ : ∃ X, X = rx hD (nI (H + 1)) (nI (min 99 (vAg V + (H + 1) / vDy V))) b'' g' f' r' (hA 302) := ⟨_, rfl⟩
  rw [← eE]
  have E61 : hE 279 61 = nI (H + 1) := by rw [eE]; rfl
  have E62 : hE 279 62 = nI (min 99 (vAg V + (H + 1) / vDy V)) := by rw [eE]; rfl
  have E300 : ∀ p, hE 300 p = b'' p := fun p => by rw [eE]; rfl
  have E299 : ∀ k, hE 299 k = r2 k := fun k => by rw [eE, rx_r299, eD, uR_s]
  have frE : ∀ c j, c ≠ 299 → c ≠ 300 → c ≠ 287 → c ≠ 288 → c ≠ 301 → c ≠ 302 → ¬ (c = 279 ∧ (j = 61 ∨ j = 62)) → hE c j = hA c j := by
    intro c j n1 n2 n3 n4 n5 n6 n7
    rw [eE]
    show uR (uR (uR (uR (uR (u2 (u2 hD 279 61 _) 279 62 _) 300 _) 288 _) 287 _) 301 _) 302 _ c j = _
    rw [uR_ne (by omega), uR_ne (by omega), uR_ne (by omega), uR_ne (by omega), uR_ne (by omega), u2_nn (by omega), u2_nn (by omega), eD, uR_ne n1, frC c j n1]
  refine cW.hi (hi := uR hE 299 (hE 299)) uR_id.symm ?_
  refine lpu (σ := Nat → Int32) 8 (fun i r => cW cd_227 (d + 5) Q 117 [some (.ref 279), some (.int (nI t)), some (.int (nI i))] [] (mkH (uR hE 299 r) hl sw kp)) (fun i r => (∀ p, p < i → r p = b'' p) ∧ (∀ k, 8 ≤ k → r k = r2 k)) ?_ ?_ 8 0 (hE 299) rfl ⟨fun p hp => absurd hp (Nat.not_lt_zero p), fun k _ => E299 k⟩
  · intro r ⟨i1, i2⟩
    refine k_227_117 (fun _ => ?_) (fun c => absurd (by decide) c) (fun c => absurd (by decide) c) (fun c => absurd (by decide) c)
    have q61 : (uR hE 299 r) 279 61 = nI (H + 1) := by rw [uR_ne (by decide)]; exact E61
    have q62 : (u2 (uR hE 299 r) 299 17 (nI (H + 1))) 279 62 = nI (min 99 (vAg V + (H + 1) / vDy V)) := by rw [u2_row_ne (by decide), uR_ne (by decide)]; exact E62
    have q62b : (uR hE 299 r) 279 62 = nI (min 99 (vAg V + (H + 1) / vDy V)) := by rw [uR_ne (by decide)]; exact E62
    rw [q61]
    first
      | rw [q62]
      | rw [q62b]
    have fin : ∀ k, k ≠ 17 → k ≠ 18 → (u2 (u2 (uR hE 299 r) 299 17 (nI (H + 1))) 299 18 (nI (min 99 (vAg V + (H + 1) / vDy V)))) 299 k = r k := fun k n1 n2 => by
      rw [u2_nn (by omega), u2_nn (by omega), uR_s]
    have fo : ∀ c j, c ≠ 299 → (u2 (u2 (uR hE 299 r) 299 17 (nI (H + 1))) 299 18 (nI (min 99 (vAg V + (H + 1) / vDy V)))) c j = hE c j := fun c j n => by
      rw [u2_row_ne n, u2_row_ne n, uR_ne n]
    have hGq : qp V hi bo H 0 q = qq V hB (bs V bo H 0) H q := qp_fr (X := hi) (Y := hB) (fun c j h => by
      unfold NS at h
      rw [frB c j (by omega), frA c j (by omega) (by omega)])
    refine w' t a' _ ht (by rw [hGq]; exact hG) h1 h2 (fun k hk => ?_) (fun j k hj hk => ?_) ?_ ?_ (fun c j n => ?_) ⟨?_, ?_, ?_, ?_, fun p hp => ?_, fun c hc => ?_, fun c hc => ?_, ?_, fun k hk => ?_⟩
    · rw [fo 303 _ (by decide), frE 303 _ (by decide) (by decide) (by decide) (by decide) (by decide) (by decide) (by omega), A303]
      exact h3 k hk
    · rw [fo 303 _ (by decide), frE 303 _ (by decide) (by decide) (by decide) (by decide) (by decide) (by decide) (by omega), A303]
      exact h4 j k hj hk
    · rw [fo 279 66 (by decide), frE 279 66 (by decide) (by decide) (by decide) (by decide) (by decide) (by decide) (by omega)]
      exact A66
    · rw [fo 279 67 (by decide), frE 279 67 (by decide) (by decide) (by decide) (by decide) (by decide) (by decide) (by omega)]
      exact A67
    · unfold UR at n
      rw [fo c j (by omega), frE c j (by omega) (by omega) (by omega) (by omega) (by omega) (by omega) (by omega), frA c j (by omega) (by omega)]
    · rw [fin 16 (by decide) (by decide), i2 16 (by decide), d1 16 (by omega), X299, w1 16 (by decide), rx_r299]
      exact C16
    · rw [u2_nn (by decide), u2_s]
    · rw [u2_s]
    · rw [fin 19 (by decide) (by decide), i2 19 (by decide), d1 19 (by omega), X299, w1 19 (by decide), rx_r299, ← eg1]
      exact C19
    · rw [fin p (by omega) (by omega), i1 p hp]
      exact hb'' p hp
    · rw [fin _ (by omega) (by omega), i2 _ (by omega), d2 c hc, X299, X299, r1v _ (by omega) (by omega) (by omega), r1v _ (by omega) (by omega) (by omega), cX c]
    · rw [fin _ (by omega) (by omega), i2 _ (by omega), d3 c hc, X299, X299, r1v _ (by omega) (by omega) (by omega), r1v _ (by omega) (by omega) (by omega), cX c, frX 23 c (by unfold UR; omega)]
    · rw [fin 20 (by decide) (by decide), i2 20 (by decide), d1 20 (by omega), X299, w2]
      congr 1
      omega
    · have ek : min (min H 60 + 1) 60 = min (H + 1) 60 := by omega
      rw [ek] at w3
      rw [fin _ (by omega) (by omega), i2 _ (by omega), d1 _ (by omega), X299, w3 k hk, rx_r299, C299 _ (by omega) (by omega)]
  · intro i r hi8 ⟨i1, i2⟩ ih
    have e0 : (0 : Int32) + nI i = nI i := Int32.zero_add _
    refine k_227_117 (fun c => absurd c (nI_ge (a := i) (b := 8) hi8 (by decide))) (fun _ => vp_in_nI hi8 (by decide)) (fun _ => by rw [e0]; exact vp_in_nI (by omega) (by decide)) (fun _ => ?_)
    rw [e0, nI_clamp (by omega), nI_1, uR_ne (by decide), E300]
    refine cW.hi u2_in (ih _ ⟨fun p hp => ?_, fun k hk => ?_⟩)
    · by_cases c : p = i
      · subst c
        exact up1_s
      · rw [up1_n c]
        exact i1 p (by omega)
    · rw [up1_n (by omega)]
      exact i2 k hk
theorem nst_or (s b : Int32) : nst s b = 0 ∨ nst s b = 1 ∨ nst s b = 2 := by
  unfold nst
  by_cases c1 : s < b
  · rw [if_pos c1]
    by_cases c2 : -b < s
    · rw [if_pos c2]; exact Or.inl rfl
    · rw [if_neg c2]; exact Or.inr (Or.inr rfl)
  · rw [if_neg c1]; exact Or.inr (Or.inl rfl)
theorem gn_add {s : Int32} {k : Nat} (hk : k ≤ 6) (h1 : -15 < s.toInt) (h2 : s.toInt < 15) : (s + (nI k - 3)).toInt = s.toInt + (k : Int) - 3 := by
  have e1 : (nI k - 3 : Int32).toInt = (k : Int) - 3 := pk_sub_toInt (b := 3) (by omega) (by decide)
  have := Int32.toInt_add s (nI k - 3)
  rw [this, e1]
  rw [Int.bmod_eq_of_le (by omega) (by omega)]
  omega
theorem ng_b {b : Nat} (hb : b ≤ 15) : (-(nI b)).toInt = -(b : Int) := by
  rw [Int32.toInt_neg, nI_toInt (by omega), Int.bmod_eq_of_le (by omega) (by omega)]
theorem sr_hour {X hi' : Nat → Nat → Int32} {H t sd : Nat} {bo : Nat → Nat} (hv : R_vil V X) (hs : SRc V X 28 (X 299)) (eH : X 28 1 = nI H) (hH : H < 2000) (ht : t < vP V) (b23 : hi' 23 = X 23) (a0 : hi' 28 0 = nI t) (a1 : hi' 28 1 = nI (H + 1)) (a2 : hi' 28 2 = nI ((sd * 137 + 71) % 1000)) (a3 : ∀ j, j < 8 → hi' 29 j = if (H + 1) % vDy V = 0 then nI 0 else X 29 j) (a4 : ∀ c, c < 4 → hi' 30 c = nsc (hdd V H c) (X 30 c) (X 31 c) (nI (cnA X c t) - 3)) (a5 : ∀ c, c < 4 → hi' 31 c = nsd (hdd V H c) (X 30 c) (X 31 c) (nI (cnA X c t) - 3) (X 23 c)) (a6 : ∀ j, hi' 32 j = if j = H % 60 then nI t else X 32 j) (r : RW V X H t sd bo (hi' 299) (X 299)) (ebo : ∀ t, t < 8 → bo t ≤ 9 ∧ X 29 t = nI (bo t)) : SRc V hi' 28 (hi' 299) := by
  obtain ⟨H', s1, s2, s3, s4, s5, s6, s7, s8, s9, s10, s11, s12⟩ := hs
  have hHH : H' = H := (nI_eq (by omega) (by omega)).mp (s2.symm.trans eH)
  subst hHH
  obtain ⟨r16, r17, r18, r19, rb, r8, r12, r20, rw⟩ := r
  refine ⟨H' + 1, by omega, a1, r17, r16.trans a0.symm, Or.inr ⟨t, ht, a0⟩, r19.trans a2.symm, ⟨_, Nat.mod_lt _ (by decide), a2⟩, r18, fun p hp => ?_, fun c hc => ?_, r20, fun k hk => ?_⟩
  · refine ⟨if (H' + 1) % vDy V = 0 then 0 else bo p, ?_, ?_, rb p hp⟩
    · by_cases c : (H' + 1) % vDy V = 0
      · rw [if_pos c]; omega
      · rw [if_neg c]; exact (ebo p hp).1
    · have := a3 p hp
      by_cases c : (H' + 1) % vDy V = 0
      · rw [if_pos c] at this ⊢; exact this
      · rw [if_neg c] at this ⊢; rw [(ebo p hp).2] at this; exact this
  · obtain ⟨z1, z2, z3, z4, z5, z6⟩ := s10 c hc
    have y1 : X 299 (8 + c) = X 30 c := z1
    have y2 : X 299 (12 + c) = X 31 c := z2
    have y3 : X 31 c = 0 ∨ X 31 c = 1 ∨ X 31 c = 2 := z3
    have y4 : -1000 ≤ (X 30 c).toInt := z4
    have y5 : (X 30 c).toInt ≤ 1000 := z5
    have y6 : c < vC V → X 31 c = 0 → -(X 23 c).toInt < (X 30 c).toInt ∧ (X 30 c).toInt < (X 23 c).toInt := z6
    have p1 := r8 c hc
    have p2 := r12 c hc
    have p3 := a4 c hc
    have p4 := a5 c hc
    rw [y1, y2] at p1 p2
    show hi' 299 (8 + c) = hi' 30 c ∧ hi' 299 (12 + c) = hi' 31 c ∧ (hi' 31 c = 0 ∨ hi' 31 c = 1 ∨ hi' 31 c = 2) ∧ -1000 ≤ (hi' 30 c).toInt ∧ (hi' 30 c).toInt ≤ 1000 ∧ (c < vC V → hi' 31 c = 0 → -(hi' 23 c).toInt < (hi' 30 c).toInt ∧ (hi' 30 c).toInt < (hi' 23 c).toInt)
    refine ⟨p1.trans p3.symm, p2.trans p4.symm, ?_⟩
    rw [p3, p4, b23]
    cases hh : hdd V H' c with
    | false => exact ⟨y3, y4, y5, y6⟩
    | true =>
      unfold nsc nsd
      rw [cond_true, cond_true]
      by_cases c0 : X 31 c = 0
      · have hcC : c < vC V := by
          rcases Nat.lt_or_ge c (vC V) with z | z
          · exact z
          · unfold hdd at hh
            have hz := ((Bool.and_eq_true _ _).mp hh).1
            exact Nat.le_of_ble_eq_true hz
        obtain ⟨b, b1, b2, b3, b4⟩ := hv.2.2.2.2.1 c hcC
        obtain ⟨q1, q2⟩ := y6 hcC c0
        have eb : (X 23 c).toInt = (b : Int) := by rw [b3, nI_toInt (by omega)]
        rw [eb] at q1 q2
        have hk6 : cnA X c t ≤ 6 := Nat.min_le_left _ _
        have es := gn_add (s := X 30 c) hk6 (by omega) (by omega)
        rw [if_pos c0, if_pos c0]
        refine ⟨nst_or _ _, by omega, by omega, fun _ h0 => ?_⟩
        unfold nst at h0
        by_cases c1 : X 30 c + (nI (cnA X c t) - 3) < X 23 c
        · rw [if_pos c1] at h0
          by_cases c2 : -(X 23 c) < X 30 c + (nI (cnA X c t) - 3)
          · rw [b3] at c2
            have t1 := Int32.lt_iff_toInt_lt.mp c1
            have t2 := Int32.lt_iff_toInt_lt.mp c2
            rw [ng_b b2] at t2
            rw [eb] at t1 ⊢
            exact ⟨t2, t1⟩
          · rw [if_neg c2] at h0
            exact absurd h0 (by decide)
        · rw [if_neg c1] at h0
          exact absurd h0 (by decide)
      · rw [if_neg c0, if_neg c0]
        exact ⟨y3, y4, y5, y6⟩
  · have e := rw k hk
    show hi' 299 (21 + k) = hi' 32 ((H' + 1 - min (H' + 1) 60 + k) % 60) ∧ ∃ g : Nat, g < vP V ∧ hi' 299 (21 + k) = nI g
    by_cases c : k + 1 = min (H' + 1) 60
    · rw [if_pos c] at e
      rw [e, a6, if_pos (by omega)]
      exact ⟨rfl, t, ht, rfl⟩
    · rw [if_neg c] at e
      obtain ⟨t1, g, t2, t3⟩ := s12 (k + (min H' 60 + 1 - min (H' + 1) 60)) (by omega)
      rw [e, a6, if_neg (by omega)]
      refine ⟨t1.trans ?_, g, t2, t3⟩
      have : H' - min H' 60 + (k + (min H' 60 + 1 - min (H' + 1) 60)) = H' + 1 - min (H' + 1) 60 + k := by omega
      rw [this]
end HOURX
