/-! ===== draws: the reference's load, tick, layPulls, goalOf, layWays ===== -/
abbrev rx (hi : Nat → Nat → Int32) (h a : Int32) (b g f r w : Nat → Int32) : Nat → Nat → Int32 := uR (uR (uR (uR (uR (u2 (u2 hi 279 61 h) 279 62 a) 300 b) 288 g) 287 f) 301 r) 302 w
theorem u2_id {α : Type} {f : Nat → Nat → α} {i j : Nat} : u2 f i j (f i j) = f := by
  funext a b
  rw [u2_eq]
  by_cases h : a = i ∧ b = j
  · rw [if_pos h, h.1, h.2]
  · rw [if_neg h]
theorem u2_cj {α : Type} {f : Nat → Nat → α} {i j j' : Nat} {x y z : α} (h : j ≠ j') : u2 (u2 (u2 f i j x) i j' y) i j z = u2 (u2 f i j z) i j' y := by
  funext a b
  simp only [u2_eq]
  by_cases h1 : a = i ∧ b = j
  · rw [if_pos h1, if_neg (fun q => h (by omega)), if_pos h1]
  · rw [if_neg h1]
    by_cases h2 : a = i ∧ b = j'
    · rw [if_pos h2, if_pos h2]
    · rw [if_neg h2, if_neg h2, if_neg h1, if_neg h1]
section WAYR
variable {d : Nat} {Q : am_Q} {hi : Nat → Nat → Int32} {hl : Nat → Nat → Int64} {sw : Bool} {kp : Nat → Nat} {V : vN} {h a x : Int32} {b g f r w g' f' r' : Nat → Int32} {k : Nat}
theorem rx_id : rx hi (hi 279 61) (hi 279 62) (hi 300) (hi 288) (hi 287) (hi 301) (hi 302) = hi := by
  show uR (uR (uR (uR (uR (u2 (u2 hi 279 61 (hi 279 61)) 279 62 (hi 279 62)) 300 (hi 300)) 288 (hi 288)) 287 (hi 287)) 301 (hi 301)) 302 (hi 302) = hi
  rw [u2_id, u2_id, uR_id, uR_id, uR_id, uR_id, uR_id]
theorem rx_61 : u2 (rx hi h a b g f r w) 279 61 x = rx hi x a b g f r w := by
  show u2 (uR (uR (uR (uR (uR (u2 (u2 hi 279 61 h) 279 62 a) 300 b) 288 g) 287 f) 301 r) 302 w) 279 61 x = _
  rw [u2_co (by decide), u2_co (by decide), u2_co (by decide), u2_co (by decide), u2_co (by decide), u2_cj (by decide)]
theorem rx_62 : u2 (rx hi h a b g f r w) 279 62 x = rx hi h x b g f r w := by
  show u2 (uR (uR (uR (uR (uR (u2 (u2 hi 279 61 h) 279 62 a) 300 b) 288 g) 287 f) 301 r) 302 w) 279 62 x = _
  rw [u2_co (by decide), u2_co (by decide), u2_co (by decide), u2_co (by decide), u2_co (by decide), u2_u2]
theorem rx_300 : u2 (rx hi h a b g f r w) 300 k x = rx hi h a (up1 b k x) g f r w := by
  show u2 (uR (uR (uR (uR (uR (u2 (u2 hi 279 61 h) 279 62 a) 300 b) 288 g) 287 f) 301 r) 302 w) 300 k x = _
  rw [u2_co (by decide), u2_co (by decide), u2_co (by decide), u2_co (by decide), u2_in]
theorem rx_301 : u2 (rx hi h a b g f r w) 301 k x = rx hi h a b g f (up1 r k x) w := by
  show u2 (uR (uR (uR (uR (uR (u2 (u2 hi 279 61 h) 279 62 a) 300 b) 288 g) 287 f) 301 r) 302 w) 301 k x = _
  rw [u2_co (by decide), u2_in]
theorem rx_302 : u2 (rx hi h a b g f r w) 302 k x = rx hi h a b g f r (up1 w k x) := u2_in
theorem rx_gf : uR (uR (rx hi h a b g f r w) 288 g') 287 f' = rx hi h a b g' f' r w := by
  show uR (uR (uR (uR (uR (uR (uR (u2 (u2 hi 279 61 h) 279 62 a) 300 b) 288 g) 287 f) 301 r) 302 w) 288 g') 287 f' = _
  funext c j
  simp only [uR_eq]
  by_cases h1 : c = 302
  · subst h1; rfl
  · by_cases h2 : c = 301
    · subst h2; rfl
    · by_cases h3 : c = 287
      · subst h3; rfl
      · by_cases h4 : c = 288
        · subst h4; rfl
        · rw [if_neg h3, if_neg h4, if_neg h1, if_neg h2, if_neg h3, if_neg h4, if_neg h1, if_neg h2, if_neg h3, if_neg h4]
theorem f211 (w' : ∀ b' : Nat → Int32, (∀ p, p < 8 → b' p = hi 299 p) → Q none (mkH (rx hi (hi 299 17) (hi 299 18) b' g f r w) hl sw kp)) : cS (d + 1) 211 [.ref 279] (mkH (rx hi h a b g f r w) hl sw kp) Q := by
  refine e_211 (lpu (σ := Nat → Int32) 8 (fun i b => cW cd_211 d Q 2 [some (.ref 279), some (.int (nI i))] [] (mkH (rx hi h a b g f r w) hl sw kp)) (fun i b => ∀ p, p < i → b p = hi 299 p) ?_ ?_ 8 0 b rfl (fun p hp => absurd hp (Nat.not_lt_zero p)))
  · intro b hb
    refine k_211_2 (fun _ => ?_) (fun c => absurd (by decide) c) (fun c => absurd (by decide) c) (fun c => absurd (by decide) c)
    exact qhi (by rw [rx_61, rx_62]; rfl) (w' b hb)
  · intro i b hi8 hb ih
    have e0 : (0 : Int32) + nI i = nI i := Int32.zero_add _
    refine k_211_2 (fun c => absurd c (nI_ge (a := i) (b := 8) hi8 (by decide))) (fun _ => by rw [e0]; exact vp_in_nI (by omega) (by decide)) (fun _ => vp_in_nI hi8 (by decide)) (fun _ => ?_)
    rw [e0, nI_clamp (by omega), nI_1]
    refine cW.hi rx_300 (ih _ (fun p hp => ?_))
    by_cases hpi : p = i
    · subst hpi
      rw [up1_s]
      rfl
    · rw [up1_n hpi]
      exact hb p (by omega)
/-- bones at the hour s ahead -/
def bs (V : vN) (bb : Nat → Nat) (H s p : Nat) : Nat := if H / vDy V < (H + s) / vDy V then 0 else bb p
theorem bs_0 {bb : Nat → Nat} {H p : Nat} : bs V bb H 0 p = bb p := if_neg (Nat.lt_irrefl _)
theorem bs_s {bb : Nat → Nat} {H s p : Nat} (hd : 0 < vDy V) : bs V bb H (s + 1) p = if (H + s + 1) % vDy V = 0 then 0 else bs V bb H s p := by
  unfold bs
  rw [show H + (s + 1) = H + s + 1 from rfl, dv_s hd]
  have h1 : H / vDy V ≤ (H + s) / vDy V := Nat.div_le_div_right (by omega)
  by_cases c : (H + s + 1) % vDy V = 0
  · rw [if_pos c, if_pos c, if_pos (by omega)]
  · rw [if_neg c, if_neg c]
theorem f212 {n A : Nat} {bn : Nat → Nat} (hd : 0 < vDy V) (hd2 : vDy V ≤ 24) (hn : n ≤ 5000) (e50 : hi 279 50 = nI (vDy V)) (eh : h = nI n) (ea : a = nI (min 99 (A + n / vDy V))) (hb : ∀ p, p < 8 → b p = nI (bn p)) (w' : ∀ b' : Nat → Int32, (∀ p, p < 8 → b' p = nI (if (n + 1) % vDy V = 0 then 0 else bn p)) → Q none (mkH (rx hi (nI (n + 1)) (nI (min 99 (A + (n + 1) / vDy V))) b' g f r w) hl sw kp)) : cS (d + 1) 212 [.ref 279] (mkH (rx hi h a b g f r w) hl sw kp) Q := by
  subst eh ea
  have em : ((rx hi (nI n) (nI (min 99 (A + n / vDy V))) b g f r w) 279 61 + 1) - ((rx hi (nI n) (nI (min 99 (A + n / vDy V))) b g f r w) 279 61 + 1) / ((rx hi (nI n) (nI (min 99 (A + n / vDy V))) b g f r w) 279 50) * ((rx hi (nI n) (nI (min 99 (A + n / vDy V))) b g f r w) 279 50) = nI ((n + 1) % vDy V) := by
    show (nI n + 1) - (nI n + 1) / (hi 279 50) * (hi 279 50) = _
    rw [e50, nI_1, pk_rem (by omega) hd (by omega)]
  have e1 : u2 (rx hi (nI n) (nI (min 99 (A + n / vDy V))) b g f r w) 279 61 ((rx hi (nI n) (nI (min 99 (A + n / vDy V))) b g f r w) 279 61 + 1) = rx hi (nI (n + 1)) (nI (min 99 (A + n / vDy V))) b g f r w := by
    rw [rx_61]
    show rx hi (nI n + 1) _ b g f r w = _
    rw [nI_1]
  have hm : (n + 1) % vDy V < vDy V := Nat.mod_lt _ hd
  refine e_212 (by show ¬ hi 279 50 = 0; rw [e50]; exact nI_ne0 hd (by omega)) ?_ ?_ <;> rw [em, e1] <;> intro c
  · have c0 : (n + 1) % vDy V = 0 := by
      rcases Nat.eq_zero_or_pos ((n + 1) % vDy V) with z | z
      · exact z
      · exact absurd c (nI_nle z (by omega))
    refine lpu (σ := Nat → Int32) 8 (fun i b => cW cd_212 d Q 25 [some (.ref 279), some (.int (nI i))] [] (mkH (rx hi (nI (n + 1)) (nI (min 99 (A + n / vDy V))) b g f r w) hl sw kp)) (fun i b => ∀ p, p < i → b p = nI 0) ?_ ?_ 8 0 b rfl (fun p hp => absurd hp (Nat.not_lt_zero p))
    · intro b hb2
      have e62 : (rx hi (nI (n + 1)) (nI (min 99 (A + n / vDy V))) b g f r w) 279 62 = nI (min 99 (A + n / vDy V)) := rfl
      have ed : (n + 1) / vDy V = n / vDy V + 1 := by rw [dv_s hd, if_pos c0]
      have hb3 : ∀ p, p < 8 → b p = nI (if (n + 1) % vDy V = 0 then 0 else bn p) := fun p hp => by
        rw [hb2 p hp, if_pos c0]
      refine k_212_25 (fun _ c2 => ?_) (fun _ c2 => ?_) (fun c => absurd (by decide) c) (fun c => absurd (by decide) c)
      · rw [e62] at c2
        have : 99 ≤ min 99 (A + n / vDy V) := (nI_leI (a := 99) (by decide) (by omega)).mp c2
        have e3 : min 99 (A + n / vDy V) = min 99 (A + (n + 1) / vDy V) := by rw [ed]; omega
        have := w' b hb3
        rw [← e3] at this
        exact this
      · rw [e62] at c2
        have : ¬ 99 ≤ min 99 (A + n / vDy V) := fun q => c2 (nI_le (a := 99) q (by omega))
        rw [e62, nI_1]
        have e3 : min 99 (A + n / vDy V) + 1 = min 99 (A + (n + 1) / vDy V) := by rw [ed]; omega
        rw [e3]
        exact qhi rx_62 (w' b hb3)
    · intro i b hi8 hb2 ih
      refine k_212_25 (fun c => absurd c (nI_ge (a := i) (b := 8) hi8 (by decide))) (fun c => absurd c (nI_ge (a := i) (b := 8) hi8 (by decide))) (fun _ => vp_in_nI hi8 (by decide)) (fun _ => ?_)
      rw [nI_clamp (by omega), nI_1]
      refine cW.hi rx_300 (ih _ (fun p hp => ?_))
      by_cases hpi : p = i
      · subst hpi
        rw [up1_s]
        rfl
      · rw [up1_n hpi]
        exact hb2 p (by omega)
  · have c0 : ¬ (n + 1) % vDy V = 0 := fun q => c (by rw [q]; decide)
    have ed : (n + 1) / vDy V = n / vDy V := by rw [dv_s hd, if_neg c0]
    have := w' b (fun p hp => by rw [if_neg c0]; exact hb p hp)
    rw [ed] at this
    exact this
theorem g214 {p t : Nat} (hv : R_vil V hi) (hp : p < vP V) (ht : t < vP V) : g_214 (rx hi h a b g f r w) (nI p) (nI t) = bif go hi p t then 1 else 0 := by
  have hb := hv.1
  obtain ⟨l, l1, l2, l3⟩ := (hv.2.2.2.1 p hp).2.2
  have ep : (nI p).toNatClampNeg = p := nI_clamp (by omega)
  have e296 : (rx hi h a b g f r w) 296 p = nI l := l3
  unfold g_214
  rw [ep, e296, bit8 (by omega) (by omega)]
  unfold go
  rw [l2, nI_clamp (by omega)]
  have h2 : l / 2 ^ t % 2 < 2 := Nat.mod_lt _ (by decide)
  by_cases c : p = t
  · subst c
    rw [if_pos rfl, Nat.beq_refl]
    rfl
  · rw [if_neg (fun q => c ((nI_eq (by omega) (by omega)).mp q)), am_beq c]
    by_cases c2 : l / 2 ^ t % 2 = 1
    · rw [c2]
      rfl
    · have c3 : l / 2 ^ t % 2 = 0 := by omega
      rw [c3]
      rfl
/-- pulls from p, bones bn, hours n -/
def qq (V : vN) (hi : Nat → Nat → Int32) (bn : Nat → Nat) (n p t : Nat) : Nat := bif go hi p t then PU V hi t (bn t) n (bif Nat.beq p t then 1 else 0) else 0
theorem qq_le {bn : Nat → Nat} {n p t : Nat} : qq V hi bn n p t ≤ 99 := by
  unfold qq
  cases go hi p t
  · exact Nat.zero_le _
  · exact PU_le
theorem f215 {p n : Nat} {bn : Nat → Nat} (hv : R_vil V hi) (hpu : R_pul hi) (hp : p < vP V) (hn : n ≤ 5000) (hb : ∀ t, t < vP V → b t = nI (bn t)) (w' : ∀ g' f' r' : Nat → Int32, (∀ t, t < vP V → r' t = nI (qq V hi bn n p t)) → Q (some (.int (nI (Ts (qq V hi bn n p) (vP V))))) (mkH (rx hi (nI n) (nI (min 99 (vAg V + n / vDy V))) b g' f' r' w) hl sw kp)) : cS (d + 5) 215 [.ref 279, .int (nI p)] (mkH (rx hi (nI n) (nI (min 99 (vAg V + n / vDy V))) b g f r w) hl sw kp) Q := by
  have hb8 := hv.1
  have hT : ∀ i, Ts (qq V hi bn n p) i ≤ 99 * i := Ts_b (fun t => qq_le)
  refine e_215 (lpu (σ := (Nat → Int32) × (Nat → Int32) × (Nat → Int32)) (vP V) (fun i s => cW cd_215 (d + 4) Q 4 [some (.ref 279), some (.int (nI p)), some (.int (nI (Ts (qq V hi bn n p) i))), some (.int (nI i))] [] (mkH (rx hi (nI n) (nI (min 99 (vAg V + n / vDy V))) b s.1 s.2.1 s.2.2 w) hl sw kp)) (fun i s => ∀ t, t < i → s.2.2 t = nI (qq V hi bn n p t)) ?_ ?_ (vP V) 0 (g, f, r) (Nat.zero_add _) (fun t ht => absurd ht (Nat.not_lt_zero t)))
  · intro s hs
    have c0 : (rx hi (nI n) (nI (min 99 (vAg V + n / vDy V))) b s.1 s.2.1 s.2.2 w) 279 46 ≤ nI (vP V) := by
      show hi 279 46 ≤ _
      rw [hv.2.2.1.2.1]
      exact Int32.le_refl _
    exact k_215_4 (fun _ => w' s.1 s.2.1 s.2.2 hs) (fun c => absurd c0 c) (fun c => absurd c0 c) (fun c => absurd c0 c) (fun c => absurd c0 c) (fun c => absurd c0 c)
  · intro i s hiP hs ih
    have c0 : ¬ (rx hi (nI n) (nI (min 99 (vAg V + n / vDy V))) b s.1 s.2.1 s.2.2 w) 279 46 ≤ nI i := by
      show ¬ hi 279 46 ≤ _
      rw [hv.2.2.1.2.1]
      exact nI_ge hiP (by omega)
    have eg := g214 (h := nI n) (a := nI (min 99 (vAg V + n / vDy V))) (b := b) (g := s.1) (f := s.2.1) (r := s.2.2) (w := w) hv hp hiP
    have ei : (nI i).toNatClampNeg = i := nI_clamp (by omega)
    -- the value is laid, and on
    have fin : ∀ (g2 f2 : Nat → Int32), cW cd_215 (d + 4) Q 4 [some (.ref 279), some (.int (nI p)), some (.int (nI (Ts (qq V hi bn n p) i) + nI (qq V hi bn n p i))), some (.int (nI i + 1))] [] (mkH (rx hi (nI n) (nI (min 99 (vAg V + n / vDy V))) b g2 f2 (up1 s.2.2 i (nI (qq V hi bn n p i))) w) hl sw kp) := by
      intro g2 f2
      rw [nI_add, nI_1]
      refine ih (g2, f2, up1 s.2.2 i (nI (qq V hi bn n p i))) (fun t ht => ?_)
      show up1 s.2.2 i (nI (qq V hi bn n p i)) t = _
      by_cases hti : t = i
      · subst hti
        rw [up1_s]
      · rw [up1_n hti]
        exact hs t (by omega)
    have call : ∀ e : Nat, e = 0 ∨ e = 1 → go hi p i = true → e = (bif Nat.beq p i then 1 else 0) → cS (d + 4) 213 [.ref 279, .int (nI i), .int (nI e)] (mkH (rx hi (nI n) (nI (min 99 (vAg V + n / vDy V))) b s.1 s.2.1 s.2.2 w) hl sw kp) (am_ret (cW cd_215 (d + 4) Q) 41 [some (.ref 279), some (.int (nI p)), some (.int (nI (Ts (qq V hi bn n p) i))), some (.int (nI i))] [.int (nI i), .ref 301]) := by
      intro e he hgo hee
      refine f213 (d := d) (V := V) (b := bn i) hv hpu hiP hn rfl rfl (hb i hiP) he (fun f2 g2 => ?_)
      have eq : PU V (rx hi (nI n) (nI (min 99 (vAg V + n / vDy V))) b s.1 s.2.1 s.2.2 w) i (bn i) n e = qq V hi bn n p i := by
        unfold qq
        rw [hgo, ← hee]
        rfl
      rw [eq]
      refine cW.hi rx_gf (k_215_41 (vp_in_nI (by omega) (by decide)) (vp_in_nI (by omega) (by decide)) ?_)
      rw [ei, u2_s]
      exact cW.hi rx_301 (fin g2 f2)
    refine k_215_4 (fun c => absurd c c0) (fun _ _ => vp_in_nI (by omega) (by decide)) (fun _ _ => vp_in_nI (by omega) (by decide)) (fun _ c => ?_) (fun _ c c2 => ?_) (fun _ c c2 => ?_)
    · have hgo : go hi p i = false := by
        cases hg : go hi p i with
        | false => rfl
        | true => rw [eg, hg] at c; exact absurd c (by decide)
      have e0 : qq V hi bn n p i = 0 := by
        unfold qq
        rw [hgo]
        rfl
      have := fin s.1 s.2.1
      rw [e0] at this
      rw [ei, u2_s]
      exact cW.hi rx_301 this
    · have hgo : go hi p i = true := by
        cases hg : go hi p i with
        | true => rfl
        | false => rw [eg, hg] at c; exact absurd rfl c
      have hpi : i = p := (nI_eq (by omega) (by omega)).mp c2
      exact call 1 (Or.inr rfl) hgo (by rw [hpi, Nat.beq_refl]; rfl)
    · have hgo : go hi p i = true := by
        cases hg : go hi p i with
        | true => rfl
        | false => rw [eg, hg] at c; exact absurd rfl c
      have hpi : ¬ p = i := fun q => c2 (by rw [q])
      exact call 0 (Or.inl rfl) hgo (by rw [am_beq hpi]; rfl)
theorem f216 {q : Nat → Nat} {P p dr : Nat} (hP : P ≤ 8) (e46 : hi 279 46 = nI P) (hp : p < P) (hdr : dr < 60) (hq : ∀ t, q t ≤ 99) (hr : ∀ t, t < P → hi 301 t = nI (q t)) (w' : ∀ t, t < P → GG q P p dr t → Q (some (.int (nI t))) (mkH hi hl sw kp)) : cS (d + 1) 216 [.ref 279, .int (nI p), .int (nI dr), .int (nI (Ts q P))] (mkH hi hl sw kp) Q := by
  have hT := Ts_b hq
  have hTP := hT P
  have hm : dr * Ts q P ≤ 60 * 792 := Nat.mul_le_mul (by omega) (by omega)
  refine e_216 (fun c => ?_) (fun c => ?_)
  · have c0 : Ts q P = 0 := (nI_eq (b := 0) (by omega) (by decide)).mp c
    exact w' p hp (by unfold GG; rw [if_pos c0])
  · have c0 : ¬ Ts q P = 0 := fun z => c (by rw [z]; rfl)
    rw [pk_mul, show (60 : Int32) = nI 60 from rfl, pk_div (by omega) (by decide) (by decide)]
    refine lpu (σ := Unit) P (fun i _ => cW cd_216 d Q 20 [some (.ref 279), some (.int (nI p)), some (.int (nI dr)), some (.int (nI (Ts q P))), some (.int (nI (dr * Ts q P / 60))), some (.int (nI (Ts q i))), some (.int (nI i))] [] (mkH hi hl sw kp)) (fun i _ => cdv (60 * Ts q i) (Ts q P) ≤ dr) ?_ ?_ P 0 () (Nat.zero_add P) (by show cdv (60 * 0) (Ts q P) ≤ dr; rw [Nat.mul_zero, cdv_0 (by omega)]; exact Nat.zero_le _)
    · intro _ hI
      rw [cdv_60 (by omega)] at hI
      omega
    · intro i _ hiP hI ih
      have hTi := hT i
      have hqi := hq i
      have ei : (nI i).toNatClampNeg = i := nI_clamp (by omega)
      have es : nI (Ts q i) + hi 301 (nI i).toNatClampNeg = nI (Ts q (i + 1)) := by
        rw [ei, hr i hiP, nI_add]
        rfl
      have hTs := hT (i + 1)
      have hdv : dr * Ts q P / 60 ≤ dr * Ts q P := Nat.div_le_self _ _
      refine k_216_20 (fun c => absurd c (by rw [e46]; exact nI_ge hiP (by omega))) (fun _ => vp_in_nI (by omega) (by decide)) ?_ ?_ <;> rw [es] <;> intro _ c
      · rw [nI_1]
        refine ih () ?_
        have c1 := (nI_leI (by omega) (by omega)).mp c
        rw [Nat.le_div_iff_mul_le (by decide)] at c1
        rcases Nat.lt_or_ge dr (cdv (60 * Ts q (i + 1)) (Ts q P)) with z | z
        · rw [cdv_lt (by omega)] at z
          omega
        · exact z
      · refine w' i hiP ?_
        unfold GG
        rw [if_neg c0]
        refine ⟨hI, ?_⟩
        have c1 : ¬ Ts q (i + 1) ≤ dr * Ts q P / 60 := fun z => c (nI_le z (by omega))
        rw [Nat.le_div_iff_mul_le (by decide)] at c1
        rw [cdv_lt (by omega)]
        omega
theorem f217 {n : Nat} {bn : Nat → Nat} (hv : R_vil V hi) (hpu : R_pul hi) (hn : n ≤ 5000) (hb : ∀ t, t < vP V → b t = nI (bn t)) (w' : ∀ g' f' r' v : Nat → Int32, (∀ p t, p < vP V → t < 8 → v (8 * p + t) = nI (if t < vP V then wy (qq V hi bn n p) (vP V) p t else 0)) → Q none (mkH (rx hi (nI n) (nI (min 99 (vAg V + n / vDy V))) b g' f' r' v) hl sw kp)) : cS (d + 6) 217 [.ref 279] (mkH (rx hi (nI n) (nI (min 99 (vAg V + n / vDy V))) b g f r w) hl sw kp) Q := by
  have hb8 := hv.1
  refine e_217 (lpu (σ := Nat → Int32) 64 (fun i v => cW cd_217 (d + 5) Q 2 [some (.ref 279), some (.int (nI i)), none, none] [] (mkH (rx hi (nI n) (nI (min 99 (vAg V + n / vDy V))) b g f r v) hl sw kp)) (fun i v => ∀ j, j < i → v j = nI 0) ?_ ?_ 64 0 w rfl (fun j hj => absurd hj (Nat.not_lt_zero j)))
  · intro v0 hv0
    refine k_217_2 (fun _ => ?_) (fun c => absurd (by decide) c) (fun c => absurd (by decide) c)
    refine lpu (σ := (Nat → Int32) × (Nat → Int32) × (Nat → Int32) × (Nat → Int32)) (vP V) (fun i s => ∀ o2 o3 : Option Value, cW cd_217 (d + 5) Q 23 [some (.ref 279), some (.int (nI i)), o2, o3] [] (mkH (rx hi (nI n) (nI (min 99 (vAg V + n / vDy V))) b s.1 s.2.1 s.2.2.1 s.2.2.2) hl sw kp)) (fun i s => ∀ p t, p < 8 → t < 8 → s.2.2.2 (8 * p + t) = nI (if p < i ∧ t < vP V then wy (qq V hi bn n p) (vP V) p t else 0)) ?_ ?_ (vP V) 0 (g, f, r, v0) (Nat.zero_add _) (fun p t hp ht => by rw [if_neg (by omega)]; exact hv0 _ (by omega)) none none
    · intro s hs o2 o3
      have c0 : (rx hi (nI n) (nI (min 99 (vAg V + n / vDy V))) b s.1 s.2.1 s.2.2.1 s.2.2.2) 279 46 ≤ nI (vP V) := by
        show hi 279 46 ≤ _
        rw [hv.2.2.1.2.1]
        exact Int32.le_refl _
      refine k_217_23 (fun _ => w' s.1 s.2.1 s.2.2.1 s.2.2.2 (fun p t hp ht => ?_)) (fun c => absurd c0 c)
      rw [hs p t (by omega) ht]
      by_cases c : t < vP V
      · rw [if_pos ⟨hp, c⟩, if_pos c]
      · rw [if_neg (fun z => c z.2), if_neg c]
    · intro i s hiP hs ih o2 o3
      have c0 : ¬ (rx hi (nI n) (nI (min 99 (vAg V + n / vDy V))) b s.1 s.2.1 s.2.2.1 s.2.2.2) 279 46 ≤ nI i := by
        show ¬ hi 279 46 ≤ _
        rw [hv.2.2.1.2.1]
        exact nI_ge hiP (by omega)
      refine k_217_23 (fun c => absurd c c0) (fun _ => f215 (d := d) hv hpu hiP hn hb (fun g2 f2 r2 hr2 => k_217_36 ?_))
      refine lpu (σ := Nat → Int32) 60 (fun dr v => cW cd_217 (d + 5) Q 39 [some (.ref 279), some (.int (nI i)), some (.int (nI (Ts (qq V hi bn n i) (vP V)))), some (.int (nI dr))] [] (mkH (rx hi (nI n) (nI (min 99 (vAg V + n / vDy V))) b g2 f2 r2 v) hl sw kp)) (fun dr v => ∀ p t, p < 8 → t < 8 → v (8 * p + t) = if p = i ∧ t < vP V then nI (gc (qq V hi bn n i) (vP V) i dr t) else s.2.2.2 (8 * p + t)) ?_ ?_ 60 0 s.2.2.2 rfl (fun p t hp ht => ?_)
      · intro v hvv
        refine k_217_39 (fun _ => ?_) (fun c => absurd (by decide) c)
        rw [nI_1]
        refine ih (g2, f2, r2, v) (fun p t hp ht => ?_) _ _
        show v (8 * p + t) = _
        rw [hvv p t hp ht]
        by_cases c : p = i ∧ t < vP V
        · rw [if_pos c, if_pos ⟨by omega, c.2⟩, gc_60 c.2, c.1]
        · rw [if_neg c, hs p t hp ht]
          by_cases c2 : p < i ∧ t < vP V
          · rw [if_pos c2, if_pos ⟨by omega, c2.2⟩]
          · rw [if_neg c2, if_neg]
            intro z
            by_cases hpi : p = i
            · exact c ⟨hpi, z.2⟩
            · exact c2 ⟨by omega, z.2⟩
      · intro dr v hdr hvv ih2
        refine k_217_39 (fun c => absurd c (nI_ge (a := dr) (b := 60) hdr (by decide))) (fun _ => ?_)
        refine f216 (d := d + 4) (P := vP V) (q := qq V hi bn n i) hb8.2.1 hv.2.2.1.2.1 hiP hdr (fun t => qq_le) hr2 (fun t ht hG => ?_)
        have e8 : (8 : Int32) * nI i + nI t = nI (8 * i + t) := by
          rw [show (8 : Int32) = nI 8 from rfl, pk_mul, nI_add]
        refine k_217_60 (by rw [e8]; exact vp_in_nI (by omega) (by decide)) ?_
        rw [e8, nI_clamp (by omega), nI_1]
        refine cW.hi rx_302 (ih2 _ (fun p t' hp ht' => ?_))
        have ev : (rx hi (nI n) (nI (min 99 (vAg V + n / vDy V))) b g2 f2 r2 v) 302 (8 * i + t) = v (8 * i + t) := by
          show uR _ 302 v 302 (8 * i + t) = _
          rw [uR_s]
        rw [ev]
        by_cases c : 8 * p + t' = 8 * i + t
        · have c1 : p = i := by omega
          have c2 : t' = t := by omega
          subst c1 c2
          rw [up1_s, hvv p t' hp ht', if_pos ⟨rfl, ht⟩, if_pos ⟨rfl, ht⟩, nI_1, gc_s hG, if_pos rfl]
        · rw [up1_n c, hvv p t' hp ht']
          by_cases c1 : p = i ∧ t' < vP V
          · rw [if_pos c1, if_pos c1, gc_s hG, if_neg (fun z => c (by rw [c1.1, z]))]
          · rw [if_neg c1, if_neg c1]
      · by_cases c : p = i ∧ t < vP V
        · rw [if_pos c, gc_0, hs p t hp ht, if_neg (by omega)]
        · rw [if_neg c]
  · intro i v hi64 hvv ih
    refine k_217_2 (fun c => absurd c (nI_ge (a := i) (b := 64) hi64 (by decide))) (fun _ => vp_in_nI hi64 (by decide)) (fun _ => ?_)
    rw [nI_clamp (by omega), nI_1]
    refine cW.hi rx_302 (ih _ (fun j hj => ?_))
    by_cases hji : j = i
    · subst hji
      rw [up1_s]
      rfl
    · rw [up1_n hji]
      exact hvv j (by omega)
end WAYR
