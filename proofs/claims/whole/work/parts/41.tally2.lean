/-! ===== the reference's tally; meant, sure, ask ===== -/
section TALLY2
variable {d : Nat} {Q : am_Q} {hi : Nat → Nat → Int32} {hl : Nat → Nat → Int64} {sw : Bool} {kp : Nat → Nat} {x k : Int32} {n D : Nat}
theorem f268 (hn : n ≤ 30) (hD : D ≤ 4) (e86 : hi 279 86 = nI n) (hcn : ∀ j, j < n → R_cnt hi j) (hdd : (hi 19 0).toNatClampNeg = D) (w1 : tS hi n x k (hi 321) → Q (some (.int 1)) (mkH hi hl sw kp)) (w0 : ¬ tS hi n x k (hi 321) → Q (some (.int 0)) (mkH hi hl sw kp)) : cS (d + 1) 268 [.ref 279, .int x, .int k] (mkH hi hl sw kp) Q := by
  refine e_268 (lpu (σ := Unit) n (fun i _ => ∀ o5 : Option Value, cW cd_268 d Q 5 [some (.ref 279), some (.int x), some (.int k), some (.int 1), some (.int (nI i)), o5] [] (mkH hi hl sw kp)) (fun i _ => tS hi i x k (hi 321)) ?_ ?_ n 0 () (Nat.zero_add n) (fun j hj => absurd hj (Nat.not_lt_zero j)) none)
  · intro _ h o5
    refine k_268_5 (fun _ => Or.inr rfl) (fun _ => w1 h) ?_ ?_ ?_ ?_ ?_ ?_ ?_ ?_ ?_ ?_ ?_ ?_ ?_ ?_ <;> exact fun c => absurd (by rw [e86]; exact Int32.le_refl _) c
  · intro i _ hin h ih o5
    obtain ⟨u1, u2', u3, u4, u5, u6, u7, u8, ⟨q, q1, q2⟩, ⟨r, r1, r2⟩, u11⟩ := hcn i hin
    rw [hdd] at q1 r1
    have ei : (nI i).toNatClampNeg = i := nI_clamp (by omega)
    have zc : ¬ hi 279 86 ≤ nI i := by rw [e86]; exact nI_ge hin (by omega)
    have vq : vp_in (hi 313 (nI i).toNatClampNeg) 4 := by rw [ei, ← u2', q2]; exact vp_in_nI (by omega) (by decide)
    have vr : vp_in (hi 315 (nI i).toNatClampNeg) 4 := by rw [ei, ← u4, r2]; exact vp_in_nI (by omega) (by decide)
    have kn1 : hi 312 i = x → ¬ k < hi 318 i → hi 319 i < 0 → tKn hi x k i := by
      intro a b c
      refine ⟨u1.trans a, by rw [u7]; exact b, ?_⟩
      rcases u11 with z | ⟨u, z1, z2⟩
      · exact Or.inl z
      · rw [← u8, z2] at c
        exact absurd c (nI_pos (by omega))
    have kn2 : hi 312 i = x → ¬ k < hi 318 i → ¬ hi 319 i ≤ k → tKn hi x k i := by
      intro a b c
      exact ⟨u1.trans a, by rw [u7]; exact b, Or.inr (by rw [u8]; exact Int32.not_le.mp c)⟩
    have no : ¬ tKn hi x k i → ∀ o : Option Value, cW cd_268 d Q 5 [some (.ref 279), some (.int x), some (.int k), some (.int 1), some (.int (nI i + 1)), o] [] (mkH hi hl sw kp) := by
      intro z o
      rw [nI_1]
      refine ih () (fun j hj hk => ?_) o
      by_cases hji : j = i
      · subst hji
        exact absurd hk z
      · exact h j (by omega) hk
    have ok : tOK hi (hi 321) i → ∀ o : Option Value, cW cd_268 d Q 5 [some (.ref 279), some (.int x), some (.int k), some (.int 1), some (.int (nI i + 1)), o] [] (mkH hi hl sw kp) := by
      intro z o
      rw [nI_1]
      refine ih () (fun j hj hk => ?_) o
      by_cases hji : j = i
      · subst hji
        exact z
      · exact h j (by omega) hk
    have bad : tKn hi x k i → ¬ tOK hi (hi 321) i → ∀ o : Option Value, cW cd_268 d Q 5 [some (.ref 279), some (.int x), some (.int k), some (.int 0), some (.int (nI i + 1)), o] [] (mkH hi hl sw kp) := by
      intro z1 z2 o
      have z3 : Q (some (.int 0)) (mkH hi hl sw kp) := w0 (fun q => z2 (q i hin z1))
      refine k_268_5 (fun _ => Or.inl rfl) (fun _ => z3) (fun _ _ => Or.inl rfl) (fun _ _ => z3) ?_ ?_ ?_ ?_ ?_ ?_ ?_ ?_ ?_ ?_ ?_ ?_ <;> exact fun _ c => absurd rfl c
    have eok : tOK hi (hi 321) i ↔ hi 314 i * hi 321 (hi 313 i).toNatClampNeg + hi 316 i * hi 321 (hi 315 i).toNatClampNeg = hi 317 i := by
      unfold tOK
      rw [u2', u3, u4, u5, u6]
    refine k_268_5 (fun c => absurd c zc) (fun c => absurd c zc) (fun _ c => absurd c (by decide)) (fun _ c => absurd c (by decide)) (fun _ _ => vp_in_nI (by omega) (by decide)) ?_ (fun _ _ _ _ _ => vq) (fun _ _ _ _ _ => vr) ?_ ?_ ?_ (fun _ _ _ _ _ _ => vq) (fun _ _ _ _ _ _ => vr) ?_ ?_ ?_ <;> rw [ei]
    · exact fun _ _ _ c => no (fun q => q.2.1 (by rw [u7]; exact c)) _
    · exact fun _ _ _ _ _ c => ok (eok.mpr c) _
    · exact fun _ _ c1 c2 c3 c => bad (kn1 c1 c2 c3) (fun q => c (eok.mp q)) _
    · refine fun _ _ _ _ c1 c2 => no (fun q => ?_) _
      rcases q.2.2 with z | z
      · rw [u8] at z
        exact c1 (by rw [z]; decide)
      · rw [u8] at z
        exact Int32.not_le.mpr z c2
    · exact fun _ _ _ _ _ _ c => ok (eok.mpr c) _
    · exact fun _ _ c1 c2 _ c3 c => bad (kn2 c1 c2 c3) (fun q => c (eok.mp q)) _
    · exact fun _ _ c => no (fun q => c (u1.symm.trans q.1)) _
theorem dv7 (v e : Nat) : v / 7 ^ e / 7 = v / 7 ^ (e + 1) := by rw [Nat.div_div_eq_div_mul, Nat.pow_succ]
theorem f269 (hn : n ≤ 30) (hD : D ≤ 4) (e86 : hi 279 86 = nI n) (e45 : hi 279 45 = nI D) (hcn : ∀ j, j < n → R_cnt hi j) (hdd : (hi 19 0).toNatClampNeg = D) (w : ∀ (L vs : Nat → Int32), (∀ e f, e < D → f < 7 → L (7 * e + f) = nI (tL hi n x k (7 ^ D) e f)) → Q (some (.int (nI (tC (tB hi n x k) (7 ^ D))))) (mkH (uR (uR hi 320 L) 321 vs) hl sw kp)) : cS (d + 2) 269 [.ref 279, .int x, .int k] (mkH hi hl sw kp) Q := by
  have h7 := p7 hD
  have hc : ∀ j, j < n → (∃ q : Nat, q < D ∧ hi 268 j = nI q) ∧ ∃ q : Nat, q < D ∧ hi 270 j = nI q := by
    intro j hj
    obtain ⟨-, -, -, -, -, -, -, -, u9, u10, -⟩ := hcn j hj
    rw [hdd] at u9 u10
    exact ⟨u9, u10⟩
  refine e_269 (cW.hi uR_id.symm (lpu (σ := Nat → Int32) 28 (fun i L => cW cd_269 (d + 1) Q 2 [some (.ref 279), some (.int x), some (.int k), some (.int (nI i)), none, none, none, none] [] (mkH (uR hi 320 L) hl sw kp)) (fun i L => ∀ j, j < i → L j = 0) ?_ ?_ 28 0 (hi 320) rfl (fun j hj => absurd hj (Nat.not_lt_zero j))))
  · intro L0 hL0
    refine k_269_2 (fun _ => ?_) (fun c => absurd (by decide) c) (fun c => absurd (by decide) c)
    refine lpu (σ := Unit) D (fun i _ => cW cd_269 (d + 1) Q 26 [some (.ref 279), some (.int x), some (.int k), some (.int (nI (7 ^ i))), some (.int (nI i)), none, none, none] [] (mkH (uR hi 320 L0) hl sw kp)) (fun _ _ => True) ?_ ?_ D 0 () (Nat.zero_add D) trivial
    · intro _ _
      refine k_269_26 (fun _ => ?_) (fun c => absurd (by show hi 279 45 ≤ nI D; rw [e45]; exact Int32.le_refl _) c)
      refine cW.hi (hi := uR (uR hi 320 L0) 321 (hi 321)) ?_ (lpu (σ := (Nat → Int32) × (Nat → Int32)) (7 ^ D) (fun v s => ∀ o6 o7 : Option Value, cW cd_269 (d + 1) Q 52 [some (.ref 279), some (.int x), some (.int k), some (.int (nI (7 ^ D))), some (.int (nI (tC (tB hi n x k) v))), some (.int (nI v)), o6, o7] [] (mkH (uR (uR hi 320 s.1) 321 s.2) hl sw kp)) (fun v s => ∀ e f, e < D → f < 7 → s.1 (7 * e + f) = nI (tL hi n x k v e f)) ?_ ?_ (7 ^ D) 0 (L0, hi 321) (Nat.zero_add _) (fun e f he hf => hL0 _ (by omega)) none none)
      · have : hi 321 = (uR hi 320 L0) 321 := by rw [uR_ne (by decide)]
        rw [this, uR_id]
      · intro s h1 o6 o7
        exact k_269_52 (fun _ => w s.1 s.2 h1) (fun c => absurd (Int32.le_refl _) c)
      · intro v s hv h1 ih o6 o7
        have hcl := tC_le (tB hi n x k) v
        refine k_269_52 (fun c => absurd c (nI_ge hv (by omega))) (fun _ => ?_)
        refine lpu (σ := Nat → Int32) D (fun e M => cW cd_269 (d + 1) Q 65 [some (.ref 279), some (.int x), some (.int k), some (.int (nI (7 ^ D))), some (.int (nI (tC (tB hi n x k) v))), some (.int (nI v)), some (.int (nI (v / 7 ^ e))), some (.int (nI e))] [] (mkH (uR (uR hi 320 s.1) 321 M) hl sw kp)) (fun e M => ∀ q, q < e → M q = tvl v q) ?_ ?_ D 0 s.2 (Nat.zero_add D) (fun q hq => absurd hq (Nat.not_lt_zero q)) |> (fun z => by
          have e0 : v / 7 ^ 0 = v := by rw [Nat.pow_zero, Nat.div_one]
          rw [e0] at z
          exact z)
        · intro M hM
          have e321 : (uR (uR hi 320 s.1) 321 M) 321 = M := uR_s
          refine k_269_65 (fun _ => ?_) (fun c => absurd (by show hi 279 45 ≤ nI D; rw [e45]; exact Int32.le_refl _) c) (fun c => absurd (by show hi 279 45 ≤ nI D; rw [e45]; exact Int32.le_refl _) c)
          refine f268 (d := d) (n := n) (x := x) (k := k) hn hD e86 hcn hdd (fun hs => ?_) (fun hs => ?_)
          · have hb : tB hi n x k v = true := by
              refine tB_t (tS_eq (a := M) hc hD hM ?_)
              rw [e321] at hs
              exact hs
            refine k_269_107 (fun c => absurd c (by decide)) (fun _ => ?_)
            rw [nI_1]
            refine lpu (σ := Nat → Int32) D (fun e L => cW cd_269 (d + 1) Q 119 [some (.ref 279), some (.int x), some (.int k), some (.int (nI (7 ^ D))), some (.int (nI (tC (tB hi n x k) v + 1))), some (.int (nI v)), some (.int (nI (v / 7 ^ D))), some (.int (nI e))] [] (mkH (uR (uR hi 320 L) 321 M) hl sw kp)) (fun i L => ∀ e f, e < D → f < 7 → L (7 * e + f) = if e < i ∧ v / 7 ^ e % 7 = f then nI (tL hi n x k v e f) + 1 else nI (tL hi n x k v e f)) ?_ ?_ D 0 s.1 (Nat.zero_add D) (fun e f he hf => by rw [if_neg (by omega)]; exact h1 e f he hf)
            · intro L hL
              refine k_269_119 (fun _ => ?_) (fun c => absurd (by show hi 279 45 ≤ nI D; rw [e45]; exact Int32.le_refl _) c) (fun c => absurd (by show hi 279 45 ≤ nI D; rw [e45]; exact Int32.le_refl _) c) (fun c => absurd (by show hi 279 45 ≤ nI D; rw [e45]; exact Int32.le_refl _) c)
              rw [nI_1]
              have e1 : tC (tB hi n x k) v + 1 = tC (tB hi n x k) (v + 1) := by
                show _ = tC (tB hi n x k) v + (bif tB hi n x k v then 1 else 0)
                rw [hb]
                rfl
              rw [e1]
              refine ih (L, M) (fun e f he hf => ?_) _ _
              show L (7 * e + f) = _
              rw [hL e f he hf, tL_s, hb]
              by_cases q : v / 7 ^ e % 7 = f
              · rw [if_pos ⟨he, q⟩, nI_1, q, Nat.beq_refl]
                rfl
              · rw [if_neg (fun z => q z.2), am_beq q]
                rfl
            · intro i L hiD h ih2
              have h7i : v / 7 ^ i % 7 < 7 := Nat.mod_lt _ (by decide)
              have ei : (nI i).toNatClampNeg = i := nI_clamp (by omega)
              have ex : (7 : Int32) * nI i + (uR (uR hi 320 L) 321 M) 321 (nI i).toNatClampNeg + 3 = nI (7 * i + v / 7 ^ i % 7) := by
                rw [uR_s, ei, hM i hiD]
                unfold tvl
                rw [show (7 : Int32) = nI 7 from rfl, pk_mul, ix7]
              refine k_269_119 (fun c => absurd c (by show ¬ hi 279 45 ≤ nI i; rw [e45]; exact nI_ge hiD (by omega))) (fun _ => vp_in_nI (by omega) (by decide)) (fun _ => by rw [ex]; exact vp_in_nI (by omega) (by decide)) (fun _ => ?_)
              rw [ex, nI_clamp (by omega), nI_1]
              refine cW.hi (hi := uR (uR hi 320 (up1 L (7 * i + v / 7 ^ i % 7) (L (7 * i + v / 7 ^ i % 7) + 1))) 321 M) ?_ (ih2 _ (fun e f he hf => ?_))
              · rw [u2_co (by decide), u2_in, uR_ne (by decide), uR_s]
              · by_cases hq : 7 * e + f = 7 * i + v / 7 ^ i % 7
                · have g1 : e = i := by omega
                  subst g1
                  have g2 : v / 7 ^ e % 7 = f := by omega
                  rw [hq, up1_s, if_pos ⟨by omega, g2⟩, ← hq, h e f he hf, if_neg (by omega)]
                · rw [up1_n hq, h e f he hf]
                  by_cases g1 : e < i ∧ v / 7 ^ e % 7 = f
                  · rw [if_pos g1, if_pos ⟨by omega, g1.2⟩]
                  · rw [if_neg g1, if_neg]
                    intro z
                    apply g1
                    refine ⟨?_, z.2⟩
                    have : e ≠ i := fun q => by subst q; omega
                    omega
          · have hb : tB hi n x k v = false := by
              refine tB_f (fun q => hs ?_)
              rw [e321]
              exact tS_eq (a := tvl v) hc hD (fun i hi' => (hM i hi').symm) q
            refine k_269_107 (fun _ => ?_) (fun c => absurd rfl c)
            rw [nI_1]
            have e1 : tC (tB hi n x k) v = tC (tB hi n x k) (v + 1) := by
              show _ = tC (tB hi n x k) v + (bif tB hi n x k v then 1 else 0)
              rw [hb]
              rfl
            rw [e1]
            refine ih (s.1, M) (fun e f he hf => ?_) _ _
            show s.1 (7 * e + f) = _
            rw [h1 e f he hf, tL_s, hb]
            rfl
        · intro e M heD hM ih2
          have hvb : v / 7 ^ e ≤ v := Nat.div_le_self _ _
          refine k_269_65 (fun c => absurd c (by show ¬ hi 279 45 ≤ nI e; rw [e45]; exact nI_ge heD (by omega))) (fun _ => vp_in_nI (by omega) (by decide)) (fun _ => ?_)
          rw [show (7 : Int32) = nI 7 from rfl, pk_rem (by omega) (by decide) (by decide), pk_div (by omega) (by decide) (by decide), dv7, nI_clamp (by omega), nI_1]
          refine cW.hi u2_in (ih2 _ (fun q hq => ?_))
          by_cases hqe : q = e
          · subst hqe
            rw [up1_s]
            rfl
          · rw [up1_n hqe]
            exact hM q (by omega)
    · intro i _ hiD _ ih
      refine k_269_26 (fun c => absurd c (by show ¬ hi 279 45 ≤ nI i; rw [e45]; exact nI_ge hiD (by omega))) (fun _ => ?_)
      rw [nI_1, show (7 : Int32) = nI 7 from rfl, pk_mul, ← Nat.pow_succ]
      exact ih () trivial
  · intro i L hi' h ih
    refine k_269_2 (fun c => absurd c (nI_ge (a := i) (b := 28) hi' (by decide))) (fun _ => vp_in_nI hi' (by decide)) (fun _ => ?_)
    rw [nI_clamp (by omega), nI_1]
    refine cW.hi u2_in (ih _ (fun j hj => ?_))
    by_cases hji : j = i
    · subst hji; rw [up1_s]
    · rw [up1_n hji]; exact h j (by omega)
/-- what a tally changes does not matter to the relation -/
theorem tly_fr {hi : Nat → Nat → Int32} {m : Int32} {g vs L L' vs' : Nat → Int32} : ∀ c j, NS c j ∨ ND c j → (uR (uR (uR (uR (uR (u2 hi 266 11 m) 275 g) 277 L) 276 vs) 320 L') 321 vs') c j = hi c j := by
  intro c j h
  have hc : c ≠ 321 ∧ c ≠ 320 ∧ c ≠ 276 ∧ c ≠ 277 ∧ c ≠ 275 ∧ ¬ (c = 266 ∧ j = 11) := by
    unfold NS ND at h
    omega
  rw [uR_ne hc.1, uR_ne hc.2.1, uR_ne hc.2.2.1, uR_ne hc.2.2.2.1, uR_ne hc.2.2.2.2.1, u2_nn hc.2.2.2.2.2]
theorem led_dd {V : vN} (hv : R_vil V hi) : (hi 19 0).toNatClampNeg = vD V := by
  rw [hv.2.1.1, nI_clamp (by have := hv.1.1; omega)]
theorem led_c {V : vN} (hv : R_vil V hi) (h : ∀ j, j < n → R_cnt hi j) : ∀ j, j < n → (∃ q : Nat, q < vD V ∧ hi 268 j = nI q) ∧ ∃ q : Nat, q < vD V ∧ hi 270 j = nI q := by
  intro j hj
  obtain ⟨-, -, -, -, -, -, -, -, u9, u10, -⟩ := h j hj
  rw [led_dd hv] at u9 u10
  exact ⟨u9, u10⟩
theorem op_meant (a1 a2 : Int32) : OpI Rel (d + 3) 151 270 [.int a1, .int a2] := by
  intro hi hl sw kp Q hR k
  obtain ⟨V, st, dy⟩ := hR.sp
  obtain ⟨-, -, -, ⟨n, t, t1, t2, t3, t4, t5, t6, t7⟩, -, hv, -⟩ := st
  have hD : vD V ≤ 4 := hv.1.1
  rcases cas hv a1 with ⟨c, hc, rfl, q1, q2⟩ | ⟨-, q1, q2⟩
  · have z1 : ¬ g_109 hi (nI c) = 0 := by rw [q1]; decide
    have z2 : ¬ g_209 hi (nI c) = 0 := by rw [q2]; decide
    refine e_151 (fun c => absurd c z1) (fun _ => ?_)
    rw [hv.2.1.1]
    refine f28 (d := d) t1 hD t3 (led_c hv t7) (fun m g vs L hL => k_151_29 (k _ _ hl sw kp (fun Q2 k2 => e_270 (fun c => absurd c z2) (fun _ => f269 (d := d) (n := n) (D := vD V) t1 hD t4 hv.2.2.1.1 t7 (led_dd hv) (fun L' vs' hL' => k_270_14 ?_)))))
    exact k2 _ hl sw kp (hR.fr tly_fr rfl)
  · exact e_151 (fun _ => k (-1) hi hl sw kp (fun Q2 k2 => e_270 (fun _ => k2 hi hl sw kp hR) (fun c => absurd q2 c))) (fun c => absurd q1 c)
/-- the first value that all so many tables have -/
def gv (t : Int32) (f : Nat → Int32) : Nat → Nat → Int32
  | 0, _ => -1000000
  | m + 1, i => if t ≤ 0 then gv t f m (i + 1) else if f i = t then nI i - 3 else gv t f m (i + 1)
theorem g35 {e f : Nat} (he : e < 4) (hf : f < 7) : g_35 hi (nI e) (nI f) = hi 277 (7 * e + f) ∧ nI e * 7 + nI f = nI (7 * e + f) := by
  have ex : nI e * 7 + nI f = nI (7 * e + f) := by
    rw [show (7 : Int32) = nI 7 from rfl, pk_mul, nI_add, Nat.mul_comm]
  refine ⟨?_, ex⟩
  unfold g_35
  rw [if_neg (nI_pos (by omega)), if_neg (show ¬ (4 : Int32) ≤ nI e from nI_ge (b := 4) he (by decide)), if_neg (nI_pos (by omega)), if_pos (show nI f < (7 : Int32) from nI_lt (b := 7) hf (by decide)), ex, nI_clamp (by omega)]
theorem f33 {e : Nat} (he : e < 4) {t : Int32} {F : Nat → Int32} (hF : ∀ f, f < 7 → hi 277 (7 * e + f) = F f) (w : Q (some (.int (gv t F 7 0))) (mkH hi hl sw kp)) : cS (d + 2) 33 [.ref 266, .int (nI e), .int t] (mkH hi hl sw kp) Q := by
  have lp : ∀ m i, i + m = 7 → Q (some (.int (gv t F m i))) (mkH hi hl sw kp) → cW cd_33 (d + 1) Q 2 [some (.ref 266), some (.int (nI e)), some (.int t), some (.int (nI i))] [] (mkH hi hl sw kp) := by
    intro m
    induction m with
    | zero =>
      intro i h w
      have : i = 7 := by omega
      subst this
      exact k_33_2 (fun _ => w) (fun c => absurd (by decide) c) (fun c => absurd (by decide) c) (fun c => absurd (by decide) c) (fun c => absurd (by decide) c)
    | succ m ih =>
      intro i h w
      obtain ⟨g1, g2⟩ := g35 (hi := hi) he (show i < 7 by omega)
      have c7 : ¬ (7 : Int32) ≤ nI i := nI_ge (b := 7) (by omega) (by decide)
      have w' : Q (some (.int (if t ≤ 0 then gv t F m (i + 1) else if F i = t then nI i - 3 else gv t F m (i + 1)))) (mkH hi hl sw kp) := w
      refine k_33_2 (fun c => absurd c c7) (fun _ c => ?_) (fun _ _ _ _ _ _ => by rw [g2]; exact vp_in_nI (by omega) (by decide)) (fun _ c c2 => ?_) (fun _ c c2 => ?_)
      · rw [if_pos c] at w'
        rw [nI_1]
        exact ih (i + 1) (by omega) w'
      · rw [g1, hF i (by omega)] at c2
        rw [if_neg c, if_pos c2] at w'
        exact w'
      · rw [g1, hF i (by omega)] at c2
        rw [if_neg c, if_neg c2] at w'
        rw [nI_1]
        exact ih (i + 1) (by omega) w'
  exact e_33 (lp 7 0 rfl w)
theorem f271 {e : Nat} (he : e < 4) {x1 x3 t : Int32} {F : Nat → Int32} (hF : ∀ f, f < 7 → hi 320 (7 * e + f) = F f) (w : Q (some (.int (gv t F 7 0))) (mkH hi hl sw kp)) : cW cd_271 (d + 2) Q 31 [some (.ref 279), some (.int x1), some (.int (nI e)), some (.int x3), some (.int t), some (.int 0)] [] (mkH hi hl sw kp) := by
  have lp : ∀ m i, i + m = 7 → Q (some (.int (gv t F m i))) (mkH hi hl sw kp) → cW cd_271 (d + 2) Q 31 [some (.ref 279), some (.int x1), some (.int (nI e)), some (.int x3), some (.int t), some (.int (nI i))] [] (mkH hi hl sw kp) := by
    intro m
    induction m with
    | zero =>
      intro i h w
      have : i = 7 := by omega
      subst this
      exact k_271_31 (fun _ => w) (fun c => absurd (by decide) c) (fun c => absurd (by decide) c) (fun c => absurd (by decide) c) (fun c => absurd (by decide) c)
    | succ m ih =>
      intro i h w
      have ex : (7 : Int32) * nI e + nI i = nI (7 * e + i) := by
        rw [show (7 : Int32) = nI 7 from rfl, pk_mul, nI_add]
      have c7 : ¬ (7 : Int32) ≤ nI i := nI_ge (b := 7) (by omega) (by decide)
      have w' : Q (some (.int (if t ≤ 0 then gv t F m (i + 1) else if F i = t then nI i - 3 else gv t F m (i + 1)))) (mkH hi hl sw kp) := w
      refine k_271_31 (fun c => absurd c c7) (fun _ c => ?_) (fun _ _ => by rw [ex]; exact vp_in_nI (by omega) (by decide)) (fun _ c c2 => ?_) (fun _ c c2 => ?_)
      · rw [if_pos c] at w'
        rw [nI_1]
        exact ih (i + 1) (by omega) w'
      · rw [ex, nI_clamp (by omega), hF i (by omega)] at c2
        rw [if_neg c, if_pos c2] at w'
        exact w'
      · rw [ex, nI_clamp (by omega), hF i (by omega)] at c2
        rw [if_neg c, if_neg c2] at w'
        rw [nI_1]
        exact ih (i + 1) (by omega) w'
  exact lp 7 0 rfl w
theorem op_sure (a1 a2 a3 : Int32) : OpI Rel (d + 3) 152 271 [.int a1, .int a2, .int a3] := by
  intro hi hl sw kp Q hR k
  obtain ⟨V, st, dy⟩ := hR.sp
  obtain ⟨-, -, -, ⟨n, t, t1, t2, t3, t4, t5, t6, t7⟩, -, hv, -⟩ := st
  have hD : vD V ≤ 4 := hv.1.1
  rcases cas hv a1 with ⟨c, hc, rfl, q1, q2⟩ | ⟨-, q1, q2⟩
  · have z1 : ¬ g_109 hi (nI c) = 0 := by rw [q1]; decide
    have z2 : ¬ g_209 hi (nI c) = 0 := by rw [q2]; decide
    rcases ded hv a2 with ⟨e, he, rfl, q3, q4⟩ | ⟨-, q3, q4⟩
    · have z3 : ¬ g_110 hi (nI e) = 0 := by rw [q3]; decide
      have z4 : ¬ g_210 hi (nI e) = 0 := by rw [q4]; decide
      refine e_152 (fun c => absurd c z1) (fun _ c => absurd c z3) (fun _ _ => ?_)
      rw [hv.2.1.1]
      refine f28 (d := d) t1 hD t3 (led_c hv t7) (fun m g vs L hL => k_152_41 (f33 (d := d) (e := e) (by omega) (F := fun f => nI (tL hi n (nI c) a3 (7 ^ vD V) e f)) (fun f hf => hL e f he hf) (k_152_53 (k _ _ hl sw kp (fun Q2 k2 => e_271 (fun c => absurd c z2) (fun _ c => absurd c z4) (fun _ _ => f269 (d := d) (n := n) (D := vD V) t1 hD t4 hv.2.2.1.1 t7 (led_dd hv) (fun L' vs' hL' => k_271_26 (f271 (e := e) (by omega) (F := fun f => nI (tL hi n (nI c) a3 (7 ^ vD V) e f)) (fun f hf => hL' e f he hf) ?_))))))))
      exact k2 _ hl sw kp (hR.fr tly_fr rfl)
    · exact e_152 (fun c => absurd c z1) (fun _ _ => k (-1000000) hi hl sw kp (fun Q2 k2 => e_271 (fun c => absurd c z2) (fun _ _ => k2 hi hl sw kp hR) (fun _ c => absurd q4 c))) (fun _ c => absurd q3 c)
  · exact e_152 (fun _ => k (-1000000) hi hl sw kp (fun Q2 k2 => e_271 (fun _ => k2 hi hl sw kp hR) (fun c => absurd q2 c) (fun c => absurd q2 c))) (fun c => absurd q1 c) (fun c => absurd q1 c)
/-- the most of the first n -/
def mo (f : Nat → Int32) : Nat → Int32
  | 0 => 0
  | i + 1 => if mo f i < f i then f i else mo f i
def amn (M : Nat → Int32) : Nat → Nat
  | 0 => 0
  | i + 1 => if M (i + 1) < M (amn M i) then i + 1 else amn M i
theorem amn_le (M : Nat → Int32) : ∀ i, amn M i ≤ i
  | 0 => Nat.le_refl 0
  | i + 1 => by
    have := amn_le M i
    show (if M (i + 1) < M (amn M i) then i + 1 else amn M i) ≤ i + 1
    by_cases h : M (i + 1) < M (amn M i)
    · rw [if_pos h]; omega
    · rw [if_neg h]; omega
theorem f34 {e : Nat} (he : e < 4) {F : Nat → Int32} (hF : ∀ f, f < 7 → hi 277 (7 * e + f) = F f) (w : Q (some (.int (mo F 7))) (mkH hi hl sw kp)) : cS (d + 2) 34 [.ref 266, .int (nI e)] (mkH hi hl sw kp) Q := by
  refine e_34 (lpu (σ := Unit) 7 (fun i _ => cW cd_34 (d + 1) Q 4 [some (.ref 266), some (.int (nI e)), some (.int (mo F i)), some (.int (nI i))] [] (mkH hi hl sw kp)) (fun _ _ => True) ?_ ?_ 7 0 () rfl trivial)
  · intro _ _
    exact k_34_4 (fun _ => w) (fun c => absurd (by decide) c) (fun c => absurd (by decide) c)
  · intro i _ hi7 _ ih
    obtain ⟨g1, g2⟩ := g35 (hi := hi) he hi7
    refine k_34_4 (fun c => absurd c (nI_ge (b := 7) hi7 (by decide))) (fun _ _ _ _ _ => by rw [g2]; exact vp_in_nI (by omega) (by decide)) (fun _ => ?_)
    rw [g1, hF i hi7, nI_1]
    exact ih () trivial
theorem f272 {e : Nat} (he : e < 4) {F : Nat → Int32} (hF : ∀ f, f < 7 → hi 320 (7 * e + f) = F f) (w : Q (some (.int (mo F 7))) (mkH hi hl sw kp)) : cS (d + 1) 272 [.ref 279, .int (nI e)] (mkH hi hl sw kp) Q := by
  refine e_272 (lpu (σ := Unit) 7 (fun i _ => cW cd_272 d Q 4 [some (.ref 279), some (.int (nI e)), some (.int (mo F i)), some (.int (nI i))] [] (mkH hi hl sw kp)) (fun _ _ => True) ?_ ?_ 7 0 () rfl trivial)
  · intro _ _
    exact k_272_4 (fun _ => w) (fun c => absurd (by decide) c) (fun c => absurd (by decide) c) (fun c => absurd (by decide) c)
  · intro i _ hi7 _ ih
    have ex : (7 : Int32) * nI e + nI i = nI (7 * e + i) := by
      rw [show (7 : Int32) = nI 7 from rfl, pk_mul, nI_add]
    have ih' : cW cd_272 d Q 4 [some (.ref 279), some (.int (nI e)), some (.int (if mo F i < F i then F i else mo F i)), some (.int (nI (i + 1)))] [] (mkH hi hl sw kp) := ih () trivial
    refine k_272_4 (fun c => absurd c (nI_ge (b := 7) hi7 (by decide))) (fun _ => by rw [ex]; exact vp_in_nI (by omega) (by decide)) (fun _ c => ?_) (fun _ c => ?_)
    · rw [ex, nI_clamp (by omega), hF i hi7] at c
      rw [if_neg (Int32.not_lt.mpr c)] at ih'
      rw [nI_1]
      exact ih'
    · rw [ex, nI_clamp (by omega), hF i hi7] at c ⊢
      rw [if_pos (Int32.not_le.mp c)] at ih'
      rw [nI_1]
      exact ih'
theorem c153 {x1 x2 x3 : Int32} {M : Nat → Int32} (hD : D ≤ 4) (e0 : hi 19 0 = nI D) (h0 : 0 < D) (hM : ∀ e, e < D → ∃ F : Nat → Int32, M e = mo F 7 ∧ ∀ f, f < 7 → hi 277 (7 * e + f) = F f) (w0 : x2 = 0 → Q (some (.int (nI (amn M (D - 1))))) (mkH hi hl sw kp)) (w1 : ¬ x2 = 0 → Q (some (.int (M (amn M (D - 1))))) (mkH hi hl sw kp)) : cW cd_153 (d + 2) Q 52 [some (.ref 0), some (.int x1), some (.int x2), some (.int x3), some (.int (-1)), some (.int (-1)), some (.int 0), none] [] (mkH hi hl sw kp) := by
  have z0 : ¬ hi 19 0 ≤ (0 : Int32) := by rw [e0]; exact nI_nle h0 (by omega)
  obtain ⟨F, hF1, hF2⟩ := hM 0 h0
  refine k_153_52 (fun c => absurd c z0) (fun c => absurd c z0) (fun _ => f34 (d := d) (e := 0) (by decide) hF2 (k_153_73 (fun _ => ?_) (fun c => absurd rfl c) (fun c => absurd rfl c)))
  rw [← hF1]
  refine lpu (σ := Unit) D (fun i _ => ∀ o7 : Option Value, 0 < i → cW cd_153 (d + 2) Q 52 [some (.ref 0), some (.int x1), some (.int x2), some (.int x3), some (.int (nI (amn M (i - 1)))), some (.int (M (amn M (i - 1)))), some (.int (nI i)), o7] [] (mkH hi hl sw kp)) (fun _ _ => True) ?_ ?_ (D - 1) 1 () (by omega) trivial _ (by decide)
  · intro _ _ o7 _
    exact k_153_52 (fun _ => w0) (fun _ => w1) (fun c => absurd (by rw [e0]; exact Int32.le_refl _) c)
  · intro i _ hiD _ ih o7 hi0
    obtain ⟨F, hF1, hF2⟩ := hM i hiD
    have hle := amn_le M (i - 1)
    have zi : ¬ hi 19 0 ≤ nI i := by rw [e0]; exact nI_ge hiD (by omega)
    have ih' := ih () trivial
    have ea : amn M (i + 1 - 1) = if M i < M (amn M (i - 1)) then i else amn M (i - 1) := by
      obtain ⟨j, rfl⟩ : ∃ j, i = j + 1 := ⟨i - 1, by omega⟩
      rfl
    rw [ea] at ih'
    refine k_153_52 (fun c => absurd c zi) (fun c => absurd c zi) (fun _ => f34 (d := d) (e := i) (by omega) hF2 (k_153_73 (fun c => ?_) (fun _ c => ?_) (fun _ c => ?_)))
    · have : nI (amn M (i - 1)) < 0 := by rw [c]; decide
      exact absurd this (nI_pos (by omega))
    · rw [← hF1] at c ⊢
      rw [if_neg (Int32.not_lt.mpr c)] at ih'
      rw [nI_1]
      exact ih' _ (by omega)
    · rw [← hF1] at c ⊢
      rw [if_pos (Int32.not_le.mp c)] at ih'
      rw [nI_1]
      exact ih' _ (by omega)
theorem c273 {x1 x2 x3 : Int32} {M : Nat → Int32} (hD : D ≤ 4) (e0 : hi 279 45 = nI D) (h0 : 0 < D) (hM : ∀ e, e < D → ∃ F : Nat → Int32, M e = mo F 7 ∧ ∀ f, f < 7 → hi 320 (7 * e + f) = F f) (w0 : x2 = 0 → Q (some (.int (nI (amn M (D - 1))))) (mkH hi hl sw kp)) (w1 : ¬ x2 = 0 → Q (some (.int (M (amn M (D - 1))))) (mkH hi hl sw kp)) : cW cd_273 (d + 2) Q 43 [some (.ref 279), some (.int x1), some (.int x2), some (.int x3), some (.int 0), some (.int 1)] [] (mkH hi hl sw kp) := by
  refine lpu (σ := Unit) D (fun i _ => 0 < i → cW cd_273 (d + 2) Q 43 [some (.ref 279), some (.int x1), some (.int x2), some (.int x3), some (.int (nI (amn M (i - 1)))), some (.int (nI i))] [] (mkH hi hl sw kp)) (fun _ _ => True) ?_ ?_ (D - 1) 1 () (by omega) trivial (by decide)
  · intro _ _ _
    have hle := amn_le M (D - 1)
    obtain ⟨F, hF1, hF2⟩ := hM (amn M (D - 1)) (by omega)
    refine k_273_43 (fun _ c => k_273_97 (w0 c)) (fun _ c => f272 (d := d + 1) (e := amn M (D - 1)) (by omega) hF2 (k_273_97 ?_)) (fun c => absurd (by rw [e0]; exact Int32.le_refl _) c)
    rw [← hF1]
    exact w1 c
  · intro i _ hiD _ ih hi0
    have hle := amn_le M (i - 1)
    obtain ⟨F, hF1, hF2⟩ := hM i hiD
    obtain ⟨G, hG1, hG2⟩ := hM (amn M (i - 1)) (by omega)
    have zi : ¬ hi 279 45 ≤ nI i := by rw [e0]; exact nI_ge hiD (by omega)
    have ih' := ih () trivial
    have ea : amn M (i + 1 - 1) = if M i < M (amn M (i - 1)) then i else amn M (i - 1) := by
      obtain ⟨j, rfl⟩ : ∃ j, i = j + 1 := ⟨i - 1, by omega⟩
      rfl
    rw [ea] at ih'
    refine k_273_43 (fun c => absurd c zi) (fun c => absurd c zi) (fun _ => f272 (d := d + 1) (e := i) (by omega) hF2 (k_273_58 (f272 (d := d + 1) (e := amn M (i - 1)) (by omega) hG2 (k_273_64 (fun c => ?_) (fun c => ?_)))))
    · rw [← hF1, ← hG1] at c
      rw [if_neg (Int32.not_lt.mpr c)] at ih'
      rw [nI_1]
      exact ih' (by omega)
    · rw [← hF1, ← hG1] at c
      rw [if_pos (Int32.not_le.mp c)] at ih'
      rw [nI_1]
      exact ih' (by omega)
theorem op_ask (a1 a2 a3 : Int32) : OpI Rel (d + 3) 153 273 [.int a1, .int a2, .int a3] := by
  intro hi hl sw kp Q hR k
  obtain ⟨V, st, dy⟩ := hR.sp
  obtain ⟨-, -, -, ⟨n, t, t1, t2, t3, t4, t5, t6, t7⟩, -, hv, -⟩ := st
  have hD : vD V ≤ 4 := hv.1.1
  have h7 := p7 hD
  have e45 : hi 279 45 = nI (vD V) := hv.2.2.1.1
  have eg : g_207 a2 (0 : Int32) (1 : Int32) = g_158 a2 (0 : Int32) (1 : Int32) := rfl
  rcases cas hv a1 with ⟨c, hc, rfl, q1, q2⟩ | ⟨-, q1, q2⟩
  · have z1 : ¬ g_109 hi (nI c) = 0 := by rw [q1]; decide
    have z2 : ¬ g_209 hi (nI c) = 0 := by rw [q2]; decide
    by_cases h1 : g_158 a2 (0 : Int32) (1 : Int32) = 0
    · exact e_153 (fun c => absurd c z1) (fun _ _ => k (-1) hi hl sw kp (fun Q2 k2 => e_273 (fun c => absurd c z2) (fun _ _ => k2 hi hl sw kp hR) (fun _ _ _ => k2 hi hl sw kp hR) (fun _ _ c => absurd h1 c))) (fun _ c => absurd h1 c)
    · refine e_153 (fun c => absurd c z1) (fun _ c => absurd c h1) (fun _ _ => ?_)
      rw [hv.2.1.1]
      refine f28 (d := d) t1 hD t3 (led_c hv t7) (fun m g vs L hL => ?_)
      by_cases hD0 : vD V = 0
      · have fin : Q (some (.int (-1))) (mkH (uR (uR (uR (u2 hi 266 11 m) 275 g) 277 L) 276 vs) hl sw kp) := by
          refine k (-1) _ hl sw kp (fun Q2 k2 => e_273 (fun c => absurd c z2) (fun _ _ => k2 _ hl sw kp (hR.fr (fun c j h => ?_) rfl)) (fun _ c => absurd (show hi 279 45 = 0 by rw [e45, hD0]; rfl) c) (fun _ c => absurd (show hi 279 45 = 0 by rw [e45, hD0]; rfl) c))
          have := tly_fr (hi := hi) (m := m) (g := g) (vs := vs) (L := L) (L' := (uR (uR (uR (u2 hi 266 11 m) 275 g) 277 L) 276 vs) 320) (vs' := (uR (uR (uR (u2 hi 266 11 m) 275 g) 277 L) 276 vs) 321) c j h
          rw [uR_id] at this
          have e2 : (uR (uR (uR (u2 hi 266 11 m) 275 g) 277 L) 276 vs) 321 = (uR (uR (uR (u2 hi 266 11 m) 275 g) 277 L) 276 vs) 321 := rfl
          rw [uR_id] at this
          exact this
        refine k_153_38 (fun _ => fin) (fun _ => ?_)
        have e0 : (uR (uR (uR (u2 hi 266 11 m) 275 g) 277 L) 276 vs) 19 0 ≤ (0 : Int32) := by
          show hi 19 0 ≤ 0
          rw [hv.2.1.1, hD0]
          decide
        exact k_153_52 (fun _ _ => fin) (fun _ _ => fin) (fun c => absurd e0 c)
      · have hMc : ∀ e, e < vD V → ∃ F : Nat → Int32, mo (fun f => nI (tL hi n (nI c) a3 (7 ^ vD V) e f)) 7 = mo F 7 ∧ ∀ f, f < 7 → (uR (uR (uR (u2 hi 266 11 m) 275 g) 277 L) 276 vs) 277 (7 * e + f) = F f := fun e he => ⟨_, rfl, fun f hf => hL e f he hf⟩
        have zD : ¬ hi 279 45 = 0 := by rw [e45]; exact nI_ne0 (by omega) (by omega)
        have hcl := tC_le (tB hi n (nI c) a3) (7 ^ vD V)
        by_cases hz : tC (tB hi n (nI c) a3) (7 ^ vD V) = 0
        · have ez : nI (tC (tB hi n (nI c) a3) (7 ^ vD V)) = 0 := by rw [hz]; rfl
          refine k_153_38 (fun _ => k (-1) _ hl sw kp (fun Q2 k2 => e_273 (fun c => absurd c z2) (fun _ c => absurd c zD) (fun _ _ c => absurd c h1) (fun _ _ _ => f269 (d := d) (n := n) (D := vD V) t1 hD t4 e45 t7 (led_dd hv) (fun L' vs' hL' => k_273_32 (fun _ => k2 _ hl sw kp (hR.fr tly_fr rfl)) (fun c => absurd ez c))))) (fun c => absurd ez c)
        · have ez : ¬ nI (tC (tB hi n (nI c) a3) (7 ^ vD V)) = 0 := nI_ne0 (by omega) (by omega)
          have mid : ∀ v : Int32, (∀ (Q2 : am_Q) (h : am_Hp), Q2 (some (.int v)) h → (a2 = 0 → Q2 (some (.int (nI (amn (fun e => mo (fun f => nI (tL hi n (nI c) a3 (7 ^ vD V) e f)) 7) (vD V - 1))))) h) ∧ (¬ a2 = 0 → Q2 (some (.int (mo (fun f => nI (tL hi n (nI c) a3 (7 ^ vD V) (amn (fun e => mo (fun f => nI (tL hi n (nI c) a3 (7 ^ vD V) e f)) 7) (vD V - 1)) f)) 7))) h)) → Q (some (.int v)) (mkH (uR (uR (uR (u2 hi 266 11 m) 275 g) 277 L) 276 vs) hl sw kp) := by
            intro v hv'
            refine k v _ hl sw kp (fun Q2 k2 => e_273 (fun c => absurd c z2) (fun _ c => absurd c zD) (fun _ _ c => absurd c h1) (fun _ _ _ => f269 (d := d) (n := n) (D := vD V) t1 hD t4 e45 t7 (led_dd hv) (fun L' vs' hL' => k_273_32 (fun c => absurd c ez) (fun _ => c273 (D := vD V) (M := fun e => mo (fun f => nI (tL hi n (nI c) a3 (7 ^ vD V) e f)) 7) hD e45 (by omega) (fun e he => ⟨_, rfl, fun f hf => hL' e f he hf⟩) (fun q => (hv' Q2 _ (k2 _ hl sw kp (hR.fr tly_fr rfl))).1 q) (fun q => (hv' Q2 _ (k2 _ hl sw kp (hR.fr tly_fr rfl))).2 q)))))
          refine k_153_38 (fun c => absurd c ez) (fun _ => c153 (D := vD V) (M := fun e => mo (fun f => nI (tL hi n (nI c) a3 (7 ^ vD V) e f)) 7) hD hv.2.1.1 (by omega) hMc (fun q => mid _ (fun Q2 h z => ⟨fun _ => z, fun z2 => absurd q z2⟩)) (fun q => mid _ (fun Q2 h z => ⟨fun z2 => absurd z2 q, fun _ => z⟩)))
  · exact e_153 (fun _ => k (-1) hi hl sw kp (fun Q2 k2 => e_273 (fun _ => k2 hi hl sw kp hR) (fun c => absurd q2 c) (fun c => absurd q2 c) (fun c => absurd q2 c))) (fun c => absurd q1 c) (fun c => absurd q1 c)
end TALLY2
