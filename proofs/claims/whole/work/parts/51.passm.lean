/-! ===== ways to pass: numbers ===== -/
/-- what the deed of t counts for case c, and 3 more -/
def cnA (hi : Nat → Nat → Int32) (c t : Nat) : Nat := min 6 (hi 24 (4 * (hi 21 t).toNatClampNeg + c) + 3).toNatClampNeg
def hrd (V : vN) (H c u : Nat) : Bool := Nat.beq ((H + u) / vHr V % vC V) c
/-- ways to pass in the last k of n hours from f with score z - 15 -/
def rr (V : vN) (hi : Nat → Nat → Int32) (bb : Nat → Nat) (H c b n : Nat) : Nat → Nat → Nat → Nat
  | 0, _, _ => 0
  | k + 1, f, z => Ts (fun t => WY V hi bb H (n - (k + 1)) f t * (bif hrd V H c (n - (k + 1)) then vv (cnA hi c t) b (rr V hi bb H c b n k) (60 ^ k) t z else rr V hi bb H c b n k t z)) (vP V)
def hb1 (V : vN) (H c u : Nat) : Nat := bif hrd V H c u then 1 else 0
/-- hours from u on, of n, in which c is heard -/
def LF (V : vN) (H c n u : Nat) : Nat := Ts (fun i => hb1 V H c (u + i)) (n - u)
section PASSM
variable {V : vN} {hi : Nat → Nat → Int32} {bb : Nat → Nat} {H c b n : Nat}
theorem hb1_le {u : Nat} : hb1 V H c u ≤ 1 := by
  unfold hb1
  cases hrd V H c u <;> decide
theorem Ts_sh (f : Nat → Nat) : ∀ n, Ts f (n + 1) = f 0 + Ts (fun i => f (i + 1)) n
  | 0 => by
    show Ts f 0 + f 0 = f 0 + 0
    show 0 + f 0 = f 0 + 0
    omega
  | n + 1 => by
    show Ts f (n + 1) + f (n + 1) = f 0 + (Ts (fun i => f (i + 1)) n + f (n + 1))
    rw [Ts_sh f n]
    omega
theorem LF_s {u : Nat} (hu : u < n) : LF V H c n u = hb1 V H c u + LF V H c n (u + 1) := by
  unfold LF
  obtain ⟨k, hk⟩ : ∃ k, n - u = k + 1 := ⟨n - u - 1, by omega⟩
  have hk2 : n - (u + 1) = k := by omega
  rw [hk, hk2, Ts_sh]
  congr 1
  exact Ts_eq k (fun t _ => by rw [show u + (t + 1) = u + 1 + t by omega])
theorem LF_le {u : Nat} : LF V H c n u ≤ n - u := by
  have := Ts_b (q := fun i => hb1 V H c (u + i)) (B := 1) (fun _ => hb1_le) (n - u)
  unfold LF
  omega
theorem vv_le {a K M : Nat} {r : Nat → Nat → Nat} {t z : Nat} (hK : K ≤ M) (hr : ∀ y, r t y ≤ M) : vv a b r K t z ≤ M := by
  unfold vv
  by_cases c1 : b + 18 ≤ z + a
  · rw [if_pos c1]; exact hK
  · rw [if_neg c1]
    by_cases c2 : z + a + b ≤ 18
    · rw [if_pos c2]; exact Nat.zero_le _
    · rw [if_neg c2]; exact hr _
theorem rr_le : ∀ k f z, f < vP V → rr V hi bb H c b n k f z ≤ 60 ^ k
  | 0, _, _, _ => Nat.zero_le _
  | k + 1, f, z, hf => by
    have h1 : rr V hi bb H c b n (k + 1) f z ≤ Ts (fun t => WY V hi bb H (n - (k + 1)) f t * 60 ^ k) (vP V) := by
      refine Ts_mono _ (fun t ht => Nat.mul_le_mul_left _ ?_)
      cases hrd V H c (n - (k + 1))
      · exact rr_le k t z ht
      · exact vv_le (Nat.le_refl _) (fun y => rr_le k t y ht)
    rw [Ts_mulr] at h1
    have h2 : Ts (WY V hi bb H (n - (k + 1)) f) (vP V) = 60 := wy_all hf
    rw [h2] at h1
    rw [Nat.pow_succ, Nat.mul_comm]
    exact h1
theorem rr_0 {mg : Nat} (hmg : ∀ t, t < vP V → cnA hi c t ≤ mg + 3) : ∀ k f z, k ≤ n → z + LF V H c n (n - k) * mg < b + 15 → rr V hi bb H c b n k f z = 0
  | 0, _, _, _, _ => rfl
  | k + 1, f, z, hk, h => by
    have e1 := LF_s (V := V) (H := H) (c := c) (n := n) (u := n - (k + 1)) (by omega)
    have e2 : n - (k + 1) + 1 = n - k := by omega
    rw [e2] at e1
    rw [e1] at h
    refine Ts_z _ (fun t ht => ?_)
    have hm := hmg t ht
    cases hh : hrd V H c (n - (k + 1)) with
    | false =>
      have hb : hb1 V H c (n - (k + 1)) = 0 := by unfold hb1; rw [hh]; rfl
      rw [hb, Nat.zero_add] at h
      show WY V hi bb H (n - (k + 1)) f t * rr V hi bb H c b n k t z = 0
      rw [rr_0 hmg k t z (by omega) h, Nat.mul_zero]
    | true =>
      have hb : hb1 V H c (n - (k + 1)) = 1 := by unfold hb1; rw [hh]; rfl
      rw [hb, Nat.add_mul, Nat.one_mul] at h
      show WY V hi bb H (n - (k + 1)) f t * vv (cnA hi c t) b (rr V hi bb H c b n k) (60 ^ k) t z = 0
      have e3 : vv (cnA hi c t) b (rr V hi bb H c b n k) (60 ^ k) t z = 0 := by
        unfold vv
        rw [if_neg (by omega)]
        by_cases c2 : z + cnA hi c t + b ≤ 18
        · rw [if_pos c2]
        · rw [if_neg c2]
          exact rr_0 hmg k t _ (by omega) (by omega)
      rw [e3, Nat.mul_zero]
theorem cnA_ok {t : Nat} (hv : R_vil V hi) (ht : t < vP V) (hc : c < vC V) : ∃ e, e < vD V ∧ hi 21 t = nI e ∧ hi 295 t = nI e ∧ hi 24 (4 * e + c) = nI (cnA hi c t) - 3 ∧ hi 298 (4 * e + c) = nI (cnA hi c t) - 3 ∧ cnA hi c t ≤ 6 := by
  have hb := hv.1
  obtain ⟨e, e1, e2, e3⟩ := (hv.2.2.2.1 t ht).2.1
  obtain ⟨f1, f2, f3⟩ := hv.2.2.2.2.2 e c e1 hc
  have key : hi 24 (4 * e + c) = nI (cnA hi c t) - 3 := by
    unfold cnA
    rw [e2, nI_clamp (by omega)]
    obtain ⟨x, hx⟩ : ∃ x, x = hi 24 (4 * e + c) := ⟨_, rfl⟩
    rw [← hx] at f2 f3 ⊢
    have h3 : (x + 3).toInt = x.toInt + 3 := by
      have := Int32.toInt_add x 3
      rw [this]
      show (x.toInt + 3).bmod (2 ^ 32) = x.toInt + 3
      rw [Int.bmod_eq_of_le (by omega) (by omega)]
    have h0 : ¬ x + 3 < 0 := by
      rw [Int32.lt_iff_toInt_lt, h3]
      show ¬ (x.toInt + 3 < 0)
      omega
    obtain ⟨m, hm, em⟩ := nI_of h0
    have hm6 : m ≤ 6 := by
      rw [em, nI_toInt hm] at h3
      omega
    rw [em, nI_clamp hm, Nat.min_eq_right hm6, ← em, Int32.add_sub_cancel]
  exact ⟨e, e1, e2, e3, key, f1.symm.trans key, Nat.min_le_left _ _⟩
theorem g120 {u : Nat} (hv : R_vil V hi) (hc : c < vC V) (hu : H + u ≤ 5000) : (g_120 hi (nI (H + u)) = nI c ↔ hrd V H c u = true) := by
  have hb := hv.1
  have h1 : (H + u) / vHr V ≤ H + u := Nat.div_le_self _ _
  have h2 : (H + u) / vHr V % vC V < vC V := Nat.mod_lt _ (by omega)
  have e : g_120 hi (nI (H + u)) = nI ((H + u) / vHr V % vC V) := by
    unfold g_120
    rw [hv.2.1.2.2.2.2.2.1, hv.2.1.2.2.2.1, if_neg (nI_nle (n := vHr V) (by omega) (by omega)), if_neg (nI_nle (n := vC V) (by omega) (by omega)), pk_div (by omega) (by omega) (by omega), pk_rem (by omega) (by omega) (by omega)]
  rw [e, nI_eq (by omega) (by omega)]
  unfold hrd
  constructor
  · intro h; rw [h]; exact Nat.beq_refl c
  · intro h; exact Nat.eq_of_beq_eq_true h
/-- ways that pass of all of n hours, from D0 -/
def wp (V : vN) (hi : Nat → Nat → Int32) (bb : Nat → Nat) (H c n D0 : Nat) : Nat := if hi 31 c = 2 then 0 else if hi 31 c = 1 then 60 ^ n else rr V hi bb H c (hi 23 c).toNatClampNeg n n D0 (hi 30 c + 15).toNatClampNeg
theorem wp_le {D0 : Nat} (hD : D0 < vP V ∨ vP V = 0) : wp V hi bb H c n D0 ≤ 60 ^ n := by
  unfold wp
  by_cases c1 : hi 31 c = 2
  · rw [if_pos c1]; exact Nat.zero_le _
  · rw [if_neg c1]
    by_cases c2 : hi 31 c = 1
    · rw [if_pos c2]; exact Nat.le_refl _
    · rw [if_neg c2]
      rcases hD with h | h
      · exact rr_le n D0 _ h
      · cases n with
        | zero => exact Nat.zero_le _
        | succ n =>
          show Ts _ (vP V) ≤ _
          rw [h]
          exact Nat.zero_le _
end PASSM
