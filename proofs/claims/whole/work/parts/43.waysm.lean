/-! ===== draws: how many of 60 lead whither (numbers alone) ===== -/
/-- a sum of the first n -/
def Ts (q : Nat → Nat) : Nat → Nat
  | 0 => 0
  | n + 1 => Ts q n + q n
theorem Ts_le {q : Nat → Nat} : ∀ {n m : Nat}, n ≤ m → Ts q n ≤ Ts q m
  | n, 0, h => by
    have : n = 0 := by omega
    subst this
    exact Nat.le_refl _
  | n, m + 1, h => by
    by_cases e : n = m + 1
    · rw [e]; exact Nat.le_refl _
    · have := Ts_le (q := q) (show n ≤ m by omega)
      show Ts q n ≤ Ts q m + q m
      omega
theorem Ts_b {q : Nat → Nat} {B : Nat} (h : ∀ t, q t ≤ B) : ∀ n, Ts q n ≤ B * n
  | 0 => Nat.le_refl 0
  | n + 1 => by
    have := Ts_b h n
    have := h n
    show Ts q n + q n ≤ B * (n + 1)
    rw [Nat.mul_succ]
    omega
theorem Ts_eq {q q' : Nat → Nat} : ∀ n, (∀ t, t < n → q t = q' t) → Ts q n = Ts q' n
  | 0, _ => rfl
  | n + 1, h => by
    show Ts q n + q n = Ts q' n + q' n
    rw [Ts_eq n (fun t ht => h t (by omega)), h n (by omega)]
def cdv (a b : Nat) : Nat := (a + b - 1) / b
theorem cdv_lt {a b d : Nat} (hb : 0 < b) : d < cdv a b ↔ d * b < a := by
  unfold cdv
  rw [show d < (a + b - 1) / b ↔ d + 1 ≤ (a + b - 1) / b from Iff.rfl, Nat.le_div_iff_mul_le hb, Nat.succ_mul]
  omega
theorem cdv_mono {a a' b : Nat} (h : a ≤ a') : cdv a b ≤ cdv a' b := Nat.div_le_div_right (by omega)
theorem cdv_0 {b : Nat} (hb : 0 < b) : cdv 0 b = 0 := Nat.div_eq_of_lt (by omega)
theorem cdv_60 {b : Nat} (hb : 0 < b) : cdv (60 * b) b = 60 := by
  have h1 : ¬ 60 < cdv (60 * b) b := fun q => by
    rw [cdv_lt hb] at q
    omega
  have h2 : 59 < cdv (60 * b) b := by
    rw [cdv_lt hb]
    omega
  omega
/-- by how many draws one comes to t -/
def wy (q : Nat → Nat) (P f t : Nat) : Nat := if Ts q P = 0 then (if t = f then 60 else 0) else cdv (60 * Ts q (t + 1)) (Ts q P) - cdv (60 * Ts q t) (Ts q P)
/-- whither a draw leads -/
def GG (q : Nat → Nat) (P f d p : Nat) : Prop := if Ts q P = 0 then p = f else cdv (60 * Ts q p) (Ts q P) ≤ d ∧ d < cdv (60 * Ts q (p + 1)) (Ts q P)
theorem GG_u {q : Nat → Nat} {P f d p p' : Nat} (h : GG q P f d p) (h' : GG q P f d p') : p = p' := by
  unfold GG at h h'
  by_cases c : Ts q P = 0
  · rw [if_pos c] at h h'
    rw [h, h']
  · rw [if_neg c] at h h'
    rcases Nat.lt_trichotomy p p' with z | z | z
    · have := cdv_mono (b := Ts q P) (Nat.mul_le_mul_left 60 (Ts_le (q := q) (show p + 1 ≤ p' by omega)))
      omega
    · exact z
    · have := cdv_mono (b := Ts q P) (Nat.mul_le_mul_left 60 (Ts_le (q := q) (show p' + 1 ≤ p by omega)))
      omega
theorem wy_sum {q : Nat → Nat} {P f : Nat} : ∀ t, Ts (wy q P f) t = if Ts q P = 0 then (if f < t then 60 else 0) else cdv (60 * Ts q t) (Ts q P)
  | 0 => by
    by_cases c : Ts q P = 0
    · rw [if_pos c, if_neg (by omega)]
      rfl
    · rw [if_neg c]
      show 0 = cdv (60 * 0) (Ts q P)
      rw [Nat.mul_zero, cdv_0 (by omega)]
  | t + 1 => by
    show Ts (wy q P f) t + wy q P f t = _
    rw [wy_sum t]
    unfold wy
    by_cases c : Ts q P = 0
    · rw [if_pos c, if_pos c, if_pos c]
      by_cases h : t = f
      · subst h
        rw [if_neg (by omega), if_pos rfl, if_pos (by omega)]
      · rw [if_neg h]
        by_cases h2 : f < t
        · rw [if_pos h2, if_pos (by omega)]
        · rw [if_neg h2, if_neg (by omega)]
    · rw [if_neg c, if_neg c, if_neg c]
      have := cdv_mono (b := Ts q P) (Nat.mul_le_mul_left 60 (Ts_le (q := q) (show t ≤ t + 1 by omega)))
      omega
theorem wy_all {q : Nat → Nat} {P f : Nat} (hf : f < P) : Ts (wy q P f) P = 60 := by
  rw [wy_sum]
  by_cases c : Ts q P = 0
  · rw [if_pos c, if_pos hf]
  · rw [if_neg c, cdv_60 (by omega)]
theorem wy_le {q : Nat → Nat} {P f t : Nat} (ht : t < P) : wy q P f t ≤ 60 := by
  unfold wy
  by_cases c : Ts q P = 0
  · rw [if_pos c]
    by_cases h : t = f
    · rw [if_pos h]; omega
    · rw [if_neg h]; omega
  · rw [if_neg c]
    have := cdv_mono (b := Ts q P) (Nat.mul_le_mul_left 60 (Ts_le (q := q) (show t + 1 ≤ P by omega)))
    rw [cdv_60 (by omega)] at this
    omega
theorem wy_0 {q : Nat → Nat} {P f t : Nat} (hq : q t = 0) (hf : t ≠ f) : wy q P f t = 0 := by
  unfold wy
  by_cases c : Ts q P = 0
  · rw [if_pos c, if_neg hf]
  · rw [if_neg c]
    have : Ts q (t + 1) = Ts q t := by
      show Ts q t + q t = _
      rw [hq]
      rfl
    rw [this, Nat.sub_self]
theorem GG_lt {q : Nat → Nat} {P f d p : Nat} (hf : f < P) (h : GG q P f d p) (hp : P ≤ p) (hd : d < 60) : False := by
  unfold GG at h
  by_cases c : Ts q P = 0
  · rw [if_pos c] at h
    omega
  · rw [if_neg c] at h
    have := cdv_mono (b := Ts q P) (Nat.mul_le_mul_left 60 (Ts_le (q := q) hp))
    rw [cdv_60 (by omega)] at this
    omega
/-- how many draws below d lead to p -/
def gc (q : Nat → Nat) (P f d p : Nat) : Nat := if Ts q P = 0 then (if p = f then d else 0) else min d (cdv (60 * Ts q (p + 1)) (Ts q P)) - min d (cdv (60 * Ts q p) (Ts q P))
theorem gc_s {q : Nat → Nat} {P f d p g : Nat} (h : GG q P f d g) : gc q P f (d + 1) p = if p = g then gc q P f d p + 1 else gc q P f d p := by
  have hm := cdv_mono (b := Ts q P) (Nat.mul_le_mul_left 60 (Ts_le (q := q) (show p ≤ p + 1 by omega)))
  by_cases c : Ts q P = 0
  · have h' := h
    unfold GG at h'
    rw [if_pos c] at h'
    subst h'
    unfold gc
    rw [if_pos c, if_pos c]
    by_cases e : p = g
    · rw [if_pos e, if_pos e, if_pos e]
    · rw [if_neg e, if_neg e, if_neg e]
  · by_cases e : p = g
    · subst e
      unfold GG at h
      rw [if_neg c] at h
      rw [if_pos rfl]
      unfold gc
      rw [if_neg c, if_neg c]
      omega
    · have h2 : ¬ GG q P f d p := fun z => e (GG_u z h)
      unfold GG at h2
      rw [if_neg c] at h2
      rw [if_neg e]
      unfold gc
      rw [if_neg c, if_neg c]
      omega
theorem gc_60 {q : Nat → Nat} {P f p : Nat} (hp : p < P) : gc q P f 60 p = wy q P f p := by
  unfold gc wy
  by_cases c : Ts q P = 0
  · rw [if_pos c, if_pos c]
  · rw [if_neg c, if_neg c]
    have h1 := cdv_mono (b := Ts q P) (Nat.mul_le_mul_left 60 (Ts_le (q := q) (show p + 1 ≤ P by omega)))
    have h2 := cdv_mono (b := Ts q P) (Nat.mul_le_mul_left 60 (Ts_le (q := q) (show p ≤ P by omega)))
    rw [cdv_60 (by omega)] at h1 h2
    rw [Nat.min_eq_right h1, Nat.min_eq_right h2]
theorem gc_0 {q : Nat → Nat} {P f p : Nat} : gc q P f 0 p = 0 := by
  unfold gc
  by_cases c : Ts q P = 0
  · rw [if_pos c]
    by_cases e : p = f
    · rw [if_pos e]
    · rw [if_neg e]
  · rw [if_neg c, Nat.zero_min, Nat.zero_min]
/-- bits -/
theorem fa_or (a b : Nat) : nI a ||| nI b = nI (a ||| b) := by
  refine Int32.toBitVec_inj.1 ?_
  show BitVec.ofNat 32 a ||| BitVec.ofNat 32 b = BitVec.ofNat 32 (a ||| b)
  apply BitVec.eq_of_getLsbD_eq
  intro i hi
  simp [hi]
theorem sh8 : ∀ t, t < 8 → ((nI t &&& 31).toBitVec.smod 32).toNat = t ∧ ((1 : Int32) <<< (nI t &&& 31)) = nI (2 ^ t) := by decide +kernel
theorem bit8 {a t : Nat} (ha : a < 2 ^ 31) (ht : t < 8) : ((nI a >>> (nI t &&& 31)) &&& 1) = nI (a / 2 ^ t % 2) := by
  have h1 : a / 2 ^ t ≤ a := Nat.div_le_self _ _
  rw [pk_shrN ha _ t (sh8 t ht).1, pk_andN (by omega) 1 rfl]
theorem bit8z {a t : Nat} (ha : a < 2 ^ 31) (ht : t < 8) : ((nI a >>> (nI t &&& 31)) &&& 1) = 0 ↔ a / 2 ^ t % 2 = 0 := by
  rw [bit8 ha ht]
  have h2 : a / 2 ^ t % 2 < 2 := Nat.mod_lt _ (by decide)
  constructor
  · intro h
    exact (nI_eq (b := 0) (by omega) (by decide)).mp h
  · intro h
    rw [h]
    rfl
theorem or_bit (a b t : Nat) : (a ||| b) / 2 ^ t % 2 = 1 ↔ a / 2 ^ t % 2 = 1 ∨ b / 2 ^ t % 2 = 1 := by
  have h : ∀ x : Nat, x / 2 ^ t % 2 = 1 ↔ x.testBit t = true := by
    intro x
    rw [Nat.testBit_eq_decide_div_mod_eq, decide_eq_true_iff]
  rw [h, h, h, Nat.testBit_or, Bool.or_eq_true]
theorem or_lt8 {a b : Nat} (ha : a < 256) (hb : b < 256) : (a ||| b) < 256 := Nat.or_lt_two_pow (n := 8) ha hb
theorem pw_bit : ∀ f, f < 8 → ∀ t, t < 8 → (2 ^ f / 2 ^ t % 2 = 1 ↔ t = f) ∧ 2 ^ f < 256 := by decide +kernel
/-- one hour on: days -/
theorem dv_s {n d : Nat} (hd : 0 < d) : (n + 1) / d = if (n + 1) % d = 0 then n / d + 1 else n / d := by
  have h1 := Nat.div_add_mod n d
  have h2 := Nat.mod_lt n hd
  by_cases c : n % d + 1 = d
  · have e : n + 1 = d * (n / d + 1) := by rw [Nat.mul_succ]; omega
    have e1 : (n + 1) / d = n / d + 1 := by rw [e, Nat.mul_div_cancel_left _ hd]
    have e2 : (n + 1) % d = 0 := by rw [e, Nat.mul_mod_right]
    rw [if_pos e2, e1]
  · have e : n + 1 = (n % d + 1) + d * (n / d) := by omega
    have e1 : (n + 1) / d = n / d := by
      rw [e, Nat.add_mul_div_left _ _ hd, Nat.div_eq_of_lt (by omega), Nat.zero_add]
    have e2 : (n + 1) % d ≠ 0 := by
      rw [e, Nat.add_mul_mod_self_left, Nat.mod_eq_of_lt (by omega)]
      omega
    rw [if_neg e2, e1]
/-- the paths from a place -/
def go (hi : Nat → Nat → Int32) (f t : Nat) : Bool := Nat.beq f t || Nat.beq ((hi 22 f).toNatClampNeg / 2 ^ t % 2) 1
/-- pulls from f at the hour s ahead of H, bones bb now -/
def qp (V : vN) (hi : Nat → Nat → Int32) (bb : Nat → Nat) (H s f t : Nat) : Nat := bif go hi f t then PU V hi t (if H / vDy V < (H + s) / vDy V then 0 else bb t) (H + s) (bif Nat.beq f t then 1 else 0) else 0
/-- draws from f to t at the hour s ahead -/
def WY (V : vN) (hi : Nat → Nat → Int32) (bb : Nat → Nat) (H s f t : Nat) : Nat := wy (qp V hi bb H s f) (vP V) f t
theorem qp_le {V : vN} {hi : Nat → Nat → Int32} {bb : Nat → Nat} {H s f t : Nat} : qp V hi bb H s f t ≤ 99 := by
  unfold qp
  cases go hi f t
  · exact Nat.zero_le _
  · exact PU_le
theorem WY_go {V : vN} {hi : Nat → Nat → Int32} {bb : Nat → Nat} {H s f t : Nat} (h : go hi f t = false) : WY V hi bb H s f t = 0 := by
  refine wy_0 ?_ (fun q => ?_)
  · unfold qp
    rw [h]
    rfl
  · subst q
    unfold go at h
    rw [Nat.beq_refl] at h
    exact absurd h (by simp)
