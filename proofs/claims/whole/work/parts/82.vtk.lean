/-! ===== village: bounds of tokens, bits ===== -/
section VTK
variable {b : Nat → Int32} {a : Nat}
theorem rnd_le {P : Int32 → Int32} {b : Nat → Int32} : ∀ (k a : Nat), a ≤ rnd P b k a
  | 0, a => Nat.le_refl a
  | k + 1, a => by
    show a ≤ (if P (b a) = 0 then a else rnd P b k (a + 1))
    by_cases c : P (b a) = 0
    · rw [if_pos c]
      exact Nat.le_refl a
    · rw [if_neg c]
      have := rnd_le (P := P) (b := b) k (a + 1)
      omega
theorem rnd_gt {P : Int32 → Int32} {k : Nat} (h : ¬ P (b a) = 0) : a < rnd P b (k + 1) a := by
  show a < (if P (b a) = 0 then a else rnd P b k (a + 1))
  rw [if_neg h]
  have := rnd_le (P := P) (b := b) k (a + 1)
  omega
/-- behind a token the place is further -/
theorem tk_e (h0 : ts (tk b a) ≠ 0) (h3 : ts (tk b a) ≠ 3) : a < te (tk b a) := by
  unfold tk at h0 h3 ⊢
  have hp := rnd_le (b := b) (P := g_74) 1601 a
  obtain ⟨p, e⟩ : ∃ p, p = rnd g_74 b 1601 a := ⟨_, rfl⟩
  rw [← e] at h0 h3 hp ⊢
  unfold tkp at h0 h3 ⊢
  by_cases c0 : b p = -1
  · rw [if_pos c0] at h0
    exact absurd rfl h0
  · rw [if_neg c0] at h3 ⊢
    by_cases c1 : g_75 (b p) = 0
    · rw [if_pos c1] at h3 ⊢
      by_cases c2 : g_76 (b p) = 0
      · rw [if_pos c2] at h3 ⊢
        by_cases c3 : g_77 (b p) = 0
        · rw [if_pos c3] at h3
          exact absurd rfl h3
        · rw [if_neg c3]
          show a < p + 1
          omega
      · rw [if_neg c2] at h3 ⊢
        by_cases c3 : 4 < rnd g_76 b 1601 p - p ∨ ¬ g_75 (b (rnd g_76 b 1601 p)) = 0
        · rw [if_pos c3] at h3
          exact absurd rfl h3
        · rw [if_neg c3]
          have : p < rnd g_76 b 1601 p := rnd_gt (P := g_76) (k := 1600) c2
          show a < rnd g_76 b 1601 p
          omega
    · rw [if_neg c1] at h3 ⊢
      by_cases c3 : 8 < rnd g_75 b 1601 p - p
      · rw [if_pos c3] at h3
        exact absurd rfl h3
      · rw [if_neg c3]
        have : p < rnd g_75 b 1601 p := rnd_gt (P := g_75) (k := 1600) c1
        show a < rnd g_75 b 1601 p
        omega
theorem tk_v : tv (tk b a) < 10000 := by
  unfold tk
  obtain ⟨p, e⟩ : ∃ p, p = rnd g_74 b 1601 a := ⟨_, rfl⟩
  rw [← e]
  unfold tkp
  by_cases c0 : b p = -1
  · rw [if_pos c0]
    exact (show 0 < 10000 from by decide)
  · rw [if_neg c0]
    by_cases c1 : g_75 (b p) = 0
    · rw [if_pos c1]
      by_cases c2 : g_76 (b p) = 0
      · rw [if_pos c2]
        by_cases c3 : g_77 (b p) = 0
        · rw [if_pos c3]
          exact (show 0 < 10000 from by decide)
        · rw [if_neg c3]
          exact (show 0 < 10000 from by decide)
      · rw [if_neg c2]
        by_cases c3 : 4 < rnd g_76 b 1601 p - p ∨ ¬ g_75 (b (rnd g_76 b 1601 p)) = 0
        · rw [if_pos c3]
          exact (show 0 < 10000 from by decide)
        · rw [if_neg c3]
          have h1 := dgs_lt (b := b) (p := p) (rnd g_76 b 1601 p - p) (fun j a1 a2 => rnd_all 1601 p j a1 (by omega))
          have h4 : rnd g_76 b 1601 p - p ≤ 4 := Nat.le_of_not_lt (fun z => c3 (Or.inl z))
          have h8 : 10 ^ (rnd g_76 b 1601 p - p) ≤ 10 ^ 4 := Nat.pow_le_pow_right (by decide) h4
          exact Nat.lt_of_lt_of_le h1 h8
    · rw [if_neg c1]
      by_cases c3 : 8 < rnd g_75 b 1601 p - p
      · rw [if_pos c3]
        exact (show 0 < 10000 from by decide)
      · rw [if_neg c3]
        exact (show 0 < 10000 from by decide)
/-- bits of 16 -/
theorem fa_an (a b : Nat) : nI a &&& nI b = nI (a &&& b) := by
  refine Int32.toBitVec_inj.1 ?_
  show BitVec.ofNat 32 a &&& BitVec.ofNat 32 b = BitVec.ofNat 32 (a &&& b)
  apply BitVec.eq_of_getLsbD_eq
  intro i hi
  simp [hi]
theorem sh16 : ∀ t, t < 16 → ((1 : Int32) <<< (nI t &&& 31)) = nI (2 ^ t) := by decide +kernel
theorem an2 (m k : Nat) : m &&& 2 ^ k = (if m.testBit k = true then 2 ^ k else 0) := by
  apply Nat.eq_of_testBit_eq
  intro j
  rw [Nat.testBit_and, Nat.testBit_two_pow]
  by_cases c : m.testBit k = true
  · rw [if_pos c, Nat.testBit_two_pow]
    by_cases e : k = j
    · subst e
      rw [c]
      rfl
    · rw [decide_eq_false e, Bool.and_false]
  · rw [if_neg c, Nat.zero_testBit]
    by_cases e : k = j
    · subst e
      have c' : m.testBit k = false := by
        cases hb : m.testBit k
        · rfl
        · exact absurd hb c
      rw [c']
      rfl
    · rw [decide_eq_false e, Bool.and_false]
theorem bt_an {m k : Nat} (hk : k < 16) : (nI m &&& ((1 : Int32) <<< (nI k &&& 31))) = 0 ↔ m.testBit k = false := by
  rw [sh16 k hk, fa_an, an2]
  have h1 : 2 ^ k ≤ 2 ^ 15 := Nat.pow_le_pow_right (by decide) (by omega)
  have h2 : 0 < 2 ^ k := Nat.two_pow_pos k
  cases hb : m.testBit k
  · rw [if_neg (by decide)]
    exact ⟨fun _ => rfl, fun _ => rfl⟩
  · rw [if_pos rfl]
    constructor
    · intro q
      have := (nI_eq (a := 2 ^ k) (b := 0) (by omega) (by decide)).mp q
      omega
    · intro q
      cases q
theorem bt_or {m k : Nat} (hk : k < 16) : (nI m ||| ((1 : Int32) <<< (nI k &&& 31))) = nI (m ||| 2 ^ k) := by
  rw [sh16 k hk, fa_or]
theorem bt_u {m k j : Nat} : (m ||| 2 ^ k).testBit j = (m.testBit j || decide (k = j)) := by
  rw [Nat.testBit_or, Nat.testBit_two_pow]
theorem bt_lt {m k : Nat} (hm : m < 65536) (hk : k < 16) : m ||| 2 ^ k < 65536 := Nat.or_lt_two_pow (n := 16) hm (Nat.pow_lt_pow_right (by decide) hk)
/-- how many of the lowest k bits -/
def bc (m : Nat) : Nat → Nat
  | 0 => 0
  | k + 1 => bc m k + (m.testBit k).toNat
theorem bc_le (m : Nat) : ∀ k, bc m k ≤ k
  | 0 => Nat.le_refl 0
  | k + 1 => by
    have h := bc_le m k
    have h2 : (m.testBit k).toNat ≤ 1 := Bool.toNat_le _
    show bc m k + (m.testBit k).toNat ≤ k + 1
    omega
theorem bc_all (m : Nat) : ∀ k, bc m k = k → ∀ j, j < k → m.testBit j = true
  | 0, _, j, hj => absurd hj (Nat.not_lt_zero j)
  | k + 1, h, j, hj => by
    have h1 : bc m k + (m.testBit k).toNat = k + 1 := h
    have h2 := bc_le m k
    have h3 : (m.testBit k).toNat ≤ 1 := Bool.toNat_le _
    by_cases e : j = k
    · subst e
      cases hb : m.testBit j
      · rw [hb] at h1
        have : bc m j + 0 = j + 1 := h1
        omega
      · rfl
    · exact bc_all m k (by omega) j (by omega)
theorem bc_u {m t : Nat} (ht : m.testBit t = false) : ∀ k, bc (m ||| 2 ^ t) k = bc m k + (if t < k then 1 else 0)
  | 0 => rfl
  | k + 1 => by
    show bc (m ||| 2 ^ t) k + ((m ||| 2 ^ t).testBit k).toNat = bc m k + (m.testBit k).toNat + (if t < k + 1 then 1 else 0)
    rw [bc_u ht k, bt_u]
    by_cases e : t = k
    · subst e
      rw [ht, if_neg (Nat.lt_irrefl t), if_pos (Nat.lt_succ_self t), decide_eq_true rfl]
      rfl
    · rw [decide_eq_false e, Bool.or_false]
      by_cases c : t < k
      · rw [if_pos c, if_pos (by omega)]
        omega
      · rw [if_neg c, if_neg (by omega)]
        omega
theorem bc_0 : ∀ k, bc 0 k = 0
  | 0 => rfl
  | k + 1 => by
    show bc 0 k + ((0 : Nat).testBit k).toNat = 0
    rw [bc_0 k, Nat.zero_testBit]
    rfl
theorem bc_16 {m : Nat} (hm : m < 65536) : bc m 16 < 16 ↔ m ≠ 65535 := by
  have h := bc_le m 16
  constructor
  · intro q e
    subst e
    exact absurd q (by decide)
  · intro q
    rcases Nat.lt_or_ge (bc m 16) 16 with z | z
    · exact z
    · refine absurd (Nat.eq_of_testBit_eq (fun j => ?_)) q
      rcases Nat.lt_or_ge j 16 with y | y
      · rw [bc_all m 16 (by omega) j y]
        have : ∀ j, j < 16 → true = (65535 : Nat).testBit j := by decide
        exact this j y
      · have h2 : 2 ^ 16 ≤ 2 ^ j := Nat.pow_le_pow_right (by decide) y
        rw [Nat.testBit_lt_two_pow (Nat.lt_of_lt_of_le hm h2), Nat.testBit_lt_two_pow (Nat.lt_of_lt_of_le (by decide) h2)]
theorem us_r {x : Nat} (hx : x < 2 ^ 31) (k : Nat) (y : UInt32) (hy : y.toNat = k) (hk : k < 32) : ((nI x).toUInt32 >>> y).toInt32 = nI (x >>> k) := by
  refine Int32.toBitVec_inj.1 ?_
  show ((nI x).toUInt32 >>> y).toBitVec = BitVec.ofNat 32 (x >>> k)
  apply BitVec.eq_of_toNat_eq
  show ((nI x).toUInt32 >>> y).toNat = _
  rw [UInt32.toNat_shiftRight, hy, Nat.mod_eq_of_lt hk, BitVec.toNat_ofNat]
  have h1 : (nI x).toUInt32.toNat = x := by
    show (BitVec.ofNat 32 x).toNat = x
    rw [BitVec.toNat_ofNat, Nat.mod_eq_of_lt (by omega)]
  have h2 : x >>> k ≤ x := by
    rw [Nat.shiftRight_eq_div_pow]
    exact Nat.div_le_self _ _
  rw [h1, Nat.mod_eq_of_lt (by omega)]
def bq1 (m : Nat) : Nat := m - ((m >>> 1) &&& 1431655765)
def bq2 (m : Nat) : Nat := (m &&& 858993459) + ((m >>> 2) &&& 858993459)
def bq3 (m : Nat) : Nat := (m + (m >>> 4)) &&& 252645135
def bq4 (m : Nat) : Nat := m + (m >>> 8)
def bq5 (m : Nat) : Nat := m + (m >>> 16)
def bqk : Nat → Bool
  | 0 => true
  | k + 1 => (if bq5 (bq4 (bq3 (bq2 (bq1 k)))) &&& 63 < 16 then k != 65535 else k == 65535) && bqk k
theorem bqk_ok : bqk 65536 = true := by decide +kernel
end VTK
