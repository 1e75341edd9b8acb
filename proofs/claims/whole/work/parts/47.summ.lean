/-! ===== sums; weights that move (numbers alone) ===== -/
theorem Ts_up {f f' : Nat → Nat} {k δ : Nat} : ∀ n, k < n → (∀ i, i ≠ k → f' i = f i) → f' k = f k + δ → Ts f' n = Ts f n + δ
  | 0, h, _, _ => absurd h (Nat.not_lt_zero k)
  | n + 1, h, h1, h2 => by
    show Ts f' n + f' n = Ts f n + f n + δ
    by_cases e : k = n
    · subst e
      rw [h2, Ts_eq (q := f') (q' := f) k (fun t ht => h1 t (by omega))]
      omega
    · rw [Ts_up n (by omega) h1 h2, h1 n (fun q => e q.symm)]
      omega
theorem Ts_z {f : Nat → Nat} : ∀ n, (∀ i, i < n → f i = 0) → Ts f n = 0
  | 0, _ => rfl
  | n + 1, h => by
    show Ts f n + f n = 0
    rw [Ts_z n (fun i hi => h i (by omega)), h n (by omega)]
theorem Ts_add {f g : Nat → Nat} : ∀ n, Ts (fun i => f i + g i) n = Ts f n + Ts g n
  | 0 => rfl
  | n + 1 => by
    show Ts (fun i => f i + g i) n + (f n + g n) = Ts f n + f n + (Ts g n + g n)
    rw [Ts_add n]
    omega
theorem Ts_mul {f : Nat → Nat} {c : Nat} : ∀ n, Ts (fun i => c * f i) n = c * Ts f n
  | 0 => rfl
  | n + 1 => by
    show Ts (fun i => c * f i) n + c * f n = c * (Ts f n + f n)
    rw [Ts_mul n, Nat.mul_add]
theorem Ts_mulr {f : Nat → Nat} {c : Nat} (n : Nat) : Ts (fun i => f i * c) n = Ts f n * c := by
  rw [Nat.mul_comm, ← Ts_mul, Ts_eq n (fun t _ => Nat.mul_comm _ _)]
theorem Ts_sw {f : Nat → Nat → Nat} (m : Nat) : ∀ n, Ts (fun i => Ts (f i) m) n = Ts (fun j => Ts (fun i => f i j) n) m
  | 0 => (Ts_z m (fun _ _ => rfl)).symm
  | n + 1 => by
    show Ts (fun i => Ts (f i) m) n + Ts (f n) m = Ts (fun j => Ts (fun i => f i j) n + f n j) m
    rw [Ts_sw m n, Ts_add m]
theorem Ts_one {f : Nat → Nat} {n k : Nat} (hk : k < n) (h : ∀ i, i < n → i ≠ k → f i = 0) : Ts f n = f k := by
  have h0 : Ts (fun _ => 0) n = 0 := Ts_z n (fun _ _ => rfl)
  have e : Ts (fun i => if i = k then f k else 0) n = Ts f n := Ts_eq n (fun t ht => by
    by_cases q : t = k
    · rw [if_pos q, q]
    · rw [if_neg q, h t ht q])
  rw [← e, Ts_up (f := fun _ => 0) (δ := f k) n hk (fun i hi => if_neg hi) (by rw [if_pos rfl, Nat.zero_add]), h0, Nat.zero_add]
theorem Ts_mem {f : Nat → Nat} {n k : Nat} (hk : k < n) : f k ≤ Ts f n := by
  have := Ts_le (q := f) (show k + 1 ≤ n by omega)
  have e : Ts f (k + 1) = Ts f k + f k := rfl
  omega
theorem Ts_mono {f g : Nat → Nat} : ∀ n, (∀ i, i < n → f i ≤ g i) → Ts f n ≤ Ts g n
  | 0, _ => Nat.le_refl 0
  | n + 1, h => by
    have h1 := Ts_mono n (fun i hi => h i (by omega))
    have h2 := h n (by omega)
    show Ts f n + f n ≤ Ts g n + g n
    omega
theorem Ts_ext {f : Nat → Nat} {n m : Nat} (h : n ≤ m) (hz : ∀ i, n ≤ i → i < m → f i = 0) : Ts f m = Ts f n := by
  obtain ⟨k, rfl⟩ : ∃ k, m = n + k := ⟨m - n, by omega⟩
  clear h
  induction k with
  | zero => rfl
  | succ k ih =>
    show Ts f (n + k) + f (n + k) = _
    rw [ih (fun i h1 h2 => hz i h1 (by omega)), hz (n + k) (by omega) (by omega), Nat.add_zero]
/-- a sum over places and scores -/
def S2 (n : Nat) (F : Nat → Nat → Nat) : Nat := Ts (fun t => Ts (F t) n) 8
theorem S2_up {n t0 z0 δ : Nat} {F F' : Nat → Nat → Nat} (ht : t0 < 8) (hz : z0 < n) (h1 : ∀ t z, ¬ (t = t0 ∧ z = z0) → F' t z = F t z) (h2 : F' t0 z0 = F t0 z0 + δ) : S2 n F' = S2 n F + δ := by
  refine Ts_up 8 ht (fun i hi => Ts_eq n (fun t _ => h1 i t (fun q => hi q.1))) ?_
  exact Ts_up n hz (fun i hi => h1 t0 i (fun q => hi q.2)) h2
theorem S2_z {n : Nat} {F : Nat → Nat → Nat} (h : ∀ t z, t < 8 → z < n → F t z = 0) : S2 n F = 0 := Ts_z 8 (fun t ht => Ts_z n (fun z hz => h t z ht hz))
theorem S2_eq {n : Nat} {F G : Nat → Nat → Nat} (h : ∀ t z, t < 8 → z < n → F t z = G t z) : S2 n F = S2 n G := Ts_eq 8 (fun t ht => Ts_eq n (fun z hz => h t z ht hz))
theorem S2_mem {n t z : Nat} {F : Nat → Nat → Nat} (ht : t < 8) (hz : z < n) : F t z ≤ S2 n F := Nat.le_trans (Ts_mem (f := F t) hz) (Ts_mem (f := fun t => Ts (F t) n) ht)
theorem S2_one {n t0 z0 : Nat} {F : Nat → Nat → Nat} (ht : t0 < 8) (hz : z0 < n) (h : ∀ t z, t < 8 → z < n → ¬ (t = t0 ∧ z = z0) → F t z = 0) : S2 n F = F t0 z0 := by
  unfold S2
  rw [Ts_one ht (fun t h1 h2 => Ts_z n (fun z h3 => h t z h1 h3 (fun q => h2 q.1)))]
  exact Ts_one hz (fun z h1 h2 => h t0 z ht h1 (fun q => h2 q.2))
/-- of a score z, by a gain a - 3: passed, fallen, or on -/
def vv (a b : Nat) (r : Nat → Nat → Nat) (K t z : Nat) : Nat := if b + 18 ≤ z + a then K else if z + a + b ≤ 18 then 0 else r t (z + a - 3)
/-- weights within scores lo .. hi - 1 -/
def wt (lo e : Nat) (w : Nat → Nat → Nat) (f z : Nat) : Nat := if lo ≤ z ∧ z < e then w f z else 0
/-- a score as the class has it -/
def sc (z : Nat) : Int32 := nI z - 15
theorem sc_toInt {z : Nat} (h : z ≤ 1000) : (sc z).toInt = (z : Int) - 15 := pk_sub_toInt (b := 15) (by omega) (by decide)
theorem sc_lt {y z : Nat} (hy : y ≤ 1000) (hz : z ≤ 1000) : sc y < sc z ↔ y < z := by
  rw [Int32.lt_iff_toInt_lt, sc_toInt hy, sc_toInt hz]
  omega
theorem sc_1 (z : Nat) : sc z + 1 = sc (z + 1) := by
  unfold sc
  rw [← nI_1, Int32.sub_eq_add_neg, Int32.sub_eq_add_neg, Int32.add_assoc, Int32.add_assoc, Int32.add_comm (-15) 1]
theorem sc_ix (A z : Nat) : nI A + 15 + sc z = nI (A + z) := by
  unfold sc
  rw [Int32.add_assoc, Int32.add_comm 15, Int32.sub_add_cancel, nI_add]
theorem gn_ix {A z a : Nat} (h : 3 ≤ z + a) : nI A + 15 + (nI a - 3) + sc z = nI (A + (z + a - 3)) := by
  have e1 : nI A + 15 + (nI a - 3) + sc z = nI A + 15 + sc z + (nI a - 3) := by
    rw [Int32.add_assoc, Int32.add_comm (nI a - 3), ← Int32.add_assoc]
  rw [e1, sc_ix, Int32.sub_eq_add_neg, ← Int32.add_assoc, nI_add, ← Int32.sub_eq_add_neg]
  have e2 : nI (A + z + a) - 3 = nI (A + z + a - 3) := pk_sub (b := 3) (by omega)
  rw [e2]
  congr 1
  omega
theorem gn_sum (z a : Nat) : sc z + (nI a - 3) = nI (z + a) - 18 := by
  unfold sc
  rw [← nI_add, Int32.sub_eq_add_neg, Int32.sub_eq_add_neg, Int32.sub_eq_add_neg, Int32.add_assoc, Int32.add_assoc, ← Int32.add_assoc (-15), Int32.add_comm (-15) (nI a), Int32.add_assoc]
  congr 2
theorem gn_lt {z a b : Nat} (hz : z ≤ 40) (ha : a ≤ 6) (hb : b ≤ 16) : sc z + (nI a - 3) < nI b ↔ z + a < b + 18 := by
  rw [gn_sum, Int32.lt_iff_toInt_lt, pk_sub_toInt (a := z + a) (b := 18) (by omega) (by decide) |> (fun h => (h : (nI (z + a) - 18).toInt = _)), nI_toInt (by omega)]
  omega
theorem gn_le {z a b : Nat} (hz : z ≤ 40) (ha : a ≤ 6) (hb : b ≤ 16) : sc z + (nI a - 3) ≤ -nI b ↔ z + a + b ≤ 18 := by
  rw [gn_sum, Int32.le_iff_toInt_le, pk_sub_toInt (a := z + a) (b := 18) (by omega) (by decide) |> (fun h => (h : (nI (z + a) - 18).toInt = _)), sb_negT (by omega)]
  omega
theorem lz {a : Nat} (h : a < 2 ^ 63) : lg_cmp (lN a) 0 = 0 ↔ a = 0 := by
  unfold lg_cmp
  have e0 : (0 : Int64) = lN 0 := rfl
  rw [e0]
  constructor
  · intro q
    rcases Nat.eq_zero_or_pos a with z | z
    · exact z
    · rw [if_pos ((pk_lLT (by decide) h).mpr z)] at q
      exact absurd q (by decide)
  · intro q
    subst q
    rw [if_neg (fun z => absurd ((pk_lLT (by decide) (by decide)).mp z) (Nat.lt_irrefl 0)), if_pos rfl]
