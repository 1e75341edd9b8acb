/-! ===== odds of places: where, likely (class and reference) ===== -/
def wcell (sw : Bool) : Nat := bif sw then 262 else 261
abbrev lx (hl : Nat → Nat → Int64) (a b : Nat → Int64) : Nat → Nat → Int64 := uR (uR hl 261 a) 262 b
abbrev ly (hl : Nat → Nat → Int64) (a b : Nat → Int64) : Nat → Nat → Int64 := uR (uR hl 304 a) 305 b
def lrow (sw : Bool) (a b : Nat → Int64) : Nat → Int64 := bif sw then b else a
/-- odds of a place s hours ahead, from D0 -/
def od (V : vN) (hi : Nat → Nat → Int32) (bb : Nat → Nat) (H D0 : Nat) : Nat → Nat → Nat
  | 0, t => if t = D0 then 1 else 0
  | u + 1, t => if t < vP V then Ts (fun f => od V hi bb H D0 u f * WY V hi bb H u f t) (vP V) else 0
theorem od_sum {V : vN} {hi : Nat → Nat → Int32} {bb : Nat → Nat} {H D0 : Nat} : ∀ u, Ts (od V hi bb H D0 u) (vP V) ≤ 60 ^ u
  | 0 => by
    by_cases h : D0 < vP V
    · rw [Ts_one h (fun i _ hne => by show (if i = D0 then 1 else 0) = 0; rw [if_neg hne])]
      show (if D0 = D0 then 1 else 0) ≤ 1
      rw [if_pos rfl]
      exact Nat.le_refl 1
    · rw [Ts_z (vP V) (fun i hi' => by show (if i = D0 then 1 else 0) = 0; rw [if_neg (by omega)])]
      exact Nat.zero_le _
  | u + 1 => by
    have ih := od_sum (V := V) (hi := hi) (bb := bb) (H := H) (D0 := D0) u
    have e1 : Ts (od V hi bb H D0 (u + 1)) (vP V) = Ts (fun t => Ts (fun f => od V hi bb H D0 u f * WY V hi bb H u f t) (vP V)) (vP V) := Ts_eq _ (fun t ht => if_pos ht)
    rw [e1, Ts_sw]
    have e2 : Ts (fun f => Ts (fun t => od V hi bb H D0 u f * WY V hi bb H u f t) (vP V)) (vP V) = Ts (fun f => od V hi bb H D0 u f * 60) (vP V) := Ts_eq _ (fun f hf => by
      rw [Ts_mul]
      congr 1
      exact wy_all hf)
    rw [e2, Ts_mulr, Nat.pow_succ]
    exact Nat.mul_le_mul_right 60 ih
theorem od_le {V : vN} {hi : Nat → Nat → Int32} {bb : Nat → Nat} {H D0 u t : Nat} (ht : t < vP V) : od V hi bb H D0 u t ≤ 60 ^ u := Nat.le_trans (Ts_mem (f := od V hi bb H D0 u) ht) (od_sum u)
theorem p60 {n : Nat} (h : n ≤ 8) : 60 ^ n ≤ 167961600000000 := by
  rcases (show n = 0 ∨ n = 1 ∨ n = 2 ∨ n = 3 ∨ n = 4 ∨ n = 5 ∨ n = 6 ∨ n = 7 ∨ n = 8 by omega) with rfl | rfl | rfl | rfl | rfl | rfl | rfl | rfl | rfl <;> decide
theorem pw60 {n : Nat} (h : n ≤ 8) : am_pow n = lN (60 ^ n) := by
  rcases (show n = 0 ∨ n = 1 ∨ n = 2 ∨ n = 3 ∨ n = 4 ∨ n = 5 ∨ n = 6 ∨ n = 7 ∨ n = 8 by omega) with rfl | rfl | rfl | rfl | rfl | rfl | rfl | rfl | rfl <;> decide
theorem od_big {V : vN} {hi : Nat → Nat → Int32} {bb : Nat → Nat} {H D0 u t : Nat} (hu : u ≤ 8) (ht : t < vP V) : od V hi bb H D0 u t < 2 ^ 63 := by
  have h1 := od_le (V := V) (hi := hi) (bb := bb) (H := H) (D0 := D0) (u := u) ht
  have h2 := p60 hu
  omega
theorem vv3 {r : Nat → Nat → Nat} {K t z : Nat} (hz : z < 31) : vv 3 16 r K t z = r t z := by
  unfold vv
  rw [if_neg (by omega), if_neg (by omega)]
  rfl
section ODDS
variable {d : Nat} {Q : am_Q} {hi : Nat → Nat → Int32} {hl : Nat → Nat → Int64} {sw : Bool} {kp : Nat → Nat} {V : vN} {s o m p q g : Nat → Int32} {a b r : Nat → Int64}
theorem lx_a : uR (lx hl a b) 261 r = lx hl r b := by
  show uR (uR (uR hl 261 a) 262 b) 261 r = _
  rw [uR_co (by decide), uR_uR]
theorem lx_b : uR (lx hl a b) 262 r = lx hl a r := uR_uR
theorem lx_id : lx hl (hl 261) (hl 262) = hl := by
  show uR (uR hl 261 (hl 261)) 262 (hl 262) = hl
  rw [uR_id, uR_id]
theorem ly_id : ly hl (hl 304) (hl 305) = hl := by
  show uR (uR hl 304 (hl 304)) 305 (hl 305) = hl
  rw [uR_id, uR_id]
theorem ly_a {k : Nat} {x : Int64} : u2 (ly hl a b) 304 k x = ly hl (up1 a k x) b := by
  show u2 (uR (uR hl 304 a) 305 b) 304 k x = _
  rw [u2_co (by decide), u2_in]
theorem ly_b {k : Nat} {x : Int64} : u2 (ly hl a b) 305 k x = ly hl a (up1 b k x) := u2_in
/-- one weight stands, or none without places -/
theorem f45 {z D0 oc : Nat} {x1 : Int32} (hv : R_vil V hi) (hz : z < 31) (hx : (D0 < vP V ∧ x1 = nI D0 ∧ oc = 2 ^ D0) ∨ (vP V = 0 ∧ x1 = -1 ∧ D0 = 8 ∧ oc = 0)) (w' : ∀ (a' b' : Nat → Int64) (o' : Nat → Int32), (o' 12 = nI oc ∧ o' 13 = sc z ∧ o' 14 = sc z ∧ ∀ j, j ≠ 12 → j ≠ 13 → j ≠ 14 → o' j = o j) → (∀ t y, t < 8 → y < 31 → lrow sw a' b' (t * 31 + y) = lN (if t = D0 ∧ y = z then 1 else 0)) → Q none (mkH (cx hi s o' m p q g) (lx hl a' b') sw kp)) : cS (d + 2) 45 [.ref 256, .int x1, .int (sc z)] (mkH (cx hi s o m p q g) (lx hl a b) sw kp) Q := by
  rcases hx with ⟨h1, rfl, rfl⟩ | ⟨h1, rfl, rfl, rfl⟩
  · cases sw
    · exact f45f (d := d) hv h1 hz (fun row o' ho hr => qhl lx_a (w' row b o' ho hr))
    · exact f45t (d := d) hv h1 hz (fun row o' ho hr => qhl lx_b (w' a row o' ho hr))
  · have e0 : ∀ t y, t < 8 → lN 0 = lN (if t = 8 ∧ y = z then 1 else 0) := fun t y ht => by rw [if_neg (by omega)]
    cases sw
    · exact f45zf (d := d) hv h1 (fun row o' ho hr => qhl lx_a (w' row b o' ho (fun t y ht hy => (hr t y ht hy).trans (e0 t y ht))))
    · exact f45zt (d := d) hv h1 (fun row o' ho hr => qhl lx_b (w' a row o' ho (fun t y ht hy => (hr t y ht hy).trans (e0 t y ht))))
theorem f52 {u lo hh bb oc : Nat} {x2 : Int32} {w y : Nat → Nat → Nat} {gn : Nat → Nat} (hv : R_vil V hi) (hu : u < 8) (hlo : lo ≤ 30) (hhh : hh ≤ 30) (hb : bb ≤ 16) (ha : ∀ t, gn t ≤ 6) (e11 : o 12 = nI oc) (hoc : oc < 256) (e12 : o 13 = sc lo) (e13 : o 14 = sc hh) (hx : (x2 = -1 ∧ bb = 16 ∧ ∀ t, gn t = 3) ∨ ∃ c, c < vC V ∧ x2 = nI c ∧ hi 23 c = nI bb ∧ ∀ t, t < vP V → g t = nI (gn t) - 3)
    (hw : ∀ t z, t < 8 → z < 31 → lrow sw a b (t * 31 + z) = lN (w t z) ∧ w t z < 2 ^ 63) (hws : ∀ t z, t < 8 → z < 31 → w t z ≠ 0 → oc / 2 ^ t % 2 = 1) (hy : ∀ f t, f < vP V → oc / 2 ^ f % 2 = 1 → t < vP V → q ((u * 8 + f) * 8 + t) = nI (y f t) ∧ y f t ≤ 60)
    (w' : ∀ (c oc' : Nat) (v : Nat → Nat → Nat) (a' b' : Nat → Int64) (o' : Nat → Int32), (o' 12 = nI oc' ∧ oc' < 256 ∧ (∀ j, j ≠ 12 → j ≠ 13 → j ≠ 14 → o' j = o j) ∧ (x2 = -1 → o' 13 = o 13 ∧ o' 14 = o 14) ∧ (¬ x2 = -1 → o' 13 = (if o 13 + o 7 < 1 - nI bb then 1 - nI bb else o 13 + o 7) ∧ o' 14 = (if nI bb - 1 < o 14 + o 8 then nI bb - 1 else o 14 + o 8))) → (∀ t z, t < 8 → z < 31 → lrow (!sw) a' b' (t * 31 + z) = lN (v t z)) →
      (∀ (r : Nat → Nat → Nat) (K : Nat), c * K + S2 31 (fun t z => v t z * r t z) = Ts (fun f => Ts (fun t => Ts (fun z => wt lo (hh + 1) w f z * y f t * vv (gn t) bb r K t z) 31) (vP V)) (vP V)) → (∀ t z, v t z ≠ 0 → t < vP V ∧ oc' / 2 ^ t % 2 = 1 ∧ ∃ z0, lo ≤ z0 ∧ z0 ≤ hh ∧ z = z0 + gn t - 3 ∧ z0 + gn t < bb + 18 ∧ 18 < z0 + gn t + bb) → (∀ t, t < 8 → oc' / 2 ^ t % 2 = 1 → ∃ f, f < vP V ∧ oc / 2 ^ f % 2 = 1 ∧ y f t ≠ 0) → Q (some (.long (lN c))) (mkH (cx hi s o' m p q g) (lx hl a' b') (!sw) kp)) : cS (d + 2) 52 [.ref 256, .int (nI u), .int x2] (mkH (cx hi s o m p q g) (lx hl a b) sw kp) Q := by
  cases sw
  · exact f52f (d := d) hv hu hlo hhh hb ha e11 hoc e12 e13 hx hw hws hy (fun c oc' v row o' k1 k2 k3 k4 k5 => qhl lx_b (w' c oc' v a row o' k1 k2 k3 k4 k5))
  · exact f52t (d := d) hv hu hlo hhh hb ha e11 hoc e12 e13 hx hw hws hy (fun c oc' v row o' k1 k2 k3 k4 k5 => qhl lx_a (w' c oc' v row b o' k1 k2 k3 k4 k5))
/-- an hour with no case in mind -/
theorem f52n {u oc H D0 B : Nat} {bb : Nat → Nat} (hv : R_vil V hi) (hu : u < 8) (e11 : o 12 = nI oc) (hoc : oc < 256) (e12 : o 13 = sc 15) (e13 : o 14 = sc 15) (hN : CW V hi B bb H (u + 1) q) (hon : ∀ t, t < vP V → oc / 2 ^ t % 2 = 1 → NR V hi B u t)
    (hw : ∀ t z, t < 8 → z < 31 → lrow sw a b (t * 31 + z) = lN (if z = 15 ∧ t < 8 then od V hi bb H D0 u t else 0)) (hsm : ∀ t, t < 8 → od V hi bb H D0 u t < 2 ^ 63) (hws : ∀ t, t < 8 → od V hi bb H D0 u t ≠ 0 → oc / 2 ^ t % 2 = 1)
    (w' : ∀ (x : Int64) (oc' : Nat) (a' b' : Nat → Int64) (o' : Nat → Int32), (o' 12 = nI oc' ∧ oc' < 256 ∧ (∀ j, j ≠ 12 → j ≠ 13 → j ≠ 14 → o' j = o j) ∧ o' 13 = sc 15 ∧ o' 14 = sc 15) → (∀ t z, t < 8 → z < 31 → lrow (!sw) a' b' (t * 31 + z) = lN (if z = 15 ∧ t < 8 then od V hi bb H D0 (u + 1) t else 0)) → (∀ t, t < vP V → oc' / 2 ^ t % 2 = 1 → NR V hi B (u + 1) t) → (∀ t, t < 8 → od V hi bb H D0 (u + 1) t ≠ 0 → oc' / 2 ^ t % 2 = 1) → Q (some (.long x)) (mkH (cx hi s o' m p q g) (lx hl a' b') (!sw) kp)) : cS (d + 2) 52 [.ref 256, .int (nI u), .int (-1)] (mkH (cx hi s o m p q g) (lx hl a b) sw kp) Q := by
  have hb8 := hv.1
  refine f52 (d := d) (w := fun t z => if z = 15 ∧ t < 8 then od V hi bb H D0 u t else 0) (y := WY V hi bb H u) (gn := fun _ => 3) (bb := 16) hv hu (by decide) (by decide) (by decide) (fun _ => by decide) e11 hoc e12 e13 (Or.inl ⟨rfl, rfl, fun _ => rfl⟩) (fun t z ht hz => ⟨hw t z ht hz, ?_⟩) (fun t z ht hz hne => ?_) (fun f t hf ho ht => ⟨hN u f t (by omega) hf (hon f hf ho) ht, wy_le ht⟩) (fun c oc' v a' b' o' k1 k2 k3 k4 k5 => ?_)
  · show (if z = 15 ∧ t < 8 then od V hi bb H D0 u t else 0) < _
    by_cases c : z = 15 ∧ t < 8
    · rw [if_pos c]
      exact hsm t ht
    · rw [if_neg c]
      decide
  · have hne' : (if z = 15 ∧ t < 8 then od V hi bb H D0 u t else 0) ≠ 0 := hne
    by_cases c : z = 15 ∧ t < 8
    · rw [if_pos c] at hne'
      exact hws t ht hne'
    · rw [if_neg c] at hne'
      exact absurd rfl hne'
  · have ev : ∀ t0, t0 < vP V → v t0 15 = od V hi bb H D0 (u + 1) t0 := by
      intro t0 ht0
      have e := k3 (fun t z => if t = t0 ∧ z = 15 then 1 else 0) 0
      rw [Nat.mul_zero, Nat.zero_add, S2_one (t0 := t0) (z0 := 15) (by omega) (by decide) (fun t z _ _ hne => by rw [if_neg hne, Nat.mul_zero]), if_pos ⟨rfl, rfl⟩, Nat.mul_one] at e
      rw [e]
      show _ = if t0 < vP V then Ts (fun f => od V hi bb H D0 u f * WY V hi bb H u f t0) (vP V) else 0
      rw [if_pos ht0]
      refine Ts_eq _ (fun f hf => ?_)
      rw [Ts_one (k := t0) ht0 (fun t _ hne => Ts_z 31 (fun z hz => by rw [vv3 hz, if_neg (fun qq => hne qq.1), Nat.mul_zero])), Ts_one (k := 15) (by decide) (fun z hz hne => by rw [vv3 hz, if_neg (fun qq => hne qq.2), Nat.mul_zero]), vv3 (by decide), if_pos ⟨rfl, rfl⟩, Nat.mul_one]
      have : wt 15 (15 + 1) (fun t z => if z = 15 ∧ t < 8 then od V hi bb H D0 u t else 0) f 15 = od V hi bb H D0 u f := by
        unfold wt
        rw [if_pos (by omega)]
        exact if_pos ⟨rfl, by omega⟩
      rw [this]
    have ez : ∀ t z, ¬ (z = 15 ∧ t < vP V) → v t z = 0 := by
      intro t z hn
      rcases Nat.eq_zero_or_pos (v t z) with h0 | h0
      · exact h0
      · obtain ⟨h1, h2, z0, h3, h4, h5, -⟩ := k4 t z (by omega)
        exact absurd ⟨by omega, h1⟩ hn
    refine w' _ oc' a' b' o' ⟨k1.1, k1.2.1, k1.2.2.1, (k1.2.2.2.1 rfl).1.trans e12, (k1.2.2.2.1 rfl).2.trans e13⟩ (fun t z ht hz => ?_) (fun t ht ho => ?_) (fun t ht hne => ?_)
    · rw [k2 t z ht hz]
      congr 1
      by_cases c : z = 15 ∧ t < vP V
      · rw [if_pos ⟨c.1, ht⟩, c.1]
        exact ev t c.2
      · rw [ez t z c]
        by_cases c2 : z = 15 ∧ t < 8
        · rw [if_pos c2]
          show 0 = if t < vP V then _ else 0
          rw [if_neg (fun h => c ⟨c2.1, h⟩)]
        · rw [if_neg c2]
    · obtain ⟨f, f1, f2, f3⟩ := k5 t (by omega) ho
      have hg : go hi f t = true := by
        cases h : go hi f t with
        | true => rfl
        | false => exact absurd (WY_go h) f3
      exact NR_go f1 (hon f f1 f2) hg
    · by_cases htP : t < vP V
      · rw [← ev t htP] at hne
        exact (k4 t 15 hne).2.1
      · have : od V hi bb H D0 (u + 1) t = 0 := if_neg htP
        exact absurd this hne
theorem od_8 {H D0 u t : Nat} {bb : Nat → Nat} (hu : u ≤ 8) (ht : t < 8) (hD : D0 < vP V ∨ D0 = 8) : od V hi bb H D0 u t < 2 ^ 63 := by
  by_cases h : t < vP V
  · exact od_big hu h
  · have e : od V hi bb H D0 u t = 0 := by
      cases u with
      | zero =>
        show (if t = D0 then 1 else 0) = 0
        rw [if_neg (by omega)]
      | succ u => exact if_neg h
    rw [e]
    decide
/-- the dog roams n hours -/
theorem f46 {n H D0 B : Nat} {bb : Nat → Nat} {x1 : Int32} (hv : R_vil V hi) (hn : n ≤ 8) (hx : (D0 < vP V ∧ x1 = nI D0 ∧ B = 2 ^ D0) ∨ (vP V = 0 ∧ x1 = -1 ∧ D0 = 8 ∧ B = 0)) (hN : CW V hi B bb H n q) (w' : ∀ (sw' : Bool) (o' : Nat → Int32) (a' b' : Nat → Int64), (∀ t, t < vP V → lrow sw' a' b' (t * 31 + 15) = lN (od V hi bb H D0 n t)) → Q none (mkH (cx hi s o' m p q g) (lx hl a' b') sw' kp)) : cS (d + 3) 46 [.ref 256, .int x1, .int (nI n)] (mkH (cx hi s o m p q g) (lx hl a b) sw kp) Q := by
  have hb8 := hv.1
  have hD : D0 < vP V ∨ D0 = 8 := by
    rcases hx with ⟨h, -⟩ | ⟨-, -, h, -⟩
    · exact Or.inl h
    · exact Or.inr h
  have hBl : B < 256 := by
    rcases hx with ⟨h, -, rfl⟩ | ⟨-, -, -, rfl⟩
    · exact (pw_bit D0 (by omega) D0 (by omega)).2
    · decide
  have hB : ∀ t, t < 8 → (B / 2 ^ t % 2 = 1 ↔ t = D0) := by
    intro t ht
    rcases hx with ⟨h, -, rfl⟩ | ⟨-, -, rfl, rfl⟩
    · exact (pw_bit D0 (by omega) t ht).1
    · rw [Nat.zero_div]
      constructor
      · intro h; exact absurd h (by decide)
      · intro h; omega
  refine e_46 (f45 (d := d) (z := 15) (D0 := D0) (oc := B) hv (by decide) hx (fun a0 b0 o0 ho0 hr0 => k_46_6 ?_))
  refine lpu (σ := Bool × Nat × (Nat → Int32) × (Nat → Int64) × (Nat → Int64)) n (fun u z => cW cd_46 (d + 2) Q 8 [some (.ref 256), some (.int x1), some (.int (nI n)), some (.int (nI u))] [] (mkH (cx hi s z.2.2.1 m p q g) (lx hl z.2.2.2.1 z.2.2.2.2) z.1 kp))
    (fun u z => (z.2.2.1 12 = nI z.2.1 ∧ z.2.1 < 256 ∧ z.2.2.1 13 = sc 15 ∧ z.2.2.1 14 = sc 15) ∧ (∀ t y, t < 8 → y < 31 → lrow z.1 z.2.2.2.1 z.2.2.2.2 (t * 31 + y) = lN (if y = 15 ∧ t < 8 then od V hi bb H D0 u t else 0)) ∧ (∀ t, t < vP V → z.2.1 / 2 ^ t % 2 = 1 → NR V hi B u t) ∧ (∀ t, t < 8 → od V hi bb H D0 u t ≠ 0 → z.2.1 / 2 ^ t % 2 = 1)) ?_ ?_ n 0 (sw, B, o0, a0, b0) (Nat.zero_add n) ⟨⟨ho0.1, hBl, ho0.2.1, ho0.2.2.1⟩, fun t y ht hy => ?_, fun t ht h => h, fun t ht h => ?_⟩
  · intro z ⟨h1, h2, h3, h4⟩
    refine k_46_8 (fun _ => w' z.1 z.2.2.1 z.2.2.2.1 z.2.2.2.2 (fun t ht => ?_)) (fun c => absurd (Int32.le_refl _) c) (fun c => absurd (Int32.le_refl _) c)
    rw [h2 t 15 (by omega) (by decide), if_pos ⟨rfl, by omega⟩]
  · intro u z hu ⟨⟨h1, h1b, h1c, h1d⟩, h2, h3, h4⟩ ih
    refine k_46_8 (fun c => absurd c (nI_ge hu (by omega))) (fun _ c => absurd c (nI_ge (a := u) (b := 8) (by omega) (by decide))) (fun _ _ => ?_)
    refine f52n (d := d) (B := B) (bb := bb) (H := H) (D0 := D0) hv (by omega) h1 h1b h1c h1d (fun u2 f t hu2 hf hnr ht => hN u2 f t (by omega) hf hnr ht) h3 h2 (fun t ht => od_8 (by omega) ht hD) h4 (fun x oc' a' b' o' k1 k2 k3 k4 => ?_)
    refine k_46_25 ?_
    rw [nI_1]
    exact ih (!z.1, oc', o', a', b') ⟨⟨k1.1, k1.2.1, k1.2.2.2.1, k1.2.2.2.2⟩, k2, k3, k4⟩
  · show lrow sw a0 b0 (t * 31 + y) = _
    rw [hr0 t y ht hy]
    congr 1
    show _ = if y = 15 ∧ t < 8 then (if t = D0 then 1 else 0) else 0
    by_cases c : t = D0 ∧ y = 15
    · rw [if_pos c, if_pos ⟨c.2, ht⟩, if_pos c.1]
    · rw [if_neg c]
      by_cases c2 : y = 15 ∧ t < 8
      · rw [if_pos c2, if_neg (fun h => c ⟨h, c2.1⟩)]
      · rw [if_neg c2]
  · have h' : (if t = D0 then 1 else 0) ≠ 0 := h
    by_cases c : t = D0
    · exact (hB t ht).mpr c
    · rw [if_neg c] at h'
      exact absurd rfl h'
theorem f47 {t : Nat} (hv : R_vil V hi) (ht : t < vP V) {x : Int64} (hx : lrow sw a b (t * 31 + 15) = x) (w' : Q (some (.long x)) (mkH (cx hi s o m p q g) (lx hl a b) sw kp)) : cS (d + 2) 47 [.ref 256, .int (nI t)] (mkH (cx hi s o m p q g) (lx hl a b) sw kp) Q := by
  have hb8 := hv.1
  have z1 : ¬ g_108 (cx hi s o m p q g) (nI t) = 0 := by
    rw [g108_in (hi := cx hi s o m p q g) hv.2.1.2.1 hb8.2.1 ht]
    decide
  have ex : nI t * 31 + 15 = nI (t * 31 + 15) := by
    rw [show nI t * 31 = nI (t * 31) from pk_mul t 31]
    exact nI_add _ 15
  cases sw
  · refine e_47f (fun c => absurd c z1) (fun _ => by rw [ex]; exact vp_in_nI (by omega) (by decide)) (fun _ => ?_)
    rw [ex, nI_clamp (by omega)]
    have : (lx hl a b) 261 (t * 31 + 15) = x := hx
    rw [this]
    exact w'
  · refine e_47t (fun c => absurd c z1) (fun _ => by rw [ex]; exact vp_in_nI (by omega) (by decide)) (fun _ => ?_)
    rw [ex, nI_clamp (by omega)]
    have : (lx hl a b) 262 (t * 31 + 15) = x := hx
    rw [this]
    exact w'
/-! the reference -/
theorem f232 {h aa : Int32} {bn gg ff rr ww : Nat → Int32} {u H D0 : Nat} {bb : Nat → Nat} (hv : R_vil V hi) (hpu : R_pul hi) (hHu : H + u ≤ 4000) (eh : h = nI (H + u)) (ea : aa = nI (min 99 (vAg V + (H + u) / vDy V))) (hbn : ∀ t, t < 8 → bn t = nI (bs V bb H u t)) (ho : ∀ t, t < 8 → a t = lN (od V hi bb H D0 u t)) (w' : ∀ (bn' gg' ff' rr' ww' : Nat → Int32) (a' b' : Nat → Int64), (∀ t, t < 8 → bn' t = nI (bs V bb H (u + 1) t)) → (∀ t, t < 8 → a' t = lN (od V hi bb H D0 (u + 1) t)) → Q none (mkH (rx hi (nI (H + (u + 1))) (nI (min 99 (vAg V + (H + (u + 1)) / vDy V))) bn' gg' ff' rr' ww') (ly hl a' b') sw kp)) : cS (d + 7) 232 [.ref 279] (mkH (rx hi h aa bn gg ff rr ww) (ly hl a b) sw kp) Q := by
  have hb8 := hv.1
  subst eh ea
  refine e_232 (f217 (d := d) (bn := bs V bb H u) hv hpu (by omega) (fun t ht => hbn t (by omega)) (fun gg' ff' rr' ww' hww => k_232_4 ?_))
  have e46 : (rx hi (nI (H + u)) (nI (min 99 (vAg V + (H + u) / vDy V))) bn gg' ff' rr' ww') 279 46 = nI (vP V) := hv.2.2.1.2.1
  refine lpu (σ := Nat → Int64) 8 (fun i b => ∀ o2 : Option Value, cW cd_232 (d + 6) Q 6 [some (.ref 279), some (.int (nI i)), o2] [] (mkH (rx hi (nI (H + u)) (nI (min 99 (vAg V + (H + u) / vDy V))) bn gg' ff' rr' ww') (ly hl a b) sw kp)) (fun i b => ∀ t, t < i → b t = lN (od V hi bb H D0 (u + 1) t)) ?_ ?_ 8 0 b rfl (fun t ht => absurd ht (Nat.not_lt_zero t)) none
  · intro b hb o2
    refine k_232_6 (fun _ => ?_) (fun c => absurd (by decide) c) (fun c => absurd (by decide) c)
    refine lpu (σ := Nat → Int64) 8 (fun i a => cW cd_232 (d + 6) Q 71 [some (.ref 279), some (.int (nI i)), o2] [] (mkH (rx hi (nI (H + u)) (nI (min 99 (vAg V + (H + u) / vDy V))) bn gg' ff' rr' ww') (ly hl a b) sw kp)) (fun i a => ∀ t, t < i → a t = lN (od V hi bb H D0 (u + 1) t)) ?_ ?_ 8 0 a rfl (fun t ht => absurd ht (Nat.not_lt_zero t))
    · intro a ha
      refine k_232_71 (fun _ => ?_) (fun c => absurd (by decide) c) (fun c => absurd (by decide) c)
      refine f212 (d := d + 5) (V := V) (n := H + u) (A := vAg V) (bn := bs V bb H u) (by omega) (by omega) (by omega) hv.2.2.1.2.2.2.2.1 rfl rfl hbn (fun b' hb' => k_232_99 ?_)
      exact w' b' gg' ff' rr' ww' a b (fun t ht => by rw [hb' t ht, bs_s (by omega)]) ha
    · intro i a hi8 ha ih
      refine k_232_71 (fun c => absurd c (nI_ge (a := i) (b := 8) hi8 (by decide))) (fun _ => vp_in_nI hi8 (by decide)) (fun _ => ?_)
      rw [nI_clamp (by omega), nI_1]
      refine cW.hl ly_a (ih _ (fun t ht => ?_))
      by_cases c : t = i
      · subst c
        rw [up1_s]
        exact hb t (by omega)
      · rw [up1_n c]
        exact ha t (by omega)
  · intro i b hi8 hb ih o2
    refine k_232_6 (fun c => absurd c (nI_ge (a := i) (b := 8) hi8 (by decide))) (fun _ => vp_in_nI hi8 (by decide)) (fun _ => ?_)
    rw [nI_clamp (by omega)]
    refine cW.hl ly_b ?_
    refine lpu (σ := Nat → Int64) (vP V) (fun j b => cW cd_232 (d + 6) Q 21 [some (.ref 279), some (.int (nI i)), some (.int (nI j))] [] (mkH (rx hi (nI (H + u)) (nI (min 99 (vAg V + (H + u) / vDy V))) bn gg' ff' rr' ww') (ly hl a b) sw kp)) (fun j b => (∀ t, t < i → b t = lN (od V hi bb H D0 (u + 1) t)) ∧ b i = lN (Ts (fun f => od V hi bb H D0 u f * (if i < vP V then WY V hi bb H u f i else 0)) j)) ?_ ?_ (vP V) 0 _ (Nat.zero_add _) ⟨fun t ht => by rw [up1_n (by omega)]; exact hb t ht, up1_s⟩
    · intro b ⟨h1, h2⟩
      refine k_232_21 (fun _ => ?_) (fun c => absurd (by rw [e46]; exact Int32.le_refl _) c) (fun c => absurd (by rw [e46]; exact Int32.le_refl _) c) (fun c => absurd (by rw [e46]; exact Int32.le_refl _) c) (fun c => absurd (by rw [e46]; exact Int32.le_refl _) c)
      rw [nI_1]
      refine ih b (fun t ht => ?_) _
      by_cases c : t = i
      · subst c
        rw [h2]
        congr 1
        show _ = if t < vP V then Ts (fun f => od V hi bb H D0 u f * WY V hi bb H u f t) (vP V) else 0
        by_cases c2 : t < vP V
        · rw [if_pos c2]
          exact Ts_eq _ (fun f _ => by rw [if_pos c2])
        · rw [if_neg c2]
          exact Ts_z _ (fun f _ => by rw [if_neg c2, Nat.mul_zero])
      · exact h1 t (by omega)
    · intro j b hjP ⟨h1, h2⟩ ih2
      have e8 : (8 : Int32) * nI j + nI i = nI (8 * j + i) := by
        rw [show (8 : Int32) = nI 8 from rfl, pk_mul, nI_add]
      refine k_232_21 (fun c => absurd c (by rw [e46]; exact nI_ge hjP (by omega))) (fun _ => vp_in_nI hi8 (by decide)) (fun _ => vp_in_nI (by omega) (by decide)) (fun _ => by rw [e8]; exact vp_in_nI (by omega) (by decide)) (fun _ => ?_)
      rw [e8, nI_clamp (by omega), nI_clamp (by omega), nI_clamp (by omega), nI_1]
      refine cW.hl ly_b (ih2 _ ⟨fun t ht => by rw [up1_n (by omega)]; exact h1 t ht, ?_⟩)
      rw [up1_s]
      have q1 : (ly hl a b) 305 i = b i := by
        show uR _ 305 b 305 i = _
        rw [uR_s]
      have q2 : (ly hl a b) 304 j = a j := by
        show uR hl 304 a 304 j = _
        rw [uR_s]
      have q3 : (rx hi (nI (H + u)) (nI (min 99 (vAg V + (H + u) / vDy V))) bn gg' ff' rr' ww') 302 (8 * j + i) = nI (if i < vP V then WY V hi bb H u j i else 0) := by
        show uR _ 302 ww' 302 _ = _
        rw [uR_s]
        exact hww j i hjP hi8
      have hW : (if i < vP V then WY V hi bb H u j i else 0) ≤ 60 := by
        by_cases c : i < vP V
        · rw [if_pos c]; exact wy_le c
        · rw [if_neg c]; omega
      rw [q1, q2, q3, h2, ho j (by omega), nI_l (by omega), lN_mul, lN_add]
      rfl
theorem f233 {n H D0 : Nat} {bo : Nat → Nat} (hv : R_vil V hi) (hpu : R_pul hi) (hsn : SN V hi H bo) (hn : n ≤ 8) (hD : D0 < vP V) (eD : hi 28 0 = nI D0) (w' : ∀ (h aa : Int32) (bn gg ff rr ww : Nat → Int32) (a' b' : Nat → Int64), (h = nI (H + n) ∧ aa = nI (min 99 (vAg V + (H + n) / vDy V)) ∧ ∀ t, t < 8 → bn t = nI (bs V bo H n t)) → (∀ t, t < 8 → a' t = lN (od V hi bo H D0 n t)) → Q none (mkH (rx hi h aa bn gg ff rr ww) (ly hl a' b') sw kp)) : cS (d + 8) 233 [.ref 279, .int (nI n)] (mkH hi (ly hl a b) sw kp) Q := by
  have hb8 := hv.1
  obtain ⟨n1, n2, n3, n4, n5, n6, n7⟩ := id hsn
  refine e_233 (f211' (d := d + 6) (fun b0 hb0 => k_233_4 ?_))
  rw [n3, n4]
  have e16 : (rx hi (nI H) (nI (min 99 (vAg V + H / vDy V))) b0 (hi 288) (hi 287) (hi 301) (hi 302)) 299 16 = nI D0 := n6.trans eD
  refine lpu (σ := Nat → Int64) 8 (fun i a => cW cd_233 (d + 7) Q 6 [some (.ref 279), some (.int (nI n)), some (.int (nI i))] [] (mkH (rx hi (nI H) (nI (min 99 (vAg V + H / vDy V))) b0 (hi 288) (hi 287) (hi 301) (hi 302)) (ly hl a b) sw kp)) (fun i a => ∀ t, t < i → a t = lN (od V hi bo H D0 0 t)) ?_ ?_ 8 0 a rfl (fun t ht => absurd ht (Nat.not_lt_zero t))
  · intro a ha
    refine k_233_6 (fun _ => ?_) (fun c => absurd (by decide) c) (fun c => absurd (by decide) c) (fun c => absurd (by decide) c) (fun c => absurd (by decide) c)
    refine lpu (σ := (Nat → Int32) × (Nat → Int32) × (Nat → Int32) × (Nat → Int32) × (Nat → Int32) × (Nat → Int64) × (Nat → Int64)) n (fun u z => cW cd_233 (d + 7) Q 42 [some (.ref 279), some (.int (nI n)), some (.int (nI u))] [] (mkH (rx hi (nI (H + u)) (nI (min 99 (vAg V + (H + u) / vDy V))) z.1 z.2.1 z.2.2.1 z.2.2.2.1 z.2.2.2.2.1) (ly hl z.2.2.2.2.2.1 z.2.2.2.2.2.2) sw kp)) (fun u z => (∀ t, t < 8 → z.1 t = nI (bs V bo H u t)) ∧ ∀ t, t < 8 → z.2.2.2.2.2.1 t = lN (od V hi bo H D0 u t)) ?_ ?_ n 0 (b0, hi 288, hi 287, hi 301, hi 302, a, b) (Nat.zero_add n) ⟨fun t ht => ?_, ha⟩
    · intro z ⟨h1, h2⟩
      exact k_233_42 (fun _ => w' _ _ z.1 z.2.1 z.2.2.1 z.2.2.2.1 z.2.2.2.2.1 z.2.2.2.2.2.1 z.2.2.2.2.2.2 ⟨rfl, rfl, h1⟩ h2) (fun c => absurd (Int32.le_refl _) c)
    · intro u z hu ⟨h1, h2⟩ ih
      refine k_233_42 (fun c => absurd c (nI_ge hu (by omega))) (fun _ => f232 (d := d) (u := u) (bb := bo) (D0 := D0) hv hpu (by omega) rfl rfl h1 h2 (fun bn' gg' ff' rr' ww' a' b' k1 k2 => k_233_51 ?_))
      rw [nI_1]
      exact ih (bn', gg', ff', rr', ww', a', b') ⟨k1, k2⟩
    · show b0 t = _
      rw [hb0 t ht, bs_0]
      exact (n5 t ht).2.2
  · intro i a hi8 ha ih
    refine k_233_6 (fun c => absurd c (nI_ge (a := i) (b := 8) hi8 (by decide))) (fun _ _ => vp_in_nI hi8 (by decide)) (fun _ c => ?_) (fun _ _ => vp_in_nI hi8 (by decide)) (fun _ c => ?_)
    · rw [e16] at c
      have hiD : i = D0 := (nI_eq (by omega) (by omega)).mp c
      rw [nI_clamp (by omega), nI_1]
      refine cW.hl ly_a (ih _ (fun t ht => ?_))
      by_cases ct : t = i
      · subst ct
        rw [up1_s]
        show (1 : Int64) = lN (if t = D0 then 1 else 0)
        rw [if_pos hiD]
        rfl
      · rw [up1_n ct]
        exact ha t (by omega)
    · rw [e16] at c
      have hiD : ¬ i = D0 := fun h => c (by rw [h])
      rw [nI_clamp (by omega), nI_1]
      refine cW.hl ly_a (ih _ (fun t ht => ?_))
      by_cases ct : t = i
      · subst ct
        rw [up1_s]
        show (0 : Int64) = lN (if t = D0 then 1 else 0)
        rw [if_neg hiD]
        rfl
      · rw [up1_n ct]
        exact ha t (by omega)
theorem f234 {n : Nat} (hn : n ≤ 8) (w' : Q (some (.long (lN (60 ^ n)))) (mkH hi hl sw kp)) : cS (d + 1) 234 [.int (nI n)] (mkH hi hl sw kp) Q := by
  refine e_234 (lpu (σ := Unit) n (fun i _ => cW cd_234 d Q 4 [some (.int (nI n)), some (.long (lN (60 ^ i))), none, some (.int (nI i))] [] (mkH hi hl sw kp)) (fun _ _ => True) ?_ ?_ n 0 () (Nat.zero_add n) trivial)
  · intro _ _
    exact k_234_4 (fun _ => w') (fun c => absurd (Int32.le_refl _) c)
  · intro i _ hin _ ih
    refine k_234_4 (fun c => absurd c (nI_ge hin (by omega))) (fun _ => ?_)
    rw [nI_1, show (60 : Int64) = lN 60 from rfl, lN_mul, ← Nat.pow_succ]
    exact ih () trivial
theorem gcd_st (x y : Nat) : Nat.gcd x y = Nat.gcd y (x % y) := by
  rw [Nat.gcd_comm x y, Nat.gcd_rec y x, Nat.gcd_comm]
theorem lgp {x : Nat} (h : x < 2 ^ 63) : (0 < lg_cmp (lN x) 0 ↔ 0 < x) ∧ (lg_cmp (lN x) 0 ≤ 0 ↔ x = 0) := by
  rcases Nat.eq_zero_or_pos x with z | z
  · subst z
    have e : lg_cmp (lN 0) 0 = 0 := (lz (by decide)).mpr rfl
    rw [e]
    exact ⟨⟨fun q => absurd q (by decide), fun q => absurd q (by decide)⟩, ⟨fun _ => rfl, fun _ => by decide⟩⟩
  · have e : lg_cmp (lN x) 0 = 1 := by
      unfold lg_cmp
      rw [if_pos (show lN x > (0 : Int64) from (pk_lLT (a := 0) (by decide) h).mpr z)]
    rw [e]
    exact ⟨⟨fun _ => z, fun _ => by decide⟩, ⟨fun q => absurd q (by decide), fun q => by omega⟩⟩
theorem ln0 {x : Nat} (h : x < 2 ^ 63) (h0 : 0 < x) : ¬ lN x = 0 := fun q => by
  have := (pk_lEQ (b := 0) h (by decide)).mp q
  omega
theorem f161 {x y : Nat} (hx : x < 2 ^ 63) (hy : y < 2 ^ 48) (w' : Q (some (.long (lN (Nat.gcd x y)))) (mkH hi hl sw kp)) : cS (d + 1) 161 [.long (lN x), .long (lN y)] (mkH hi hl sw kp) Q := by
  have lp : ∀ k x y i : Nat, x < 2 ^ 63 → y < 2 ^ k → k ≤ 48 → i + 2 * k + 1 < 200 → Q (some (.long (lN (Nat.gcd x y)))) (mkH hi hl sw kp) → ∀ o5 : Option Value, cW cd_161 d Q 3 [some (.long (lN x)), none, some (.long (lN y)), none, some (.int (nI i)), o5, none] [] (mkH hi hl sw kp) := by
    intro k
    induction k with
    | zero =>
      intro x y i hx hy hk hi' w o5
      have : y = 0 := by omega
      subst this
      rw [Nat.gcd_zero_right] at w
      exact k_161_3 (fun _ => w) (fun _ _ => w) (fun _ c => absurd ((lz (by decide)).mpr rfl) c) (fun _ c => absurd ((lz (by decide)).mpr rfl) c)
    | succ k ih =>
      intro x y i hx hy hk hi' w o5
      have p48 : (2 : Nat) ^ (k + 1) ≤ 2 ^ 48 := Nat.pow_le_pow_right (by decide) hk
      have y63 : y < 2 ^ 63 := by omega
      have c200 : ∀ j, j ≤ i + 1 → ¬ (200 : Int32) ≤ nI j := fun j hj => nI_ge (b := 200) (by omega) (by decide)
      by_cases y0 : y = 0
      · subst y0
        rw [Nat.gcd_zero_right] at w
        exact k_161_3 (fun _ => w) (fun _ _ => w) (fun _ c => absurd ((lz (by decide)).mpr rfl) c) (fun _ c => absurd ((lz (by decide)).mpr rfl) c)
      · have ny : ¬ lg_cmp (lN y) 0 = 0 := fun q => y0 ((lz y63).mp q)
        refine k_161_3 (fun c => absurd c (c200 i (by omega))) (fun _ c => absurd c ny) (fun _ _ => ln0 y63 (by omega)) (fun _ _ => ?_)
        rw [pk_lRem hx (by omega) y63, nI_1]
        rw [gcd_st] at w
        have hr : x % y < y := Nat.mod_lt _ (by omega)
        by_cases r0 : x % y = 0
        · rw [r0] at w ⊢
          rw [Nat.gcd_zero_right] at w
          exact k_161_3 (fun _ => w) (fun _ _ => w) (fun _ c => absurd ((lz (by decide)).mpr rfl) c) (fun _ c => absurd ((lz (by decide)).mpr rfl) c)
        · have nr : ¬ lg_cmp (lN (x % y)) 0 = 0 := fun q => r0 ((lz (by omega)).mp q)
          refine k_161_3 (fun c => absurd c (c200 (i + 1) (by omega))) (fun _ c => absurd c nr) (fun _ _ => ln0 (by omega) (by omega)) (fun _ _ => ?_)
          rw [pk_lRem y63 (by omega) (by omega), nI_1]
          rw [gcd_st] at w
          have hr2 : y % (x % y) < x % y := Nat.mod_lt _ (by omega)
          have hr3 : y % (x % y) + x % y ≤ y := by
            have h1 := Nat.div_add_mod y (x % y)
            have h2 : 1 ≤ y / (x % y) := (Nat.le_div_iff_mul_le (by omega)).mpr (by omega)
            have h3 : x % y * 1 ≤ x % y * (y / (x % y)) := Nat.mul_le_mul_left _ h2
            omega
          have hp2 : (2 : Nat) ^ (k + 1) = 2 * 2 ^ k := by rw [Nat.pow_succ, Nat.mul_comm]
          exact ih (x % y) (y % (x % y)) (i + 1 + 1) (by omega) (by omega) (by omega) (by omega) w _
  exact e_161 (lp 48 x y 0 hx hy (by decide) (by decide) w' none)
theorem f235 {x y : Nat} {x0 x2 : Int64} (hx : x < 2 ^ 63) (hy : y < 2 ^ 63) (w' : Q (some (.long (lN (Nat.gcd x y)))) (mkH hi hl sw kp)) : ∀ o8 : Option Value, cW cd_235 d Q 6 [some (.long x0), none, some (.long x2), none, some (.long (lN x)), none, some (.long (lN y)), none, o8, none] [] (mkH hi hl sw kp) := by
  have lp : ∀ n x y : Nat, y < n → x < 2 ^ 63 → y < 2 ^ 63 → Q (some (.long (lN (Nat.gcd x y)))) (mkH hi hl sw kp) → ∀ o8 : Option Value, cW cd_235 d Q 6 [some (.long x0), none, some (.long x2), none, some (.long (lN x)), none, some (.long (lN y)), none, o8, none] [] (mkH hi hl sw kp) := by
    intro n
    induction n with
    | zero => intro x y h; exact absurd h (Nat.not_lt_zero y)
    | succ n ih =>
      intro x y h hx hy w o8
      by_cases y0 : y = 0
      · subst y0
        rw [Nat.gcd_zero_right] at w
        exact k_235_6 (fun _ => w) (fun c => absurd ((lgp (by decide)).2.mpr rfl) c) (fun c => absurd ((lgp (by decide)).2.mpr rfl) c)
      · have hr : x % y < y := Nat.mod_lt _ (by omega)
        refine k_235_6 (fun c => absurd ((lgp hy).2.mp c) y0) (fun _ => ln0 hy (by omega)) (fun _ => ?_)
        rw [pk_lRem hx (by omega) hy]
        rw [gcd_st] at w
        exact ih y (x % y) (by omega) hy (by omega) w _
  exact lp (y + 1) x y (by omega) hx hy w'
/-- a part of u of l in lowest terms -/
def prt (u l : Nat) (x : Int32) : Nat := if x = 0 then u / Nat.gcd u l else l / Nat.gcd u l
theorem f160 {u l : Nat} {x : Int32} (hu : u < 2 ^ 63) (hl0 : 0 < l) (hl2 : l < 2 ^ 48) (w' : Q (some (.long (lN (prt u l x)))) (mkH hi hl sw kp)) : cS (d + 2) 160 [.long (lN u), .long (lN l), .int x] (mkH hi hl sw kp) Q := by
  have hg : 0 < Nat.gcd u l := Nat.gcd_pos_of_pos_right u hl0
  have hg2 : Nat.gcd u l ≤ l := Nat.gcd_le_right u hl0
  refine e_160 (f161 (d := d) hu hl2 (k_160_5 (fun _ _ => ln0 (by omega) hg) (fun _ c => ?_) (fun _ _ => ln0 (by omega) hg) (fun _ c => ?_) (fun c => absurd ((lgp (by omega)).1.mpr hg) c)))
  · unfold prt at w'
    rw [if_pos c] at w'
    rw [pk_lDiv hu hg (by omega)]
    exact w'
  · unfold prt at w'
    rw [if_neg c] at w'
    rw [pk_lDiv (by omega) hg (by omega)]
    exact w'
theorem f236 {u l : Nat} {x : Int32} (hu : u < 2 ^ 63) (hl0 : 0 < l) (hl2 : l < 2 ^ 48) (w' : Q (some (.long (lN (prt u l x)))) (mkH hi hl sw kp)) : cS (d + 2) 236 [.long (lN u), .long (lN l), .int x] (mkH hi hl sw kp) Q := by
  have hg : 0 < Nat.gcd u l := Nat.gcd_pos_of_pos_right u hl0
  have hg2 : Nat.gcd u l ≤ l := Nat.gcd_le_right u hl0
  refine e_236 (e_235 (f235 (x := l) (y := u) (by omega) hu ?_ none))
  rw [Nat.gcd_comm]
  refine k_236_5 (fun _ => ln0 (by omega) hg) (fun c => ?_) (fun _ => ln0 (by omega) hg) (fun c => ?_)
  · unfold prt at w'
    rw [if_pos c] at w'
    rw [pk_lDiv hu hg (by omega)]
    exact w'
  · unfold prt at w'
    rw [if_neg c] at w'
    rw [pk_lDiv (by omega) hg (by omega)]
    exact w'
end ODDS
