/-! ===== rows of bones to lay: their order, the reference's nextRow, canLay, loadMore ===== -/
section ROWS
variable {d : Nat} {Q : am_Q} {hi : Nat → Nat → Int32} {hl : Nat → Nat → Int64} {sw : Bool} {kp : Nat → Nat} {V : vN}
def cmj (C : Nat → List (List Nat)) (k : Nat) : Nat → List (List Nat)
  | 0 => (C k).map (List.cons 0)
  | j + 1 => (C (k - (j + 1))).map (List.cons (j + 1)) ++ cmj C k j
/-- all rows of r places with k bones, the greatest first -/
def cmps : Nat → Nat → List (List Nat)
  | 0, k => if k = 0 then [[]] else []
  | r + 1, k => cmj (cmps r) k k
def rwf (l : List Nat) (j : Nat) : Nat := l.getD j 0
def fz (m : Nat → Nat) : Nat → Option Nat
  | 0 => none
  | n + 1 => if m n = 0 then fz m n else some n
def nxr (P : Nat) (m : Nat → Nat) (i : Nat) : Nat → Nat := fun j => if j < i then m j else if j = i then m i - 1 else if j = i + 1 then 1 + Ts (fun q => m (i + 1 + q)) (P - (i + 1)) else if j < P then 0 else m j
def l8 (m : Nat → Nat) : List Nat := (List.range 8).map m
def eqr (m m' : Nat → Nat) : Bool := l8 m == l8 m'
theorem eqr_at {m m' : Nat → Nat} (h : eqr m m' = true) {j : Nat} (hj : j < 8) : m j = m' j := by
  have h1 : l8 m = l8 m' := eq_of_beq h
  have h2 : (l8 m)[j]? = (l8 m')[j]? := by rw [h1]
  unfold l8 at h2
  rw [List.getElem?_map, List.getElem?_map, List.getElem?_range hj] at h2
  exact Option.some.inj h2
def chn (P : Nat) : List Nat → List (List Nat) → Bool
  | l, [] => (fz (rwf l) (P - 1)).isNone
  | l, l' :: L => (match fz (rwf l) (P - 1) with | none => false | some i => eqr (nxr P (rwf l) i) (rwf l')) && chn P l' L
def k0 (k : Nat) : Nat → Nat := fun j => if j = 0 then k else 0
def chk (P k : Nat) : Bool := match cmps P k with | [] => P == 0 && !(k == 0) | l :: L => !(P == 0 && !(k == 0)) && eqr (k0 k) (rwf l) && chn P l L && (l :: L).all (fun l => l.length == P && (List.range 8).all (fun j => decide (rwf l j ≤ k)))
theorem chk_ok : ∀ P, P < 9 → ∀ k, k < 5 → chk P k = true := by decide +kernel
def oks (bo : Nat → Nat) : Nat → (Nat → Nat) → Bool
  | 0, _ => true
  | n + 1, m => oks bo n m && decide (bo n + m n ≤ 9)
theorem oks_iff {bo m : Nat → Nat} : ∀ n, oks bo n m = true ↔ ∀ j, j < n → bo j + m j ≤ 9
  | 0 => ⟨fun _ j hj => absurd hj (Nat.not_lt_zero j), fun _ => rfl⟩
  | n + 1 => by
    show (oks bo n m && decide (bo n + m n ≤ 9)) = true ↔ _
    rw [Bool.and_eq_true, oks_iff n, decide_eq_true_iff]
    constructor
    · intro ⟨h1, h2⟩ j hj
      by_cases c : j = n
      · subst c; exact h2
      · exact h1 j (by omega)
    · intro h
      exact ⟨fun j hj => h j (by omega), h n (by omega)⟩
abbrev Bst : Type := Option (Nat × List Nat)
def stb (F : List Nat → Nat) (s : Bst) (l : List Nat) : Bst := match s with
  | none => some (F l, l)
  | some (v, b) => if v < F l then some (F l, l) else some (v, b)
def gst (F : List Nat → Nat) (bo : Nat → Nat) (P : Nat) (s : Bst) (l : List Nat) : Bst := if oks bo P (rwf l) = true then stb F s l else s
def bvl : Bst → Int64
  | none => -1
  | some (v, _) => lN v
/-- the best, folded over rows -/
def fbs (F : List Nat → Nat) (bo : Nat → Nat) (P : Nat) (s : Bst) (L : List (List Nat)) : Bst := L.foldl (gst F bo P) s
theorem f251 {P : Nat} {m : Nat → Nat} (hP : P ≤ 8) (e46 : hi 279 46 = nI P) (hm : ∀ j, j < 8 → hi 308 j = nI (m j) ∧ m j ≤ 4) (w0 : fz m (P - 1) = none → Q (some (.int 0)) (mkH hi hl sw kp)) (w1 : ∀ (i : Nat) (r : Nat → Int32), fz m (P - 1) = some i → (∀ j, j < 8 → r j = nI (nxr P m i j)) → Q (some (.int 1)) (mkH (uR hi 308 r) hl sw kp)) : cS (d + 1) 251 [.ref 279] (mkH hi hl sw kp) Q := by
  refine e_251 ?_
  rw [e46]
  rcases Nat.eq_zero_or_pos P with hP0 | hP0
  · subst hP0
    have z : nI 0 - 2 < (0 : Int32) := by decide
    exact k_251_7 (fun _ c => absurd c (by decide)) (fun _ _ => w0 rfl) (fun c => absurd z c) (fun c => absurd z c) (fun c => absurd z c) (fun c => absurd z c)
  · have e1 : nI P - 2 = nI (P - 1) - 1 := by
      rw [show nI (P - 1) = nI P - 1 from (pk_sub (a := P) (b := 1) (by omega)).symm, Int32.sub_sub]
      rfl
    rw [e1]
    have key : ∀ n, n < P → fz m (P - 1) = fz m n → cW cd_251 d Q 7 [some (.ref 279), some (.int (nI n - 1)), none, none] [] (mkH hi hl sw kp) := by
      intro n
      induction n with
      | zero =>
        intro _ hf
        have z : nI 0 - 1 < (0 : Int32) := by decide
        exact k_251_7 (fun _ c => absurd c (by decide)) (fun _ _ => w0 hf) (fun c => absurd z c) (fun c => absurd z c) (fun c => absurd z c) (fun c => absurd z c)
      | succ n ih =>
        intro hn hf
        have e2 : nI (n + 1) - 1 = nI n := pk_sub (a := n + 1) (b := 1) (by omega)
        rw [e2]
        have z : ¬ nI n < (0 : Int32) := nI_pos (by omega)
        have ec : (nI n).toNatClampNeg = n := nI_clamp (by omega)
        obtain ⟨m1, m2⟩ := hm n (by omega)
        refine k_251_7 (fun c => absurd c z) (fun c => absurd c z) (fun _ => vp_in_nI (by omega) (by decide)) (fun _ c => ?_) (fun _ c _ => ?_) (fun _ _ c => absurd (Int32.not_lt.mp z) c)
        · rw [ec, m1] at c
          have m0 : m n = 0 := (nI_eq (b := 0) (by omega) (by decide)).mp c
          rw [show nI n + (-1) = nI n - 1 from (Int32.sub_eq_add_neg ..).symm]
          refine ih (by omega) (hf.trans ?_)
          show (if m n = 0 then fz m n else some n) = _
          rw [if_pos m0]
        · rw [ec, m1] at c
          have m0 : ¬ m n = 0 := fun z => c (by rw [z]; rfl)
          have hf2 : fz m (P - 1) = some n := by
            rw [hf]
            show (if m n = 0 then fz m n else some n) = _
            rw [if_neg m0]
          rw [nI_1]
          refine cW.hi (hi := uR hi 308 (hi 308)) uR_id.symm ?_
          have hT : ∀ k, k ≤ 8 → Ts (fun q => m (n + 1 + q)) k ≤ 100 ∨ 8 < n + 1 + k := by
            intro k
            induction k with
            | zero => intro _; exact Or.inl (Nat.zero_le _)
            | succ k ihk =>
              intro hk
              rcases Nat.lt_or_ge 8 (n + 1 + (k + 1)) with h | h
              · exact Or.inr h
              · left
                have e3 : Ts (fun q => m (n + 1 + q)) (k + 1) ≤ 4 * (k + 1) := by
                  have : ∀ j, j ≤ k + 1 → Ts (fun q => m (n + 1 + q)) j ≤ 4 * j := by
                    intro j
                    induction j with
                    | zero => intro _; exact Nat.le_refl 0
                    | succ j ihj =>
                      intro hj
                      have h1 := ihj (by omega)
                      have h2 := (hm (n + 1 + j) (by omega)).2
                      show Ts (fun q => m (n + 1 + q)) j + m (n + 1 + j) ≤ 4 * (j + 1)
                      omega
                  exact this (k + 1) (Nat.le_refl _)
                omega
          refine lpu (σ := Nat → Int32) (P - (n + 1)) (fun k r => cW cd_251 d Q 38 [some (.ref 279), some (.int (nI n)), some (.int (nI (1 + Ts (fun q => m (n + 1 + q)) k))), some (.int (nI (n + 1 + k)))] [] (mkH (uR hi 308 r) hl sw kp)) (fun k r => ∀ j, j < 8 → r j = nI (if n < j ∧ j < n + 1 + k then 0 else m j)) ?_ ?_ (P - (n + 1)) 0 (hi 308) (Nat.zero_add _) (fun j hj => by rw [if_neg (by omega)]; exact (hm j hj).1)
          · intro r hr
            have e46' : (uR hi 308 r) 279 46 = nI P := by rw [uR_ne (by decide)]; exact e46
            have e5 : n + 1 + (P - (n + 1)) = P := by omega
            rw [e5]
            have hle : (uR hi 308 r) 279 46 ≤ nI P := by rw [e46']; exact Int32.le_refl _
            have hn0 : r n - 1 = nI (m n - 1) := by
              rw [hr n (by omega), if_neg (by omega)]
              exact pk_sub (a := m n) (b := 1) (by omega)
            refine k_251_38 (fun _ => vp_in_nI (by omega) (by decide)) (fun _ => by rw [nI_1]; exact vp_in_nI (by omega) (by decide)) (fun _ => ?_) (fun c => absurd hle c) (fun c => absurd hle c)
            rw [nI_1, ec, nI_clamp (by omega), uR_s, hn0]
            refine qhi (hi := uR hi 308 (up1 (up1 r n (nI (m n - 1))) (n + 1) (nI (1 + Ts (fun q => m (n + 1 + q)) (P - (n + 1)))))) (by rw [u2_in, u2_in]) (w1 n _ hf2 (fun j hj => ?_))
            unfold nxr
            by_cases c1 : j < n
            · rw [if_pos c1, up1_n (by omega), up1_n (by omega), hr j hj, if_neg (by omega)]
            · rw [if_neg c1]
              by_cases c2 : j = n
              · subst c2
                rw [if_pos rfl, up1_n (by omega), up1_s]
              · rw [if_neg c2]
                by_cases c3 : j = n + 1
                · subst c3
                  rw [if_pos rfl, up1_s]
                · rw [if_neg c3, up1_n c3, up1_n c2, hr j hj]
                  by_cases c4 : j < P
                  · rw [if_pos c4, if_pos (by omega)]
                  · rw [if_neg c4, if_neg (by omega)]
          · intro k r hk hr ih2
            have e46' : (uR hi 308 r) 279 46 = nI P := by rw [uR_ne (by decide)]; exact e46
            have hg : ¬ (uR hi 308 r) 279 46 ≤ nI (n + 1 + k) := by rw [e46']; exact nI_ge (by omega) (by omega)
            have e6 : r (n + 1 + k) = nI (m (n + 1 + k)) := by rw [hr _ (by omega), if_neg (by omega)]
            refine k_251_38 (fun c => absurd c hg) (fun c => absurd c hg) (fun c => absurd c hg) (fun _ => vp_in_nI (by omega) (by decide)) (fun _ => ?_)
            have e7 : 1 + Ts (fun q => m (n + 1 + q)) k + m (n + 1 + k) = 1 + Ts (fun q => m (n + 1 + q)) (k + 1) := Nat.add_assoc 1 _ _
            rw [nI_clamp (by omega), uR_s, e6, nI_add, nI_1, e7]
            refine cW.hi u2_in (ih2 _ (fun j hj => ?_))
            by_cases c1 : j = n + 1 + k
            · subst c1
              rw [up1_s, if_pos (by omega)]
              rfl
            · rw [up1_n c1, hr j hj]
              by_cases c2 : n < j ∧ j < n + 1 + k
              · rw [if_pos c2, if_pos (by omega)]
              · rw [if_neg c2, if_neg (by omega)]
    exact key (P - 1) (by omega) rfl
theorem f250 {P : Nat} {m bo : Nat → Nat} (hP : P ≤ 8) (e46 : hi 279 46 = nI P) (hm : ∀ j, j < 8 → hi 308 j = nI (m j) ∧ m j ≤ 4) (hb : ∀ j, j < 8 → bo j ≤ 9 ∧ hi 299 j = nI (bo j)) (w' : Q (some (.int (bif oks bo P m then 1 else 0))) (mkH hi hl sw kp)) : cS (d + 1) 250 [.ref 279] (mkH hi hl sw kp) Q := by
  refine e_250 (lpu (σ := Unit) P (fun i _ => cW cd_250 d Q 4 [some (.ref 279), some (.int (bif oks bo i m then 1 else 0)), some (.int (nI i))] [] (mkH hi hl sw kp)) (fun _ _ => True) ?_ ?_ P 0 () (Nat.zero_add P) trivial)
  · intro _ _
    have hle : hi 279 46 ≤ nI P := by rw [e46]; exact Int32.le_refl _
    refine k_250_4 (fun _ => ?_) (fun _ => w') (fun c => absurd hle c) (fun c => absurd hle c) (fun c => absurd hle c) (fun c => absurd hle c) (fun c => absurd hle c)
    cases oks bo P m
    · exact Or.inl rfl
    · exact Or.inr rfl
  · intro i _ hiP _ ih
    have hg : ¬ hi 279 46 ≤ nI i := by rw [e46]; exact nI_ge hiP (by omega)
    have e0 : (0 : Int32) + nI i = nI i := Int32.zero_add _
    have ec : (nI i).toNatClampNeg = i := nI_clamp (by omega)
    have e9 : hi 299 i + hi 308 i = nI (bo i + m i) := by rw [(hb i (by omega)).2, (hm i (by omega)).1, nI_add]
    have b1 := (hb i (by omega)).1
    have m1 := (hm i (by omega)).2
    have ih2 := ih () trivial
    have es : oks bo (i + 1) m = (oks bo i m && decide (bo i + m i ≤ 9)) := rfl
    rw [es] at ih2
    refine k_250_4 (fun c => absurd c hg) (fun c => absurd c hg) (fun _ c => ?_) (fun _ _ => by rw [e0]; exact vp_in_nI (by omega) (by decide)) (fun _ _ => vp_in_nI (by omega) (by decide)) (fun _ c1 c2 => ?_) (fun _ c1 c2 => ?_)
    · have hf : oks bo i m = false := by
        cases hh : oks bo i m with
        | false => rfl
        | true => rw [hh] at c; exact absurd c (by decide)
      rw [hf] at ih2
      rw [nI_1]
      exact ih2
    · rw [e0, ec, e9] at c2
      have h2 : ¬ bo i + m i ≤ 9 := fun z => absurd c2 (show ¬ (9 : Int32) < nI (bo i + m i) from nI_nlt (a := 9) z (by decide))
      rw [decide_eq_false h2, Bool.and_false] at ih2
      rw [nI_1]
      exact ih2
    · rw [e0, ec, e9] at c2
      have h2 : bo i + m i ≤ 9 := by
        rcases Nat.lt_or_ge 9 (bo i + m i) with z | z
        · exact absurd (show (9 : Int32) < nI (bo i + m i) from nI_lt (a := 9) z (by omega)) c2
        · exact z
      have hf : oks bo i m = true := by
        cases hh : oks bo i m with
        | true => rfl
        | false => rw [hh] at c1; exact absurd rfl c1
      rw [decide_eq_true h2, hf] at ih2
      rw [nI_1]
      exact ih2
theorem f249 {P : Nat} {m bo : Nat → Nat} {h a : Int32} {b g f r w : Nat → Int32} (hP : P ≤ 8) (e46 : hi 279 46 = nI P) (hm : ∀ j, j < 8 → hi 308 j = nI (m j)) (hz : ∀ j, P ≤ j → j < 8 → m j = 0) (hb : ∀ j, j < 8 → hi 299 j = nI (bo j)) (w' : ∀ b' : Nat → Int32, (∀ t, t < 8 → b' t = nI (bo t + m t)) → Q none (mkH (rx hi (hi 299 17) (hi 299 18) b' g f r w) hl sw kp)) : cS (d + 2) 249 [.ref 279] (mkH (rx hi h a b g f r w) hl sw kp) Q := by
  refine e_249 (f211 (d := d) (fun b' hb' => k_249_4 ?_))
  have e46' : ∀ b', (rx hi (hi 299 17) (hi 299 18) b' g f r w) 279 46 = nI P := fun b' => e46
  refine lpu (σ := Nat → Int32) P (fun i b' => cW cd_249 (d + 1) Q 6 [some (.ref 279), some (.int (nI i))] [] (mkH (rx hi (hi 299 17) (hi 299 18) b' g f r w) hl sw kp)) (fun i b' => ∀ t, t < 8 → b' t = nI (bo t + if t < i then m t else 0)) ?_ ?_ P 0 b' (Nat.zero_add P) (fun t ht => by rw [hb' t ht, if_neg (by omega)]; exact hb t ht)
  · intro b' h1
    refine k_249_6 (fun _ => w' b' (fun t ht => ?_)) (fun c => absurd (by rw [e46']; exact Int32.le_refl _) c) (fun c => absurd (by rw [e46']; exact Int32.le_refl _) c)
    rw [h1 t ht]
    by_cases c : t < P
    · rw [if_pos c]
    · rw [if_neg c, hz t (by omega) ht]
  · intro i b' hiP h1 ih
    have ec : (nI i).toNatClampNeg = i := nI_clamp (by omega)
    have x300 : (rx hi (hi 299 17) (hi 299 18) b' g f r w) 300 i = b' i := rfl
    have x308 : (rx hi (hi 299 17) (hi 299 18) b' g f r w) 308 i = hi 308 i := rx_UR (by unfold UR; omega)
    refine k_249_6 (fun c => absurd c (by rw [e46']; exact nI_ge hiP (by omega))) (fun _ => vp_in_nI (by omega) (by decide)) (fun _ => ?_)
    rw [ec, x300, x308, h1 i (by omega), hm i (by omega), nI_add, nI_1]
    refine cW.hi rx_300 (ih _ (fun t ht => ?_))
    by_cases c : t = i
    · subst c
      rw [up1_s, if_neg (by omega), if_pos (by omega)]
      rfl
    · rw [up1_n c, h1 t ht]
      by_cases c2 : t < i
      · rw [if_pos c2, if_pos (by omega)]
      · rw [if_neg c2, if_neg (by omega)]
end ROWS
