/-! ===== tokens: the class's reader ===== -/
section TOKC
variable {d : Nat} {Q : am_Q} {hi : Nat → Nat → Int32} {hl : Nat → Nat → Int64} {sw : Bool} {kp : Nat → Nat}
/-- the words of the language, each with its last letter first -/
def OWs : List (List Nat) := [[4, 5, 5, 4], [5, 3, 1, 12, 16], [8, 20, 1, 16], [5, 19, 1, 3], [14, 5, 8, 23], [12, 12, 21, 16], [25, 1, 4], [19, 18, 1, 5, 8], [20, 18, 1, 20, 19], [5, 7, 1], [23, 1, 18, 4], [12, 12, 5, 13, 19], [19, 5, 15, 4], [15, 20], [18, 1, 2], [18, 15], [4, 14, 1], [20, 15, 14], [19, 5, 14, 15, 2], [18, 21, 15, 8], [5, 18, 5, 8]]
def OW (i : Nat) : List Nat := OWs.getD i []
theorem OW_W : ∀ i, i < 21 → rd_W i = lN (w5 (OW i)) := by decide +kernel
theorem OW_l : ∀ i, i < 21 → w5 (OW i) < 2 ^ 62 ∧ (OW i).all (fun x => decide (1 ≤ x) && decide (x ≤ 26)) = true := by decide +kernel
theorem OW_in : ∀ i, i < 21 → ∀ j, j < 21 → OW i = OW j → i = j := by decide +kernel
theorem OW_r {i : Nat} (h : i < 21) : ltr (OW i) := fun x hx => by
  have := List.all_eq_true.mp (OW_l i h).2 x hx
  rw [Bool.and_eq_true, decide_eq_true_iff, decide_eq_true_iff] at this
  exact this
/-- the kind of a word -/
def KW (l : List Nat) (k : Int32) : Prop := (∃ i, i < 21 ∧ OW i = l ∧ k = nI (200 + i)) ∨ ((∀ i, i < 21 → OW i ≠ l) ∧ k = 2)
theorem lg_eq {a b : Nat} (ha : a < 2 ^ 63) (hb : b < 2 ^ 63) : lg_cmp (lN a) (lN b) = 0 ↔ a = b := by
  unfold lg_cmp
  rcases Nat.lt_trichotomy a b with h | h | h
  · rw [if_neg (fun q => by have := (pk_lLT hb ha).mp q; omega), if_neg (fun q => by have := (pk_lEQ ha hb).mp q; omega)]
    exact ⟨fun q => absurd q (by decide), fun q => by omega⟩
  · subst h
    rw [if_neg (fun q => by have := (pk_lLT ha ha).mp q; omega), if_pos rfl]
    exact ⟨fun _ => rfl, fun _ => rfl⟩
  · rw [if_pos (show lN a > lN b from (pk_lLT hb ha).mpr h)]
    exact ⟨fun q => absurd q (by decide), fun q => by omega⟩
theorem f70 {l : List Nat} (h4 : ∀ j, j < 21 → hl 4 j = rd_W j) (hl8 : ltr l) (hw : w5 l < 2 ^ 62) (w' : ∀ k, KW l k → Q (some (.int k)) (mkH hi hl sw kp)) : cS (d + 1) 70 [.ref 3, .long (lN (w5 l))] (mkH hi hl sw kp) Q := by
  refine e_70 (lpu (σ := Unit) 21 (fun i _ => cW cd_70 d Q 2 [some (.ref 3), some (.long (lN (w5 l))), none, some (.int (nI i))] [] (mkH hi hl sw kp)) (fun i _ => ∀ j, j < i → OW j ≠ l) ?_ ?_ 21 0 () rfl (fun j hj => absurd hj (Nat.not_lt_zero j)))
  · intro _ h
    exact k_70_2 (fun _ => w' 2 (Or.inr ⟨h, rfl⟩)) (fun c => absurd (by decide) c) (fun c => absurd (by decide) c) (fun c => absurd (by decide) c)
  · intro i _ hi21 h ih
    have hg : ¬ (21 : Int32) ≤ nI i := nI_ge (a := i) (b := 21) hi21 (by decide)
    have e4 : hl 4 (nI i).toNatClampNeg = lN (w5 (OW i)) := by rw [nI_clamp (by omega), h4 i hi21, OW_W i hi21]
    have hb := (OW_l i hi21).1
    refine k_70_2 (fun c => absurd c hg) (fun _ => vp_in_nI (by omega) (by decide)) (fun _ c => ?_) (fun _ c => ?_)
    · rw [e4, lg_eq (by omega) (by omega)] at c
      rw [show (200 : Int32) + nI i = nI (200 + i) from nI_add 200 i]
      exact w' _ (Or.inl ⟨i, hi21, w5_in _ _ (OW_r hi21) hl8 c, rfl⟩)
    · rw [e4, lg_eq (by omega) (by omega)] at c
      rw [nI_1]
      refine ih () (fun j hj => ?_)
      by_cases hji : j = i
      · subst hji
        exact fun z => c (by rw [z])
      · exact h j (by omega)
/-- the reader's tape -/
def TP (n : Nat) (f : Nat → Int32) (hi : Nat → Nat → Int32) : Prop := n ≤ 1600 ∧ hi 1 1 = nI n ∧ ∀ j, j < n → hi 2 j &&& 255 = f j
theorem TP.b {n : Nat} {f : Nat → Int32} (h : TP n f hi) {j : Nat} (hj : j ≤ 5000) : g_88 hi (nI j) = byt n f j := g88 h.1 h.2.1 h.2.2 hj
/-- the token at a: where it begins, sort, letters, number, where the next may begin -/
def TKN (b : Nat → Int32) (a p s : Nat) (l : List Nat) (v e : Nat) : Prop := RUN g_74 b a p ∧
  ((s = 0 ∧ b p = -1 ∧ e = p) ∨
   (¬ g_75 (b p) = 0 ∧ ∃ q, RUN g_75 b p q ∧ ((8 < q - p ∧ s = 3) ∨ (q - p ≤ 8 ∧ s = 1 ∧ l = lts b p (q - p) ∧ e = q))) ∨
   (g_75 (b p) = 0 ∧ ¬ g_76 (b p) = 0 ∧ ∃ q, RUN g_76 b p q ∧ (((4 < q - p ∨ ¬ g_75 (b q) = 0) ∧ s = 3) ∨ (q - p ≤ 4 ∧ g_75 (b q) = 0 ∧ s = 2 ∧ v = dgs b p (q - p) ∧ e = q))) ∨
   (¬ b p = -1 ∧ g_75 (b p) = 0 ∧ g_76 (b p) = 0 ∧ g_77 (b p) = 0 ∧ s = 3) ∨
   (¬ b p = -1 ∧ g_75 (b p) = 0 ∧ g_76 (b p) = 0 ∧ ¬ g_77 (b p) = 0 ∧ b p = nI s ∧ 32 < s ∧ s < 64 ∧ e = p + 1))
/-- the class holds it -/
def CT (hi : Nat → Nat → Int32) (hl : Nat → Nat → Int64) (p s : Nat) (l : List Nat) (v e : Nat) : Prop :=
  hi 3 3 = nI p ∧ (s = 0 → hi 3 2 = 0) ∧ (s = 1 → KW l (hi 3 2) ∧ hl 3 5 = lN (w5 l)) ∧ (s = 2 → hi 3 2 = 3 ∧ hi 3 4 = nI v) ∧ (s = 3 → hi 3 2 = 1) ∧ (3 < s → hi 3 2 = nI s) ∧ (s ≠ 3 → hi 3 6 = nI e)
def FT (hi' hi : Nat → Nat → Int32) (hl' hl : Nat → Nat → Int64) : Prop := (∀ c j, ¬ (c = 3 ∧ 2 ≤ j ∧ j ≤ 6) → hi' c j = hi c j) ∧ (∀ c, c ≠ 3 → hl' c = hl c)
theorem FT.tp {n : Nat} {f : Nat → Int32} {hi' : Nat → Nat → Int32} {hl' : Nat → Nat → Int64} (e : FT hi' hi hl' hl) (h : TP n f hi) : TP n f hi' := ⟨h.1, by rw [e.1 1 1 (by omega)]; exact h.2.1, fun j hj => by rw [e.1 2 j (by omega)]; exact h.2.2 j hj⟩
theorem byt_z {n j : Nat} {f : Nat → Int32} (h : n ≤ j) : byt n f j = -1 := if_neg (by omega)
theorem lts_min {b : Nat → Int32} {p k : Nat} (h : k ≤ 8) : lts b p (min k 8) = lts b p k := by rw [Nat.min_eq_left h]
theorem lt_w {b : Nat → Int32} {p k : Nat} (h : ¬ g_75 (b (p + k)) = 0) : w5 (lts b p (k + 1)) = w5 (lts b p k) * 32 + ((b (p + k)).toNatClampNeg - 96) ∧ ((b (p + k) - 97) + 1).toInt64 = lN ((b (p + k)).toNatClampNeg - 96) := by
  obtain ⟨x, x1, x2, x3⟩ := let_v h
  refine ⟨rfl, ?_⟩
  rw [x3, nI_clamp (by omega), show nI (x + 96) - 97 = nI (x + 96) - nI 97 from rfl]
  have : nI (x + 96) - nI 97 + 1 = nI x := by
    rw [pk_sub (by omega), nI_1]
    congr 1
    omega
  rw [this, nI_l (by omega)]
  congr 1
theorem f68 {n p : Nat} {f : Nat → Int32} (ht : TP n f hi) (h4 : ∀ j, j < 21 → hl 4 j = rd_W j) (hp : p < n) (e3 : hi 3 3 = nI p) (e6 : hi 3 6 = nI p) (w' : ∀ (hi' : Nat → Nat → Int32) (hl' : Nat → Nat → Int64) (q : Nat), RUN g_75 (byt n f) p q → q ≤ n → FT hi' hi hl' hl → hi' 3 3 = nI p → hi' 3 6 = nI q → ((8 < q - p ∧ hi' 3 2 = 1) ∨ (q - p ≤ 8 ∧ KW (lts (byt n f) p (q - p)) (hi' 3 2) ∧ hl' 3 5 = lN (w5 (lts (byt n f) p (q - p))))) → Q none (mkH hi' hl' sw kp)) : cS (d + 3) 68 [.ref 3] (mkH hi hl sw kp) Q := by
  obtain ⟨t1, t2, t3⟩ := id ht
  have h32 : ∀ m, m ≤ 8 → 32 ^ m ≤ 32 ^ 8 := fun m hm => Nat.pow_le_pow_right (by decide) hm
  refine e_68 (cW.hi (hi := u2 hi 3 6 (nI p)) (by rw [← e6, u2_id]) (lpu (σ := Unit) (n - p) (fun k _ => cW cd_68 (d + 2) Q 5 [some (.ref 3)] [] (mkH (u2 hi 3 6 (nI (p + k))) (u2 hl 3 5 (lN (w5 (lts (byt n f) p (min k 8))))) sw kp)) (fun k _ => ∀ j, p ≤ j → j < p + k → ¬ g_75 (byt n f j) = 0) ?_ ?_ (n - p) 0 () (Nat.zero_add _) (fun j a1 a2 => absurd a2 (by omega))))
  all_goals
    have x6 : ∀ k, (u2 hi 3 6 (nI (p + k))) 3 6 = nI (p + k) := fun k => u2_s
    have x3 : ∀ k, (u2 hi 3 6 (nI (p + k))) 3 3 = nI p := fun k => by rw [u2_nn (by decide)]; exact e3
    have x1 : ∀ k, (u2 hi 3 6 (nI (p + k))) 1 1 = nI n := fun k => by rw [u2_row_ne (by decide)]; exact t2
    have xd : ∀ k, k ≤ 2000 → nI (p + k) - nI p = nI k := fun k hk => by
      rw [pk_sub (by omega)]
      congr 1
      omega
    have xb : ∀ k, p + k ≤ 5000 → g_88 (u2 hi 3 6 (nI (p + k))) (nI (p + k)) = byt n f (p + k) := fun k hk => TP.b (hi := u2 hi 3 6 (nI (p + k))) ⟨t1, x1 k, fun j hj => by rw [u2_row_ne (by decide)]; exact t3 j hj⟩ hk
    have done : ∀ k, k ≤ n - p → (∀ j, p ≤ j → j < p + k → ¬ g_75 (byt n f j) = 0) → g_75 (byt n f (p + k)) = 0 → (nI (p + k) - nI p ≤ 8 → cS (d + 2) 70 [.ref 3, .long ((u2 hl 3 5 (lN (w5 (lts (byt n f) p (min k 8))))) 3 5)] (mkH (u2 hi 3 6 (nI (p + k))) (u2 hl 3 5 (lN (w5 (lts (byt n f) p (min k 8))))) sw kp) (am_ret (cW cd_68 (d + 2) Q) 120 [some (.ref 3)] [(.ref 3)])) ∧ (¬ nI (p + k) - nI p ≤ 8 → cW cd_68 (d + 2) Q 120 [some (.ref 3)] [(.int 1), (.ref 3)] (mkH (u2 hi 3 6 (nI (p + k))) (u2 hl 3 5 (lN (w5 (lts (byt n f) p (min k 8))))) sw kp)) := by
      intro k hk hI hend
      have hrun : RUN g_75 (byt n f) p (p + k) := ⟨by omega, hI, hend⟩
      have hft : ∀ y, FT (u2 (u2 hi 3 6 (nI (p + k))) 3 2 y) hi (u2 hl 3 5 (lN (w5 (lts (byt n f) p (min k 8))))) hl := fun y => ⟨fun c j h => by rw [u2_nn (by omega), u2_nn (by omega)], fun c h => by rw [u2_row_ne h]⟩
      refine ⟨fun cc => ?_, fun cc => ?_⟩
      · rw [xd k (by omega)] at cc
        have hk8 : k ≤ 8 := (nI_leI (b := 8) (by omega) (by decide)).mp cc
        obtain ⟨l1, l2⟩ := lts_ok (b := byt n f) (p := p) k hI
        have hw := w5_lt _ l1
        have h8 := h32 k hk8
        rw [l2] at hw
        rw [u2_s, Nat.min_eq_left hk8]
        refine f70 (d := d + 1) (fun j hj => by rw [u2_row_ne (by decide)]; exact h4 j hj) l1 (Nat.lt_of_lt_of_le hw (Nat.le_trans h8 (by decide))) (fun y hy => k_68_120 ?_)
        have := hft y
        rw [Nat.min_eq_left hk8] at this
        refine w' _ _ (p + k) hrun (by omega) this (by rw [u2_nn (by decide)]; exact x3 k) (by rw [u2_nn (by decide)]; exact x6 k) (Or.inr ⟨by omega, ?_, ?_⟩)
        · rw [show p + k - p = k by omega, u2_s]
          exact hy
        · rw [show p + k - p = k by omega, u2_s]
      · rw [xd k (by omega)] at cc
        have hk8 : ¬ k ≤ 8 := fun z => cc (nI_le (b := 8) z (by decide))
        exact k_68_120 (w' _ _ (p + k) hrun (by omega) (hft 1) (by rw [u2_nn (by decide)]; exact x3 k) (by rw [u2_nn (by decide)]; exact x6 k) (Or.inl ⟨by omega, u2_s⟩))
  · intro _ hI
    have hle : (u2 hi 3 6 (nI (p + (n - p)))) 1 1 ≤ (u2 hi 3 6 (nI (p + (n - p)))) 3 6 := by
      rw [x1, x6]
      exact nI_le (by omega) (by omega)
    obtain ⟨q1, q2⟩ := done (n - p) (Nat.le_refl _) hI (by rw [byt_z (by omega)]; decide)
    refine k_68_5 ?_ ?_ (fun c => absurd hle c) (fun c => absurd hle c) (fun c => absurd hle c) (fun c => absurd hle c)
    · rw [x6, x3]
      exact fun _ c => q1 c
    · rw [x6, x3]
      exact fun _ c => q2 c
  · intro k _ hk hI ih
    have hg : ¬ (u2 hi 3 6 (nI (p + k))) 1 1 ≤ (u2 hi 3 6 (nI (p + k))) 3 6 := by
      rw [x1, x6]
      exact nI_ge (by omega) (by omega)
    refine k_68_5 (fun c => absurd c hg) (fun c => absurd c hg) ?_ ?_ ?_ ?_ <;> rw [x6, x3, xb k (by omega)]
    · exact fun _ c1 c2 => (done k (by omega) hI c1).1 c2
    · exact fun _ c1 c2 => (done k (by omega) hI c1).2 c2
    · intro _ c1 c2
      rw [xd k (by omega)] at c2
      have hk8 : 8 ≤ k := (nI_leI (a := 8) (by decide) (by omega)).mp c2
      have := ih () (fun j a1 a2 => by
        by_cases c : j = p + k
        · subst c; exact c1
        · exact hI j a1 (by omega))
      rw [Nat.min_eq_right (by omega)] at this ⊢
      rw [nI_1]
      refine cW.hi (by rw [u2_u2]; rfl) this
    · intro _ c1 c2
      rw [xd k (by omega)] at c2
      have hk8 : k < 8 := by
        rcases Nat.lt_or_ge k 8 with z | z
        · exact z
        · exact absurd (nI_le (a := 8) z (by omega)) c2
      have := ih () (fun j a1 a2 => by
        by_cases c : j = p + k
        · subst c; exact c1
        · exact hI j a1 (by omega))
      obtain ⟨y1, y2⟩ := lt_w c1
      rw [Nat.min_eq_left (by omega)] at this ⊢
      rw [y1] at this
      rw [u2_s, y2, show (32 : Int64) = lN 32 from rfl, lN_mul, lN_add, nI_1]
      refine cW.hi (by rw [u2_u2]; rfl) (cW.hl (by rw [u2_u2]) this)
end TOKC
