/-! ===== operations: feed, count ===== -/
theorem bp_b (x : Int32) : x.toInt8.toInt32 &&& 255 = x &&& 255 := by
  apply Int32.toBitVec_inj.mp
  rw [Int32.toBitVec_and, Int32.toBitVec_and, Int8.toBitVec_toInt32, Int32.toBitVec_toInt8]
  apply BitVec.eq_of_getLsbD_eq
  intro i hi
  rw [BitVec.getLsbD_and, BitVec.getLsbD_and]
  have hm : ∀ i < 32, 8 ≤ i → (255 : Int32).toBitVec.getLsbD i = false := by decide
  rcases Nat.lt_or_ge i 8 with z | z
  · rw [BitVec.getLsbD_signExtend, BitVec.getLsbD_signExtend, if_pos z, if_pos hi]
    simp only [z, hi, decide_true, Bool.true_and]
  · rw [hm i hi z]; simp
theorem upd_eq (f : Nat → Int32) (k : Nat) (x : Int32) (j : Nat) : upd f k x j = if j = k then x else f j := rfl
/-- a row written and a field, again and again -/
theorem nrm {hi : Nat → Nat → Int32} {A B k n : Nat} {f : Nat → Int32} {v b v' : Int32} (h : A ≠ B) : u2 (u2 (u2 (uR hi A f) B k v) A n b) B k v' = u2 (uR hi A (upd f n b)) B k v' := by
  funext a c
  simp only [u2_eq, uR_eq, upd_eq]
  by_cases h1 : a = B ∧ c = k
  · rw [if_pos h1, if_pos h1]
  · simp only [if_neg h1]
    by_cases h2 : a = A
    · by_cases h3 : c = n
      · simp only [if_pos h2, if_pos h3, if_pos (And.intro h2 h3)]
      · simp only [if_pos h2, if_neg h3, if_neg (fun q : a = A ∧ c = n => h3 q.2)]
    · simp only [if_neg h2, if_neg (fun q : a = A ∧ c = n => h2 q.1)]
theorem nrm0 {hi : Nat → Nat → Int32} {A B k : Nat} {v : Int32} (h : A ≠ B) (e : hi B k = v) : hi = u2 (uR hi A (hi A)) B k v := by
  funext a c
  simp only [u2_eq, uR_eq]
  by_cases h1 : a = B ∧ c = k
  · rw [if_pos h1, h1.1, h1.2, e]
  · rw [if_neg h1]
    by_cases h2 : a = A
    · rw [if_pos h2, h2]
    · rw [if_neg h2]
def fdC (f : Nat → Int32) (n : Nat) (x : Int32) : Nat → Int32 := upd (upd (upd (upd f n (vp_nar .byte ((x >>> (24 &&& 31)).toInt8.toInt32))) (n + 1) (vp_nar .byte ((x >>> ((24 + (-8)) &&& 31)).toInt8.toInt32))) (n + 2) (vp_nar .byte ((x >>> ((24 + (-8) + (-8)) &&& 31)).toInt8.toInt32))) (n + 3) (vp_nar .byte ((x >>> ((24 + (-8) + (-8) + (-8)) &&& 31)).toInt8.toInt32))
def fdM (f : Nat → Int32) (n : Nat) (x : Int32) : Nat → Int32 := upd (upd (upd (upd f n ((x >>> (24 &&& 31)) &&& 255)) (n + 1) ((x >>> ((24 + (-8)) &&& 31)) &&& 255)) (n + 2) ((x >>> ((24 + (-8) + (-8)) &&& 31)) &&& 255)) (n + 3) ((x >>> ((24 + (-8) + (-8) + (-8)) &&& 31)) &&& 255)
theorem nar_255 (z : Int32) : vp_nar .byte z.toInt8.toInt32 &&& 255 = z &&& 255 := by rw [pk_vb, bp_b]
theorem fd_eq {f g : Nat → Int32} {n : Nat} (x : Int32) (h : ∀ j, j < n → f j &&& 255 = g j) : ∀ j, j < n + 4 → fdC f n x j &&& 255 = fdM g n x j := by
  intro j hj
  unfold fdC fdM
  simp only [upd_eq]
  by_cases h3 : j = n + 3
  · rw [if_pos h3, if_pos h3, nar_255]
  · rw [if_neg h3, if_neg h3]
    by_cases h2 : j = n + 2
    · rw [if_pos h2, if_pos h2, nar_255]
    · rw [if_neg h2, if_neg h2]
      by_cases h1 : j = n + 1
      · rw [if_pos h1, if_pos h1, nar_255]
      · rw [if_neg h1, if_neg h1]
        by_cases h0 : j = n
        · rw [if_pos h0, if_pos h0, nar_255]
        · rw [if_neg h0, if_neg h0]
          exact h j (by omega)
section FEED
variable {d : Nat} {Q : am_Q} {hi : Nat → Nat → Int32} {hl : Nat → Nat → Int64} {sw : Bool} {kp : Nat → Nat}
theorem f87 {f : Nat → Int32} {n : Nat} {x : Int32} (hn : n + 4 ≤ 1600) (w : Q none (mkH (u2 (uR hi 2 (fdC f n x)) 1 1 (nI (n + 4))) hl sw kp)) : cS (d + 1) 87 [.ref 1, .int x] (mkH (u2 (uR hi 2 f) 1 1 (nI n)) hl sw kp) Q := by
  have st : ∀ (f : Nat → Int32) (m : Nat) (y : Int32), m < 1600 → ¬ y < 0 → cW cd_87 d Q 3 [some (.ref 1), some (.int x), some (.int (y + (-8)))] [] (mkH (u2 (uR hi 2 (upd f m (vp_nar .byte ((x >>> (y &&& 31)).toInt8.toInt32)))) 1 1 (nI (m + 1))) hl sw kp) → cW cd_87 d Q 3 [some (.ref 1), some (.int x), some (.int y)] [] (mkH (u2 (uR hi 2 f) 1 1 (nI m)) hl sw kp) := by
    intro f m y hm hy w
    refine k_87_3 (fun c => absurd c hy) (fun _ c => absurd c (nI_ge (a := m) (b := 1600) hm (by decide))) (fun _ _ => vp_in_nI hm (by decide)) (fun _ _ => cW.hi ?_ w)
    show u2 (u2 (u2 (uR hi 2 f) 1 1 (nI m)) 2 (nI m).toNatClampNeg _) 1 1 (nI m + 1) = _
    rw [nI_clamp (by omega), nI_1]
    exact nrm (by decide)
  exact e_87 (st f n 24 (by omega) (by decide) (st _ (n + 1) _ (by omega) (by decide) (st _ (n + 2) _ (by omega) (by decide) (st _ (n + 3) _ (by omega) (by decide) (k_87_3 (fun _ => w) (fun c => absurd (by decide) c) (fun c => absurd (by decide) c) (fun c => absurd (by decide) c))))))
theorem f164 {f : Nat → Int32} {n : Nat} {x : Int32} (hn : n + 4 ≤ 1600) (w : Q none (mkH (u2 (uR hi 280 (fdM f n x)) 279 1 (nI (n + 4))) hl sw kp)) : cS (d + 1) 164 [.ref 279, .int x] (mkH (u2 (uR hi 280 f) 279 1 (nI n)) hl sw kp) Q := by
  have st : ∀ (f : Nat → Int32) (m : Nat) (y : Int32), m < 1600 → ¬ y < 0 → cW cd_164 d Q 3 [some (.ref 279), some (.int x), some (.int (y + (-8)))] [] (mkH (u2 (uR hi 280 (upd f m ((x >>> (y &&& 31)) &&& 255))) 279 1 (nI (m + 1))) hl sw kp) → cW cd_164 d Q 3 [some (.ref 279), some (.int x), some (.int y)] [] (mkH (u2 (uR hi 280 f) 279 1 (nI m)) hl sw kp) := by
    intro f m y hm hy w
    refine k_164_3 (fun c => absurd c hy) (fun _ => vp_in_nI hm (by decide)) (fun _ => cW.hi ?_ w)
    show u2 (u2 (u2 (uR hi 280 f) 279 1 (nI m)) 280 (nI m).toNatClampNeg _) 279 1 (nI m + 1) = _
    rw [nI_clamp (by omega), nI_1]
    exact nrm (by decide)
  exact e_164 (st f n 24 (by omega) (by decide) (st _ (n + 1) _ (by omega) (by decide) (st _ (n + 2) _ (by omega) (by decide) (st _ (n + 3) _ (by omega) (by decide) (k_164_3 (fun _ => w) (fun c => absurd (by decide) c) (fun c => absurd (by decide) c))))))
end FEED
theorem op_feed {d : Nat} (a1 a2 a3 a4 a5 : Int32) : OpI Rel (d + 2) 123 163 [.int a1, .int a2, .int a3, .int a4, .int a5] := by
  intro hi hl sw kp Q hR k
  obtain ⟨⟨n, n1, n2, n3, n4⟩, r2, r3, r4, r5, r6, r7⟩ := id hR
  have e20 : hi 279 1 + 20 = nI (n + 20) := by rw [n3]; exact nI_add n 20
  rcases Nat.lt_or_ge 1580 n with c | c
  · refine e_123 (fun q => ?_) (fun _ => k (-1) hi hl sw kp (fun Q2 k2 => e_163 (fun q => ?_) (fun _ => k2 hi hl sw kp hR)))
    · rw [n2] at q
      exact absurd q (nI_ge (a := 1580) c (by omega))
    · rw [e20] at q
      exact absurd q (nI_ge (a := 1600) (by omega) (by omega))
  · refine e_123 (fun _ => cS.hi (nrm0 (A := 2) (B := 1) (k := 1) (by decide) n2) (f87 (by omega) (k_123_23 (f87 (by omega) (k_123_31 (f87 (by omega) (k_123_39 (f87 (by omega) (k_123_48 (f87 (by omega) (k_123_57 ?_)))))))))))  (fun q => absurd (show hi 1 1 ≤ 1580 by rw [n2]; exact nI_le (b := 1580) c (by decide)) q)
    refine k (nI (n + 20)) _ hl sw kp (fun Q2 k2 => e_163 (fun _ => cS.hi (nrm0 (A := 280) (B := 279) (k := 1) (by decide) n3) (f164 (by omega) (k_163_20 (f164 (by omega) (k_163_25 (f164 (by omega) (k_163_30 (f164 (by omega) (k_163_36 (f164 (by omega) (k_163_42 ?_))))))))))) (fun q => absurd (show hi 279 1 + 20 ≤ 1600 by rw [e20]; exact nI_le (b := 1600) (by omega) (by decide)) q))
    exact k2 _ hl sw kp ⟨⟨n + 20, by omega, rfl, rfl, fd_eq a5 (fd_eq a4 (fd_eq a3 (fd_eq a2 (fd_eq a1 n4))))⟩, r2, r3, r4, r5, r6, R_big.fr ((((Ag.rf.r (by decide)).u (by decide)).r (by decide)).u (by decide)) r6 (fun _ h => h) (fun h => h) (fun _ h => h) rfl rfl rfl rfl rfl rfl rfl rfl rfl r7⟩
theorem cnt_new {X hi : Nat → Nat → Int32} {n m : Nat} {a1 a2 a3 a4 a5 a6 t t' : Int32} (hm : m = n) (ht : t = t') (h0 : ∀ j, j < n → R_cnt hi j)
    (hd : X 19 = hi 19) (h2 : ∃ a : Nat, a < (hi 19 0).toNatClampNeg ∧ a2 = nI a) (h4 : ∃ a : Nat, a < (hi 19 0).toNatClampNeg ∧ a4 = nI a)
    (c1 : X 267 = u2 hi 267 n a1 267) (c2 : X 268 = u2 hi 268 n a2 268) (c3 : X 269 = u2 hi 269 n a3 269) (c4 : X 270 = u2 hi 270 n a4 270) (c5 : X 271 = u2 hi 271 n a5 271) (c6 : X 272 = u2 hi 272 n a6 272) (c7 : X 273 = u2 hi 273 n t 273) (c8 : X 274 = u2 hi 274 n (-1) 274)
    (m1 : X 312 = u2 hi 312 m a1 312) (m2 : X 313 = u2 hi 313 m a2 313) (m3 : X 314 = u2 hi 314 m a3 314) (m4 : X 315 = u2 hi 315 m a4 315) (m5 : X 316 = u2 hi 316 m a5 316) (m6 : X 317 = u2 hi 317 m a6 317) (m7 : X 318 = u2 hi 318 m t' 318) (m8 : X 319 = u2 hi 319 m (-1) 319) : ∀ j, j < n + 1 → R_cnt X j := by
  intro j hj
  subst hm ht
  unfold R_cnt
  rw [c1, c2, c3, c4, c5, c6, c7, c8, m1, m2, m3, m4, m5, m6, m7, m8, hd]
  simp only [u2_row]
  by_cases h : j = m
  · simp only [if_pos h]
    exact ⟨trivial, trivial, trivial, trivial, trivial, trivial, trivial, trivial, h2, h4, Or.inl trivial⟩
  · simp only [if_neg h]
    exact h0 j (by omega)
theorem cas_eq {V : vN} {hi : Nat → Nat → Int32} (hv : R_vil V hi) (x : Int32) : g_209 hi x = g_109 hi x := by
  rcases cas hv x with ⟨c, hc, -, q1, q2⟩ | ⟨-, q1, q2⟩ <;> rw [q1, q2]
theorem ded_eq {V : vN} {hi : Nat → Nat → Int32} (hv : R_vil V hi) (x : Int32) : g_210 hi x = g_110 hi x := by
  rcases ded hv x with ⟨c, hc, -, q1, q2⟩ | ⟨-, q1, q2⟩ <;> rw [q1, q2]
theorem plc_eq {V : vN} {hi : Nat → Nat → Int32} (hv : R_vil V hi) (x : Int32) : g_208 hi x = g_108 hi x := by
  rcases plc hv x with ⟨c, hc, -, q1, q2⟩ | ⟨-, q1, q2⟩ <;> rw [q1, q2]
theorem win_eq (x a b : Int32) : g_207 x a b = g_158 x a b := rfl
theorem op_count {d : Nat} (a1 a2 a3 a4 a5 a6 : Int32) : OpI Rel (d + 3) 148 265 [.int a1, .int a2, .int a3, .int a4, .int a5, .int a6] := by
  intro hi hl sw kp Q hR k
  obtain ⟨r1, r2, r3, ⟨n, t, t1, t2, t3, t4, t5, t6, t7⟩, r5, r6, r7⟩ := id hR
  obtain ⟨V, hv, -⟩ := id r7
  have hv0 := hv.2.1.1
  have hb := hv.1
  have i30 : ¬ hi 279 86 = 30 → n < 30 := by
    intro q
    rw [t4] at q
    rcases Nat.lt_or_ge n 30 with z | z
    · exact z
    · exact absurd (show nI n = 30 by rw [show n = 30 by omega]; rfl) q
  have bad : (g_109 hi a1 = 0 ∨ g_110 hi a2 = 0 ∨ g_110 hi a4 = 0 ∨ g_158 a3 0 9 = 0 ∨ g_158 a5 0 9 = 0 ∨ g_158 a6 (-99) 99 = 0 ∨ n = 30) → Q (some (.int (-1))) (mkH hi hl sw kp) := by
    intro b
    refine k (-1) hi hl sw kp (fun Q2 k2 => e_265 (fun _ => k2 hi hl sw kp hR) (fun _ _ => k2 hi hl sw kp hR) (fun _ _ _ => k2 hi hl sw kp hR) (fun _ _ _ _ => k2 hi hl sw kp hR) (fun _ _ _ _ _ => k2 hi hl sw kp hR) (fun _ _ _ _ _ _ => k2 hi hl sw kp hR) (fun _ _ _ _ _ _ _ => k2 hi hl sw kp hR) (fun _ _ _ _ _ _ q => ?_) (fun q1 q2 q3 q4 q5 q6 q7 => ?_))
    · rw [t4]
      exact vp_in_nI (i30 q) (by decide)
    · rw [cas_eq hv] at q1
      rw [ded_eq hv] at q2 q3
      rcases b with b | b | b | b | b | b | b
      · exact absurd b q1
      · exact absurd b q2
      · exact absurd b q3
      · exact absurd b q4
      · exact absurd b q5
      · exact absurd b q6
      · have := i30 q7
        omega
  refine e_148 (fun c => bad (Or.inl c)) (fun _ c => bad (Or.inr (Or.inl c))) (fun _ _ c => bad (Or.inr (Or.inr (Or.inl c)))) (fun _ _ _ c => bad (Or.inr (Or.inr (Or.inr (Or.inl c))))) (fun _ _ _ _ c => bad (Or.inr (Or.inr (Or.inr (Or.inr (Or.inl c)))))) (fun _ _ _ _ _ c => bad (Or.inr (Or.inr (Or.inr (Or.inr (Or.inr (Or.inl c))))))) (fun q1 q2 q3 q4 q5 q6 => ?_)
  have em : (hi 266 8).toNatClampNeg = n := by rw [t3]; exact nI_clamp (by omega)
  have em2 : (hi 279 86).toNatClampNeg = n := by rw [t4]; exact nI_clamp (by omega)
  have kd : ∀ x : Int32, ¬ g_110 hi x = 0 → ∃ a : Nat, a < (hi 19 0).toNatClampNeg ∧ x = nI a := by
    intro x q
    rcases ded hv x with ⟨e, he, e2, -⟩ | ⟨-, z, -⟩
    · exact ⟨e, by rw [hv0, nI_clamp (by omega)]; exact he, e2⟩
    · exact absurd z q
  refine e_26 (fun c => ?_) (fun c => ?_) (fun c => k_148_97 (bad (Or.inr (Or.inr (Or.inr (Or.inr (Or.inr (Or.inr ?_))))))))
  · rw [t3] at c ⊢
    exact vp_in_nI ((nI_ltI (b := 30) (by omega) (by decide)).mp c) (by decide)
  · have hn : n < 30 := by
      rw [t3] at c
      exact (nI_ltI (b := 30) (by omega) (by decide)).mp c
    refine k_26_87 ?_ (k_148_97 (k _ _ hl sw kp (fun Q2 k2 => e_265 (fun q => ?_) (fun _ q => ?_) (fun _ _ q => ?_) (fun _ _ _ q => absurd q q4) (fun _ _ _ _ q => absurd q q5) (fun _ _ _ _ _ q => absurd q q6) (fun _ _ _ _ _ _ q => ?_) (fun _ _ _ _ _ _ _ => ?_) (fun _ _ _ _ _ _ _ => k_265_145 ?_ ?_))))
    · show vp_in (hi 266 8) 30
      rw [t3]
      exact vp_in_nI hn (by decide)
    · exact absurd ((cas_eq hv a1).symm.trans q) q1
    · exact absurd ((ded_eq hv a2).symm.trans q) q2
    · exact absurd ((ded_eq hv a4).symm.trans q) q3
    · have q' : hi 279 86 = 30 := q
      rw [t4] at q'
      exact absurd ((nI_eq (b := 30) (by omega) (by decide)).mp q') (by omega)
    · show vp_in (hi 279 86) 30
      rw [t4]
      exact vp_in_nI hn (by decide)
    · show vp_in (hi 279 86) 30
      rw [t4]
      exact vp_in_nI hn (by decide)
    · refine qv (y := (hi 266 8 + 1) - 1) (show (hi 279 86 + 1) - 1 = (hi 266 8 + 1) - 1 by rw [t3, t4]) (k2 _ hl sw kp ⟨r1, r2, r3, ⟨n + 1, t, by omega, t2, ?_, ?_, t5, t6, ?_⟩, r5, r6, ?_⟩)
      · show hi 266 8 + 1 = nI (n + 1)
        rw [t3, nI_1]
      · show hi 279 86 + 1 = nI (n + 1)
        rw [t4, nI_1]
      · subst em
        exact cnt_new (m := (hi 279 86).toNatClampNeg) em2 (show hi 266 9 = hi 279 87 by rw [t5, t6]) t7 rfl (kd a2 q2) (kd a4 q3) rfl rfl rfl rfl rfl rfl rfl rfl rfl rfl rfl rfl rfl rfl rfl rfl
      · refine R_big.fr (hi := hi) ?_ r6 (fun _ h => h) (fun h => h) (fun _ h => h) rfl rfl rfl rfl rfl rfl rfl rfl rfl r7
        repeat (refine Ag.u ?_ (by decide))
        exact Ag.rf
  · rw [t3] at c
    rcases Nat.lt_or_ge n 30 with z | z
    · exact absurd (nI_lt (b := 30) z (by decide)) c
    · omega
