/-! ===== operations: walk, about, feed, count ===== -/
theorem cW.hi {cd : Nat → am_T} {d : Nat} {Q : am_Q} {pc : Nat} {ls : am_Ls} {st : List Value} {hi' hi : Nat → Nat → Int32} {hl : Nat → Nat → Int64} {sw : Bool} {kp : Nat → Nat} (e : hi' = hi) (w : cW cd d Q pc ls st (mkH hi hl sw kp)) : cW cd d Q pc ls st (mkH hi' hl sw kp) := e ▸ w
theorem cS.hi {d mi : Nat} {args : List Value} {Q : am_Q} {hi' hi : Nat → Nat → Int32} {hl : Nat → Nat → Int64} {sw : Bool} {kp : Nat → Nat} (e : hi' = hi) (w : cS d mi args (mkH hi hl sw kp) Q) : cS d mi args (mkH hi' hl sw kp) Q := e ▸ w
theorem qhi {Q : am_Q} {r : Option Value} {hi' hi : Nat → Nat → Int32} {hl : Nat → Nat → Int64} {sw : Bool} {kp : Nat → Nat} (e : hi' = hi) (w : Q r (mkH hi hl sw kp)) : Q r (mkH hi' hl sw kp) := e ▸ w
theorem qv {Q : am_Q} {x y : Int32} {h : am_Hp} (e : x = y) (w : Q (some (.int y)) h) : Q (some (.int x)) h := e ▸ w
theorem op_walk {d : Nat} (a1 : Int32) : OpI Rel (d + 2) 145 261 [.int a1] := by
  intro hi hl sw kp Q hR k
  obtain ⟨V, hv, hp, ⟨H, s1, s2, s3, s4, s5, s6, s7, s8, s9, s10, s11, s12⟩, -⟩ := hR.2.2.2.2.2.2
  have e20 : hi 299 20 = nI (min H 60) := s11
  have e1 : hi 28 1 = nI H := s2
  have w0 : ∀ j, j < min H 60 → ((hi 28 1 - 1) - nI j) - ((hi 28 1 - 1) - nI j) / 60 * 60 = nI ((H - 1 - j) % 60) := by
    intro j hj
    rw [e1, show nI H - 1 = nI (H - 1) from pk_sub (a := H) (b := 1) (by omega), pk_sub (by omega)]
    exact pk_rem (d := 60) (by omega) (by decide) (by decide)
  rcases ix_or a1 (n := min H 60) (by omega) with ⟨j, hj, rfl⟩ | h
  · have e21 : ((21 + hi 299 20) - 1) - nI j = nI (21 + (min H 60 - 1 - j)) := by
      rw [e20, show (21 : Int32) + nI (min H 60) = nI (21 + min H 60) from nI_add 21 _, show nI (21 + min H 60) - 1 = nI (21 + min H 60 - 1) from pk_sub (a := 21 + min H 60) (b := 1) (by omega), pk_sub (by omega)]
      congr 1
      omega
    have hw := (s12 (min H 60 - 1 - j) (by omega)).1
    have hm : H - min H 60 + (min H 60 - 1 - j) = H - 1 - j := by omega
    rw [hm] at hw
    refine s_145 (fun _ _ _ => by rw [w0 j hj]; exact vp_in_nI (Nat.mod_lt _ (by decide)) (by decide)) (k _ hi hl sw kp (fun Q2 k2 => s_261 (fun _ _ => by rw [e21]; exact vp_in_nI (by omega) (by decide)) (qv ?_ (k2 hi hl sw kp hR))))
    unfold g_261 g_260 g_145 g_83
    rw [w0 j hj, e21, e20, g207_in hj (by omega), if_neg (by decide), if_neg (nI_ge hj (by omega)), if_neg (nI_pos (by omega)), if_neg (show ¬ (60 : Int32) ≤ nI j from nI_ge (a := j) (b := 60) (by omega) (by decide)), e1, if_pos (nI_lt (show j < H by omega) (by omega)), nI_clamp (by omega), nI_clamp (by have := Nat.mod_lt (H - 1 - j) (show 0 < 60 by decide); omega)]
    exact hw
  · have q0 : g_207 a1 (0 : Int32) (hi 299 20 - 1) = 0 := by rw [e20]; exact g207_out h (by omega)
    have no : ¬ a1 < 0 → ¬ 60 ≤ a1 → ¬ a1 < hi 28 1 := by
      intro c1 c2 c3
      rw [e1] at c3
      obtain ⟨m, hm, rfl⟩ := nI_of c1
      rcases h with h | h
      · exact c1 h
      · have h2 : ¬ 60 ≤ m := fun q => c2 (nI_le (a := 60) q hm)
        have h3 := (nI_leI (by omega) hm).mp h
        have h4 := (nI_ltI hm (by omega)).mp c3
        omega
    refine s_145 (fun c1 c2 c3 => absurd c3 (no c1 c2)) (k _ hi hl sw kp (fun Q2 k2 => s_261 (fun q => absurd q0 q) (qv ?_ (k2 hi hl sw kp hR))))
    unfold g_261 g_145 g_83
    rw [q0, if_pos rfl]
    by_cases c1 : a1 < 0
    · rw [if_pos c1]
    · rw [if_neg c1]
      by_cases c2 : 60 ≤ a1
      · rw [if_pos c2]
      · rw [if_neg c2, if_neg (no c1 c2)]
def abC (hi : Nat → Nat → Int32) (x : Int32) : Int32 := if x = 0 then hi 19 1 else (if x = 1 then hi 19 0 else (if x = 2 then hi 19 3 else (if x = 3 then hi 19 2 else (if x = 4 then hi 28 0 else (if x = 5 then g_117 hi (hi 28 1) else (if x = 6 then hi 28 1 else (if x = 7 then g_119 hi (hi 28 1) else (if x = 8 then hi 28 2 else (if x = 10 then hi 33 1 else (if x = 11 then hi 33 2 else (if x = 12 then hi 266 8 else (if x = 13 then hi 266 9 else (if x = 14 then hi 1 1 else (if x = 15 then hi 25 3 else (if x = 16 then hi 0 13 else (if x = 17 then hi 19 4 else (-1)))))))))))))))))
def abM (hi : Nat → Nat → Int32) (x : Int32) : Int32 := if x = 0 then hi 279 46 else (if x = 1 then hi 279 45 else (if x = 2 then hi 279 48 else (if x = 3 then hi 279 47 else (if x = 4 then hi 299 16 else (if x = 5 then (hi 299 17) - (hi 299 17) / (hi 279 50) * (hi 279 50) else (if x = 6 then hi 299 17 else (if x = 7 then hi 299 18 else (if x = 8 then hi 299 19 else (if x = 10 then hi 279 66 else (if x = 11 then hi 279 67 else (if x = 12 then hi 279 86 else (if x = 13 then hi 279 87 else (if x = 14 then hi 279 1 else (if x = 15 then hi 279 21 else (if x = 16 then hi 279 75 else (if x = 17 then hi 279 50 else (-1)))))))))))))))))
theorem s_156 {d : Nat} {Q : am_Q} {hi : Nat → Nat → Int32} {hl : Nat → Nat → Int64} {sw : Bool} {kp : Nat → Nat} {x : Int32} (h9 : ¬ x = 9) (w : Q (some (.int (abC hi x))) (mkH hi hl sw kp)) : cS (d + 3) 156 [.ref 0, .int x] (mkH hi hl sw kp) Q :=
  e_156 (fun c0 => by
      have e : abC hi x = hi 19 1 := by
        unfold abC
        rw [if_pos c0]
      rw [e] at w
      exact w) (fun c0 c1 => by
      have e : abC hi x = hi 19 0 := by
        unfold abC
        rw [if_neg c0, if_pos c1]
      rw [e] at w
      exact w) (fun c0 c1 c2 => by
      have e : abC hi x = hi 19 3 := by
        unfold abC
        rw [if_neg c0, if_neg c1, if_pos c2]
      rw [e] at w
      exact w) (fun c0 c1 c2 c3 => by
      have e : abC hi x = hi 19 2 := by
        unfold abC
        rw [if_neg c0, if_neg c1, if_neg c2, if_pos c3]
      rw [e] at w
      exact w) (fun c0 c1 c2 c3 c4 => by
      have e : abC hi x = hi 28 0 := by
        unfold abC
        rw [if_neg c0, if_neg c1, if_neg c2, if_neg c3, if_pos c4]
      rw [e] at w
      exact w) (fun c0 c1 c2 c3 c4 c5 => by
      have e : abC hi x = g_117 hi (hi 28 1) := by
        unfold abC
        rw [if_neg c0, if_neg c1, if_neg c2, if_neg c3, if_neg c4, if_pos c5]
      rw [e] at w
      exact w) (fun c0 c1 c2 c3 c4 c5 c6 => by
      have e : abC hi x = hi 28 1 := by
        unfold abC
        rw [if_neg c0, if_neg c1, if_neg c2, if_neg c3, if_neg c4, if_neg c5, if_pos c6]
      rw [e] at w
      exact w) (fun c0 c1 c2 c3 c4 c5 c6 c7 => by
      have e : abC hi x = g_119 hi (hi 28 1) := by
        unfold abC
        rw [if_neg c0, if_neg c1, if_neg c2, if_neg c3, if_neg c4, if_neg c5, if_neg c6, if_pos c7]
      rw [e] at w
      exact w) (fun c0 c1 c2 c3 c4 c5 c6 c7 c8 => by
      have e : abC hi x = hi 28 2 := by
        unfold abC
        rw [if_neg c0, if_neg c1, if_neg c2, if_neg c3, if_neg c4, if_neg c5, if_neg c6, if_neg c7, if_pos c8]
      rw [e] at w
      exact w) (fun _ _ _ _ _ _ _ _ _ c => absurd c h9) (fun c0 c1 c2 c3 c4 c5 c6 c7 c8 c9 c10 => by
      have e : abC hi x = hi 33 1 := by
        unfold abC
        rw [if_neg c0, if_neg c1, if_neg c2, if_neg c3, if_neg c4, if_neg c5, if_neg c6, if_neg c7, if_neg c8, if_pos c10]
      rw [e] at w
      exact w) (fun c0 c1 c2 c3 c4 c5 c6 c7 c8 c9 c10 c11 => by
      have e : abC hi x = hi 33 2 := by
        unfold abC
        rw [if_neg c0, if_neg c1, if_neg c2, if_neg c3, if_neg c4, if_neg c5, if_neg c6, if_neg c7, if_neg c8, if_neg c10, if_pos c11]
      rw [e] at w
      exact w) (fun c0 c1 c2 c3 c4 c5 c6 c7 c8 c9 c10 c11 c12 => by
      have e : abC hi x = hi 266 8 := by
        unfold abC
        rw [if_neg c0, if_neg c1, if_neg c2, if_neg c3, if_neg c4, if_neg c5, if_neg c6, if_neg c7, if_neg c8, if_neg c10, if_neg c11, if_pos c12]
      rw [e] at w
      exact w) (fun c0 c1 c2 c3 c4 c5 c6 c7 c8 c9 c10 c11 c12 c13 => by
      have e : abC hi x = hi 266 9 := by
        unfold abC
        rw [if_neg c0, if_neg c1, if_neg c2, if_neg c3, if_neg c4, if_neg c5, if_neg c6, if_neg c7, if_neg c8, if_neg c10, if_neg c11, if_neg c12, if_pos c13]
      rw [e] at w
      exact w) (fun c0 c1 c2 c3 c4 c5 c6 c7 c8 c9 c10 c11 c12 c13 c14 => by
      have e : abC hi x = hi 1 1 := by
        unfold abC
        rw [if_neg c0, if_neg c1, if_neg c2, if_neg c3, if_neg c4, if_neg c5, if_neg c6, if_neg c7, if_neg c8, if_neg c10, if_neg c11, if_neg c12, if_neg c13, if_pos c14]
      rw [e] at w
      exact w) (fun c0 c1 c2 c3 c4 c5 c6 c7 c8 c9 c10 c11 c12 c13 c14 c15 => by
      have e : abC hi x = hi 25 3 := by
        unfold abC
        rw [if_neg c0, if_neg c1, if_neg c2, if_neg c3, if_neg c4, if_neg c5, if_neg c6, if_neg c7, if_neg c8, if_neg c10, if_neg c11, if_neg c12, if_neg c13, if_neg c14, if_pos c15]
      rw [e] at w
      exact w) (fun c0 c1 c2 c3 c4 c5 c6 c7 c8 c9 c10 c11 c12 c13 c14 c15 c16 => by
      have e : abC hi x = hi 0 13 := by
        unfold abC
        rw [if_neg c0, if_neg c1, if_neg c2, if_neg c3, if_neg c4, if_neg c5, if_neg c6, if_neg c7, if_neg c8, if_neg c10, if_neg c11, if_neg c12, if_neg c13, if_neg c14, if_neg c15, if_pos c16]
      rw [e] at w
      exact w) (fun c0 c1 c2 c3 c4 c5 c6 c7 c8 c9 c10 c11 c12 c13 c14 c15 c16 c17 => by
      have e : abC hi x = hi 19 4 := by
        unfold abC
        rw [if_neg c0, if_neg c1, if_neg c2, if_neg c3, if_neg c4, if_neg c5, if_neg c6, if_neg c7, if_neg c8, if_neg c10, if_neg c11, if_neg c12, if_neg c13, if_neg c14, if_neg c15, if_neg c16, if_pos c17]
      rw [e] at w
      exact w) (fun c0 c1 c2 c3 c4 c5 c6 c7 c8 c9 c10 c11 c12 c13 c14 c15 c16 c17 => by
      have e : abC hi x = -1 := by
        unfold abC
        rw [if_neg c0, if_neg c1, if_neg c2, if_neg c3, if_neg c4, if_neg c5, if_neg c6, if_neg c7, if_neg c8, if_neg c10, if_neg c11, if_neg c12, if_neg c13, if_neg c14, if_neg c15, if_neg c16, if_neg c17]
      rw [e] at w
      exact w)
theorem s_278 {d : Nat} {Q : am_Q} {hi : Nat → Nat → Int32} {hl : Nat → Nat → Int64} {sw : Bool} {kp : Nat → Nat} {x : Int32} (h9 : ¬ x = 9) (hd : ¬ hi 279 50 = 0) (w : Q (some (.int (abM hi x))) (mkH hi hl sw kp)) : cS (d + 1) 278 [.ref 279, .int x] (mkH hi hl sw kp) Q :=
  e_278 (fun c0 => by
      have e : abM hi x = hi 279 46 := by
        unfold abM
        rw [if_pos c0]
      rw [e] at w
      exact w) (fun c0 c1 => by
      have e : abM hi x = hi 279 45 := by
        unfold abM
        rw [if_neg c0, if_pos c1]
      rw [e] at w
      exact w) (fun c0 c1 c2 => by
      have e : abM hi x = hi 279 48 := by
        unfold abM
        rw [if_neg c0, if_neg c1, if_pos c2]
      rw [e] at w
      exact w) (fun c0 c1 c2 c3 => by
      have e : abM hi x = hi 279 47 := by
        unfold abM
        rw [if_neg c0, if_neg c1, if_neg c2, if_pos c3]
      rw [e] at w
      exact w) (fun c0 c1 c2 c3 c4 => by
      have e : abM hi x = hi 299 16 := by
        unfold abM
        rw [if_neg c0, if_neg c1, if_neg c2, if_neg c3, if_pos c4]
      rw [e] at w
      exact w) (fun _ _ _ _ _ _ => hd) (fun c0 c1 c2 c3 c4 c5 => by
      have e : abM hi x = (hi 299 17) - (hi 299 17) / (hi 279 50) * (hi 279 50) := by
        unfold abM
        rw [if_neg c0, if_neg c1, if_neg c2, if_neg c3, if_neg c4, if_pos c5]
      rw [e] at w
      exact w) (fun c0 c1 c2 c3 c4 c5 c6 => by
      have e : abM hi x = hi 299 17 := by
        unfold abM
        rw [if_neg c0, if_neg c1, if_neg c2, if_neg c3, if_neg c4, if_neg c5, if_pos c6]
      rw [e] at w
      exact w) (fun c0 c1 c2 c3 c4 c5 c6 c7 => by
      have e : abM hi x = hi 299 18 := by
        unfold abM
        rw [if_neg c0, if_neg c1, if_neg c2, if_neg c3, if_neg c4, if_neg c5, if_neg c6, if_pos c7]
      rw [e] at w
      exact w) (fun c0 c1 c2 c3 c4 c5 c6 c7 c8 => by
      have e : abM hi x = hi 299 19 := by
        unfold abM
        rw [if_neg c0, if_neg c1, if_neg c2, if_neg c3, if_neg c4, if_neg c5, if_neg c6, if_neg c7, if_pos c8]
      rw [e] at w
      exact w) (fun _ _ _ _ _ _ _ _ _ c => absurd c h9) (fun c0 c1 c2 c3 c4 c5 c6 c7 c8 c9 c10 => by
      have e : abM hi x = hi 279 66 := by
        unfold abM
        rw [if_neg c0, if_neg c1, if_neg c2, if_neg c3, if_neg c4, if_neg c5, if_neg c6, if_neg c7, if_neg c8, if_pos c10]
      rw [e] at w
      exact w) (fun c0 c1 c2 c3 c4 c5 c6 c7 c8 c9 c10 c11 => by
      have e : abM hi x = hi 279 67 := by
        unfold abM
        rw [if_neg c0, if_neg c1, if_neg c2, if_neg c3, if_neg c4, if_neg c5, if_neg c6, if_neg c7, if_neg c8, if_neg c10, if_pos c11]
      rw [e] at w
      exact w) (fun c0 c1 c2 c3 c4 c5 c6 c7 c8 c9 c10 c11 c12 => by
      have e : abM hi x = hi 279 86 := by
        unfold abM
        rw [if_neg c0, if_neg c1, if_neg c2, if_neg c3, if_neg c4, if_neg c5, if_neg c6, if_neg c7, if_neg c8, if_neg c10, if_neg c11, if_pos c12]
      rw [e] at w
      exact w) (fun c0 c1 c2 c3 c4 c5 c6 c7 c8 c9 c10 c11 c12 c13 => by
      have e : abM hi x = hi 279 87 := by
        unfold abM
        rw [if_neg c0, if_neg c1, if_neg c2, if_neg c3, if_neg c4, if_neg c5, if_neg c6, if_neg c7, if_neg c8, if_neg c10, if_neg c11, if_neg c12, if_pos c13]
      rw [e] at w
      exact w) (fun c0 c1 c2 c3 c4 c5 c6 c7 c8 c9 c10 c11 c12 c13 c14 => by
      have e : abM hi x = hi 279 1 := by
        unfold abM
        rw [if_neg c0, if_neg c1, if_neg c2, if_neg c3, if_neg c4, if_neg c5, if_neg c6, if_neg c7, if_neg c8, if_neg c10, if_neg c11, if_neg c12, if_neg c13, if_pos c14]
      rw [e] at w
      exact w) (fun c0 c1 c2 c3 c4 c5 c6 c7 c8 c9 c10 c11 c12 c13 c14 c15 => by
      have e : abM hi x = hi 279 21 := by
        unfold abM
        rw [if_neg c0, if_neg c1, if_neg c2, if_neg c3, if_neg c4, if_neg c5, if_neg c6, if_neg c7, if_neg c8, if_neg c10, if_neg c11, if_neg c12, if_neg c13, if_neg c14, if_pos c15]
      rw [e] at w
      exact w) (fun c0 c1 c2 c3 c4 c5 c6 c7 c8 c9 c10 c11 c12 c13 c14 c15 c16 => by
      have e : abM hi x = hi 279 75 := by
        unfold abM
        rw [if_neg c0, if_neg c1, if_neg c2, if_neg c3, if_neg c4, if_neg c5, if_neg c6, if_neg c7, if_neg c8, if_neg c10, if_neg c11, if_neg c12, if_neg c13, if_neg c14, if_neg c15, if_pos c16]
      rw [e] at w
      exact w) (fun c0 c1 c2 c3 c4 c5 c6 c7 c8 c9 c10 c11 c12 c13 c14 c15 c16 c17 => by
      have e : abM hi x = hi 279 50 := by
        unfold abM
        rw [if_neg c0, if_neg c1, if_neg c2, if_neg c3, if_neg c4, if_neg c5, if_neg c6, if_neg c7, if_neg c8, if_neg c10, if_neg c11, if_neg c12, if_neg c13, if_neg c14, if_neg c15, if_neg c16, if_pos c17]
      rw [e] at w
      exact w) (fun c0 c1 c2 c3 c4 c5 c6 c7 c8 c9 c10 c11 c12 c13 c14 c15 c16 c17 => by
      have e : abM hi x = -1 := by
        unfold abM
        rw [if_neg c0, if_neg c1, if_neg c2, if_neg c3, if_neg c4, if_neg c5, if_neg c6, if_neg c7, if_neg c8, if_neg c10, if_neg c11, if_neg c12, if_neg c13, if_neg c14, if_neg c15, if_neg c16, if_neg c17]
      rw [e] at w
      exact w)
/-- a sum of the first n of a row -/
def sm (f : Nat → Int32) : Nat → Int32
  | 0 => 0
  | n + 1 => sm f n + f n
theorem sm_eq {f g : Nat → Int32} : ∀ n, (∀ j, j < n → f j = g j) → sm f n = sm g n
  | 0, _ => rfl
  | n + 1, h => by
    show sm f n + f n = sm g n + g n
    rw [sm_eq n (fun j hj => h j (by omega)), h n (by omega)]
theorem f85 {d : Nat} {Q : am_Q} {hi : Nat → Nat → Int32} {hl : Nat → Nat → Int64} {sw : Bool} {kp : Nat → Nat} (w : Q (some (.int (sm (hi 29) 8))) (mkH hi hl sw kp)) : cS (d + 1) 85 [.ref 28] (mkH hi hl sw kp) Q := by
  have lp : ∀ n j, j + n = 8 → cW cd_85 d Q 4 [some (.ref 28), some (.int (sm (hi 29) j)), some (.int (nI j))] [] (mkH hi hl sw kp) := by
    intro n
    induction n with
    | zero =>
      intro j hj
      have : j = 8 := by omega
      subst this
      exact k_85_4 (fun _ => w) (fun c => absurd (by decide) c) (fun c => absurd (by decide) c)
    | succ n ih =>
      intro j hj
      refine k_85_4 (fun c => absurd c (nI_ge (a := j) (b := 8) (by omega) (by decide))) (fun _ => vp_in_nI (by omega) (by decide)) (fun _ => ?_)
      rw [nI_clamp (by omega), nI_1]
      exact ih (j + 1) (by omega)
  exact e_85 (lp 8 0 rfl)
theorem f277 {d : Nat} {Q : am_Q} {hi : Nat → Nat → Int32} {hl : Nat → Nat → Int64} {sw : Bool} {kp : Nat → Nat} (w : Q (some (.int (sm (hi 299) 8))) (mkH hi hl sw kp)) : cS (d + 1) 277 [.ref 279] (mkH hi hl sw kp) Q := by
  have lp : ∀ n j, j + n = 8 → cW cd_277 d Q 4 [some (.ref 279), some (.int (sm (hi 299) j)), some (.int (nI j))] [] (mkH hi hl sw kp) := by
    intro n
    induction n with
    | zero =>
      intro j hj
      have : j = 8 := by omega
      subst this
      exact k_277_4 (fun _ => w) (fun c => absurd (by decide) c) (fun c => absurd (by decide) c)
    | succ n ih =>
      intro j hj
      have e0 : (0 : Int32) + nI j = nI j := by rw [Int32.zero_add]
      refine k_277_4 (fun c => absurd c (nI_ge (a := j) (b := 8) (by omega) (by decide))) (fun _ => by rw [e0]; exact vp_in_nI (by omega) (by decide)) (fun _ => ?_)
      rw [e0, nI_clamp (by omega), nI_1]
      exact ih (j + 1) (by omega)
  exact e_277 (lp 8 0 rfl)
theorem age_eq {V : vN} {hi : Nat → Nat → Int32} (hv : R_vil V hi) {H : Nat} (hH : H ≤ 5000) : g_119 hi (nI H) = nI (min 99 (vAg V + H / vDy V)) := by
  have hb := hv.1
  have hq : H / vDy V ≤ H := Nat.div_le_self _ _
  unfold g_119 g_118
  rw [hv.2.1.2.2.2.2.1, if_neg (nI_nle (n := vDy V) (by omega) (by omega)), pk_div (by omega) (by omega) (by omega), hv.2.1.2.2.2.2.2.2.2, nI_add]
  by_cases c : vAg V + H / vDy V < 99
  · rw [if_pos (show nI (vAg V + H / vDy V) < (99 : Int32) from nI_lt (b := 99) c (by decide))]
    congr 1
    omega
  · rw [if_neg (show ¬ nI (vAg V + H / vDy V) < (99 : Int32) from nI_nlt (b := 99) (by omega) (by omega))]
    show nI 99 = _
    congr 1
    omega
theorem op_about {d : Nat} (a1 : Int32) : OpI Rel (d + 4) 156 278 [.int a1] := by
  intro hi hl sw kp Q hR k
  obtain ⟨V, hv, hp, ⟨H, s1, s2, s3, s4, s5, s6, s7, s8, s9, s10, s11, s12⟩, hac, -⟩ := hR.2.2.2.2.2.2
  have hb := hv.1
  by_cases h9 : a1 = 9
  · subst h9
    have key : Q (some (.int (sm (hi 29) 8))) (mkH hi hl sw kp) := by
      refine k _ hi hl sw kp (fun Q2 k2 => e_278 ?_ ?_ ?_ ?_ ?_ ?_ ?_ ?_ ?_ ?_ ?_ ?_ ?_ ?_ ?_ ?_ ?_ ?_ ?_ ?_)
      all_goals first
        | (intros; contradiction)
        | skip
      intros
      refine f277 (k_278_157 (qv (sm_eq 8 (fun j hj => ?_)) (k2 hi hl sw kp hR)))
      obtain ⟨b, -, b1, b2⟩ := s9 j hj
      exact b2.trans b1.symm
    refine e_156 ?_ ?_ ?_ ?_ ?_ ?_ ?_ ?_ ?_ ?_ ?_ ?_ ?_ ?_ ?_ ?_ ?_ ?_ ?_
    all_goals first
      | (intros; contradiction)
      | (intros; exact f85 (k_156_181 key))
  · refine s_156 h9 (k _ hi hl sw kp (fun Q2 k2 => s_278 h9 ?_ (qv ?_ (k2 hi hl sw kp hR))))
    · rw [hv.2.2.1.2.2.2.2.1]
      exact nI_ne0 (by omega) (by omega)
    · obtain ⟨a, u, -, q1, q2, q3, q4, -⟩ := hac
      obtain ⟨m, -, -, -, p4, -⟩ := hp
      obtain ⟨⟨n, -, n2, n3, -⟩, -, ⟨y, -, y2, y3, -⟩, ⟨c, t, -, -, t3, t4, t5, t6, -⟩, -⟩ := hR
      have ea : hi 299 18 = g_119 hi (hi 28 1) := by
        rw [show hi 28 1 = nI H from s2, age_eq hv (by omega)]
        exact s8
      have eh : (hi 299 17) - (hi 299 17) / (hi 279 50) * (hi 279 50) = g_117 hi (hi 28 1) := by
        unfold g_117
        rw [hv.2.1.2.2.2.2.1, if_neg (nI_nle (n := vDy V) (by omega) (by omega)), hv.2.2.1.2.2.2.2.1, s3, show hi 28 1 = nI H from s2]
      unfold abC abM
      rw [ea, eh, hv.2.1.1, hv.2.1.2.1, hv.2.1.2.2.1, hv.2.1.2.2.2.1, hv.2.1.2.2.2.2.1, hv.2.2.1.1, hv.2.2.1.2.1, hv.2.2.1.2.2.1, hv.2.2.1.2.2.2.1, hv.2.2.1.2.2.2.2.1, s4, s6, s3, show hi 28 1 = nI H from s2, q1, q2, q3, q4, p4, n2, n3, y2, y3, t3, t4, t5, t6]
