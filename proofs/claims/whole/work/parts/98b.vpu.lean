/-! ===== village: readPull ===== -/
section VPU
variable {d : Nat} {Q : am_Q} {hi hi' : Nat → Nat → Int32} {hl hl' : Nat → Nat → Int64} {sw : Bool} {kp : Nat → Nat} {n a : Nat} {f : Nat → Int32} {S : List Nat} {P : List (Nat × Nat)} {U : Nat}
theorem f183 {k : Nat} (hk : k < 10) (h : RPS n f S P U a hi hl) (hv : VSg S) (h1 : S.length ≤ 100) (h2 : P.length + S.length < 320) (w : ∀ hi', RPS n f (cls k S).1 (P ++ (cls k S).2) U a hi' hl → GF hi' hi hl hl → Q none (mkH hi' hl sw kp)) : cS (d + 2) 183 [.ref 279, .int (nI k)] (mkH hi hl sw kp) Q := cS.of rfl (c183 (d := d) hk S P hi h hv h1 h2 w)
/-- the formula's end -/
theorem c193e {o : PO} {o2 : Option Value} (h : RPS n f S P U a hi hl) (hI : PIV true S P U) (hst : stP (byt n f) (true, S, P, U, a) = .inr o) (h2 : ¬ (sgt (tk (byt n f) a) ≠ 0 ∧ ¬ (tg (sgt (tk (byt n f) a)) = 4 ∧ hr S))) (h41 : ¬ (ts (tk (byt n f) a) = 41 ∧ 20 ∈ S)) (w1 : ∀ P' U' a' hi' hl', o = .inr ((P', U'), a') → MS n f a' hi' hl' → RP P' U' hi' → GF hi' hi hl' hl → Q none (mkH hi' hl' sw kp)) (w0 : ∀ e hi' hl', o = .inl e → FL e hi' → RF hi' hi hl' hl → Q none (mkH hi' hl' sw kp)) : cW cd_193 (d + 2 + 2) Q 30 [some (.ref 279), some (.int 0), o2] [] (mkH hi hl sw kp) := by
  have z2 : hi 279 2 = 0 := h.1.2.2.2.2.1
  have hln := hI.ln
  have no0 : ∀ {p : Prop}, ¬ (0 : Int32) = 0 → p := fun z => absurd rfl z
  refine k_193_30 (fun _ _ => f192 (d := d + 3) h hI.1 (by omega) (fun hb => ?_) (fun hb => ?_)) (fun _ z => absurd z2 z) (fun z => no0 z) (fun z => no0 z) (fun z => no0 z) (fun z => no0 z) (fun z => no0 z) (fun z => no0 z)
  · rw [st_ef h41 h2 hb] at hst
    injection hst with eo
    have hF := FL.mk (hi := hi) (t := tk (byt n f) a) (w := 2) (by decide) (by decide)
    exact k_193_168 (fun z => absurd z (by decide)) (fun _ => f171 (d := d + 3) (w := 2) h.1 (k_193_176 (fun z => absurd z hF.ne) (fun _ => k_193_188 (w0 _ _ hl eo.symm hF ((RF.rf.u (by omega)).u (by omega))))))
  · rw [st_dn h2 hb] at hst
    injection hst with eo
    exact k_193_168 (fun _ => k_193_176 (fun _ => f183 (d := d + 2) (k := 0) (by decide) h hI.1 (by omega) (by omega) (fun hi1 s1 g1 => k_193_188 (w1 _ _ _ hi1 hl eo.symm s1.1 s1.2.1 g1))) (fun z => absurd z2 z)) (fun z => absurd rfl z)
/-- behind a unit -/
theorem c193 {o : PO} : ∀ (N k : Nat) (S : List Nat) (P : List (Nat × Nat)) (U a : Nat) (hi : Nat → Nat → Int32) (hl : Nat → Nat → Int64) (o2 : Option Value), k ≤ N → pm (byt n f) k (true, S, P, U, a) = some o → RPS n f S P U a hi hl → PIV true S P U → (∀ P' U' a' hi' hl', o = .inr ((P', U'), a') → MS n f a' hi' hl' → RP P' U' hi' → GF hi' hi hl' hl → Q none (mkH hi' hl' sw kp)) → (∀ e hi' hl', o = .inl e → FL e hi' → RF hi' hi hl' hl → Q none (mkH hi' hl' sw kp)) → cW cd_193 (d + 2 + 2) Q 30 [some (.ref 279), some (.int 1), o2] [] (mkH hi hl sw kp)
  | 0, k, _, _, _, _, _, _, _, hk, h, _, _, _, _ => by
    have : k = 0 := by omega
    subst this
    cases h
  | N + 1, 0, _, _, _, _, _, _, _, _, h, _, _, _, _ => by cases h
  | N + 1, k + 1, S, P, U, a, hi, hl, o2, hk, h, hS, hI, w1, w0 => by
    have h1 : (match stP (byt n f) (true, S, P, U, a) with
      | .inl s' => pm (byt n f) k s'
      | .inr o => some o) = some o := h
    have hM := hS.1
    have hv := hI.1
    have hln := hI.ln
    have z2 : hi 279 2 = 0 := hM.2.2.2.2.1
    have i41 : hi 279 6 = 41 ↔ ts (tk (byt n f) a) = 41 := hM.so (k := 41) (by decide)
    have eg := g191 hM
    obtain ⟨s, hs⟩ : ∃ s, s = sgt (tk (byt n f) a) := ⟨_, rfl⟩
    rw [← hs] at eg
    have hs128 : s < 128 := by
      by_cases c : s = 0
      · omega
      · have := sgt_ok (t := tk (byt n f) a) (by rw [← hs]; exact c)
        rw [← hs] at this
        omega
    have i0 : g_191 hi hl = 0 ↔ s = 0 := by rw [eg]; exact nI_eq (b := 0) (by omega) (by decide)
    have ht := tg_le s
    have e182 : g_182 (g_191 hi hl) = nI (tg s) := by rw [eg]; exact g182 s hs128
    have i4 : g_182 (g_191 hi hl) = 4 ↔ tg s = 4 := by rw [e182]; exact nI_eq (b := 4) (by omega) (by decide)
    have n10 : ∀ {p : Prop}, (1 : Int32) = 0 → p := fun z => absurd z (by decide)
    -- the end
    have fin : ¬ (ts (tk (byt n f) a) = 41 ∧ 20 ∈ S) → ¬ (s ≠ 0 ∧ ¬ (tg s = 4 ∧ hr S)) → ∀ q2 : Option Value, cW cd_193 (d + 2 + 2) Q 30 [some (.ref 279), some (.int 0), q2] [] (mkH hi hl sw kp) := fun q1 q2 o3 => by
      rw [hs] at q2
      by_cases hb : 20 ∈ S
      · have st := st_ef (b := byt n f) (P := P) (U := U) q1 q2 hb
        rw [st] at h1
        injection h1 with h3
        rw [h3] at st
        exact c193e hS hI st q2 q1 w1 w0
      · have st := st_dn (b := byt n f) (P := P) (U := U) q2 hb
        rw [st] at h1
        injection h1 with h3
        rw [h3] at st
        exact c193e hS hI st q2 q1 w1 w0
    -- a sign
    have sgn : s ≠ 0 → ¬ (tg s = 4 ∧ hr S) → cS (d + 2 + 2) 183 [.ref 279, .int (g_182 (g_191 hi hl))] (mkH hi hl sw kp) (am_ret (cW cd_193 (d + 2 + 2) Q) 121 [some (.ref 279), some (.int 1), some (.int (g_191 hi hl))] []) := fun q1 q2 => by
      have st := st_sg (b := byt n f) (P := P) (U := U) (by rw [← hs]; exact q1) (by rw [← hs]; exact q2)
      rw [← hs] at st
      rw [st] at h1
      have hok : okO s := by
        have := sgt_ok (t := tk (byt n f) a) (by rw [← hs]; exact q1)
        rw [← hs] at this
        exact this
      have hts := sgt_t (t := tk (byt n f) a) (by rw [← hs]; exact q1)
      have I2 : PIV false (s :: (cls (tg s) S).1) (P ++ (cls (tg s) S).2) U := hI.sg hok
      have l2 := I2.ln
      have l3 : (cls (tg s) S).1.length + 1 ≤ 40 := l2.1
      rw [e182, eg]
      refine f183 (d := d + 2) (by omega) hS hv (by omega) (by omega) (fun hi1 s1 g1 => ?_)
      obtain ⟨t1, t2, t3, t4, t5, t6⟩ := s1
      have hc : (hi1 279 19).toNatClampNeg = (cls (tg s) S).1.length := by rw [t4, nI_clamp (by omega)]
      refine k_193_121 (by rw [t4]; exact vp_in_nI (by omega) (by decide)) ?_
      rw [hc]
      refine f170r (d := d + 2) ((t1.u (by omega)).u (by omega)) hts.2 (fun hi2 hl2 m2 q3 => k_193_145 ?_)
      have s2 : RPS n f (s :: (cls (tg s) S).1) (P ++ (cls (tg s) S).2) U (te (tk (byt n f) a)) hi2 hl2 := by
        refine ⟨m2, (t2.cg (hi' := u2 (u2 hi1 286 (cls (tg s) S).1.length (nI s)) 279 19 (hi1 279 19 + 1)) (by rw [u2_nn (by omega), u2_nn (by omega)]) (by rw [u2_nn (by omega), u2_nn (by omega)]) (by rw [u2_row_ne (by decide), u2_row_ne (by decide)]) (by rw [u2_row_ne (by decide), u2_row_ne (by decide)])).fr q3, ?_, ?_, ?_, ?_⟩
        · rw [q3.1 279 22 (by omega), u2_nn (by omega), u2_nn (by omega)]; exact t3
        · rw [q3.1 279 19 (by omega), u2_s, t4]
          exact (nI_succ _).symm
        · rw [q3.1 279 23 (by omega), u2_nn (by omega), u2_nn (by omega), t5]
          show _ = nI (dp (cls (tg s) S).1 + (if s = 20 ∨ s = 21 then 1 else 0))
          rw [if_neg (by omega)]
          rfl
        · rw [q3.row (by decide), u2_row_ne (by decide)]
          exact ⟨u2_s, OPN.cg _ t6 (fun j hj => u2_nn (by omega))⟩
      have G2 : GF hi2 hi hl2 hl := (((g1.u (by omega)).u (by omega)).fr q3)
      refine e_190 (d := d + 1) (c190 (d := d) k _ _ _ _ hi2 hl2 h1 s2 I2 (fun k' S' P' U' a' hi' hl' b1 b2 b3 b4 b5 => k_193_149 ?_) (fun e hi' hl' b1 b2 b3 => k_193_149 ?_))
      · exact c193 N k' S' P' U' a' hi' hl' _ (by omega) b2 b3 b4 (fun P2 U2 a2 hi3 hl3 c1 c2 c3 c4 => w1 P2 U2 a2 hi3 hl3 c1 c2 c3 ((G2.tr b5).tr c4)) (fun e hi3 hl3 c1 c2 c3 => w0 e hi3 hl3 c1 c2 ((G2.tr b5).rF.tr c3))
      · refine k_193_30 (fun z => n10 z) (fun z => n10 z) (fun _ z => absurd z b2.ne) (fun _ z => absurd z b2.ne) (fun _ z => absurd z b2.ne) (fun _ z => absurd z b2.ne) (fun _ _ z => absurd z b2.ne) (fun _ _ _ => k_193_176 (fun z => absurd z b2.ne) (fun _ => k_193_188 (w0 e hi' hl' b1 b2 (G2.rF.tr b3))))
    refine k_193_30 (fun z => n10 z) (fun z => n10 z) (fun _ _ y1 => ?_) (fun _ _ y1 y2 => fin (fun z => y1 (i41.mpr z.1)) (fun z => z.1 (i0.mp y2)) _) (fun _ _ y1 y2 y3 => ?_) (fun _ _ y1 y2 y3 => sgn (fun z => y2 (i0.mpr z)) (fun z => y3 (i4.mpr z.1))) (fun _ z => absurd z2 z) (fun _ z => absurd z2 z)
    · have e41 := i41.mp y1
      have es0 : s = 0 := by rw [hs]; exact sgt41 e41
      refine f192 (d := d + 3) hS hv (by omega) (fun hb => ?_) (fun hb => ?_)
      · rw [st_cl e41 hb] at h1
        obtain ⟨R, r1, r2⟩ := hI.cl hb
        rw [r1] at h1
        refine k_193_59 (fun z => n10 z) (fun z => n10 z) (fun z => n10 z) (fun _ => f183 (d := d + 2) (k := 0) (by decide) hS hv (by omega) (by omega) (fun hi1 s1 g1 => k_193_67 ?_))
        rw [r1] at s1
        obtain ⟨t1, t2, t3, t4, t5, t6⟩ := s1
        have e19 : hi1 279 19 - 1 = nI R.length := by rw [t4]; exact nIm1 R.length
        have e23 : hi1 279 23 - 1 = nI (dp R) := by rw [t5]; exact nIm1 (dp R)
        rw [e19, e23]
        refine f170r (d := d + 2) ((t1.u (by omega)).u (by omega)) (by omega) (fun hi2 hl2 m2 q3 => k_193_91 ?_)
        have s2 : RPS n f R (P ++ (cls 0 S).2) U (te (tk (byt n f) a)) hi2 hl2 := by
          refine ⟨m2, (t2.cg (hi' := u2 (u2 hi1 279 19 (nI R.length)) 279 23 (nI (dp R))) (by rw [u2_nn (by omega), u2_nn (by omega)]) (by rw [u2_nn (by omega), u2_nn (by omega)]) (by rw [u2_row_ne (by decide), u2_row_ne (by decide)]) (by rw [u2_row_ne (by decide), u2_row_ne (by decide)])).fr q3, ?_, ?_, ?_, ?_⟩
          · rw [q3.1 279 22 (by omega), u2_nn (by omega), u2_nn (by omega)]; exact t3
          · rw [q3.1 279 19 (by omega), u2_nn (by omega), u2_s]
          · rw [q3.1 279 23 (by omega), u2_s]
          · rw [q3.row (by decide), u2_row_ne (by decide), u2_row_ne (by decide)]; exact t6.2
        have G2 : GF hi2 hi hl2 hl := (((g1.u (by omega)).u (by omega)).fr q3)
        exact c193 N k R _ U _ hi2 hl2 _ (by omega) h1 s2 r2 (fun P2 U2 a2 hi3 hl3 c1 c2 c3 c4 => w1 P2 U2 a2 hi3 hl3 c1 c2 c3 (G2.tr c4)) (fun e hi3 hl3 c1 c2 c3 => w0 e hi3 hl3 c1 c2 (G2.rF.tr c3))
      · exact k_193_59 (fun _ _ => fin (fun z => hb z.2) (fun z => z.1 es0) _) (fun _ z => absurd (i0.mpr es0) z) (fun _ z => absurd (i0.mpr es0) z) (fun z => absurd rfl z)
    · have h4 := i4.mp y3
      exact f184 (d := d + 2) hS hv (by omega) (fun hh => k_193_110 (fun z => n10 z) (fun _ => fin (fun z => y1 (i41.mpr z.1)) (fun z => z.2 ⟨h4, hh⟩) _)) (fun hh => k_193_110 (fun _ => sgn (fun z => y2 (i0.mpr z)) (fun z => hh z.2)) (fun z => absurd rfl z))
end VPU
