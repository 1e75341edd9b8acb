/-! ===== states copied: State.copyFrom, Acts.dropOldest ===== -/
theorem SR.eq {V : vN} {bar bar' ob ob' bo bo' sc sc' sd sd' wk wk' row row' : Nat → Int32} (hb : bar' = bar) (h1 : ∀ j, j < 3 → ob' j = ob j) (h2 : ∀ j, j < 8 → bo' j = bo j) (h3 : ∀ j, j < 4 → sc' j = sc j) (h4 : ∀ j, j < 4 → sd' j = sd j) (h5 : ∀ j, j < 60 → wk' j = wk j) (h6 : ∀ k, k < 81 → row' k = row k) (h : SR V bar ob bo sc sd wk row) : SR V bar' ob' bo' sc' sd' wk' row' := by
  subst hb
  obtain ⟨H, s1, s2, s3, s4, s5, s6, s7, s8, s9, s10, s11, s12⟩ := h
  refine ⟨H, s1, by rw [h1 1 (by decide)]; exact s2, by rw [h6 17 (by decide)]; exact s3, by rw [h6 16 (by decide), h1 0 (by decide)]; exact s4, by rw [h1 0 (by decide)]; exact s5, by rw [h6 19 (by decide), h1 2 (by decide)]; exact s6, by rw [h1 2 (by decide)]; exact s7, by rw [h6 18 (by decide)]; exact s8, fun p hp => ?_, fun c hc => ?_, by rw [h6 20 (by decide)]; exact s11, fun k hk => ?_⟩
  · rw [h2 p hp, h6 p (by omega)]
    exact s9 p hp
  · rw [h6 (8 + c) (by omega), h6 (12 + c) (by omega), h3 c hc, h4 c hc]
    exact s10 c hc
  · rw [h6 (21 + k) (by omega), h5 _ (Nat.mod_lt _ (by decide))]
    exact s12 k hk
/-- the state from t on is copied to s -/
def CP (hi' hi : Nat → Nat → Int32) (s t : Nat) : Prop := (∀ c, c < s ∨ s + 4 < c → hi' c = hi c) ∧ (∀ j, j < 3 → hi' s j = hi t j) ∧ (∀ j, j < 8 → hi' (s + 1) j = hi (t + 1) j) ∧ (∀ j, j < 4 → hi' (s + 2) j = hi (t + 2) j) ∧ (∀ j, j < 4 → hi' (s + 3) j = hi (t + 3) j) ∧ (∀ j, j < 60 → hi' (s + 4) j = hi (t + 4) j)
theorem SRc.cp {V : vN} {hi' hi : Nat → Nat → Int32} {s t : Nat} {row row' : Nat → Int32} (c : CP hi' hi s t) (hs : s + 4 < 23 ∨ 23 < s) (hr : ∀ k, k < 81 → row' k = row k) (h : SRc V hi t row) : SRc V hi' s row' :=
  SR.eq (c.1 23 (by omega)) c.2.1 c.2.2.1 c.2.2.2.1 c.2.2.2.2.1 c.2.2.2.2.2 hr h
theorem SRc.fr2 {V : vN} {hi' hi : Nat → Nat → Int32} {s t : Nat} {row row' : Nat → Int32} (hb : hi' 23 = hi 23) (hc : ∀ i, i < 5 → hi' (s + i) = hi (t + i)) (hr : ∀ k, k < 81 → row' k = row k) (h : SRc V hi t row) : SRc V hi' s row' := by
  refine SR.eq hb ?_ ?_ ?_ ?_ ?_ hr h
  · intro j _; exact congrFun (hc 0 (by decide)) j
  · intro j _; exact congrFun (hc 1 (by decide)) j
  · intro j _; exact congrFun (hc 2 (by decide)) j
  · intro j _; exact congrFun (hc 3 (by decide)) j
  · intro j _; exact congrFun (hc 4 (by decide)) j
def stt (s : Nat) : Prop := s + 4 < 324 ∧ SH s = (7, 7) ∧ SH (s + 1) = (100, 8) ∧ SH (s + 2) = (100, 4) ∧ SH (s + 3) = (100, 4) ∧ SH (s + 4) = (100, 60) ∧ ∀ (sw : Bool) (kp : Nat → Nat), HR sw kp s 3 = some (s + 1) ∧ HR sw kp s 4 = some (s + 2) ∧ HR sw kp s 5 = some (s + 3) ∧ HR sw kp s 6 = some (s + 4)
theorem stt_28 : stt 28 := ⟨by decide, rfl, rfl, rfl, rfl, rfl, fun _ _ => ⟨rfl, rfl, rfl, rfl⟩⟩
theorem stt_b : ∀ {b : Nat}, b < 3 → stt (241 + 5 * b)
  | 0, _ => ⟨by decide, rfl, rfl, rfl, rfl, rfl, fun _ _ => ⟨rfl, rfl, rfl, rfl⟩⟩
  | 1, _ => ⟨by decide, rfl, rfl, rfl, rfl, rfl, fun _ _ => ⟨rfl, rfl, rfl, rfl⟩⟩
  | 2, _ => ⟨by decide, rfl, rfl, rfl, rfl, rfl, fun _ _ => ⟨rfl, rfl, rfl, rfl⟩⟩
  | b + 3, h => absurd h (by omega)
theorem stt_k : ∀ {b : Nat}, b < 41 → stt (35 + 5 * b)
  | 0, _ => ⟨by decide, rfl, rfl, rfl, rfl, rfl, fun _ _ => ⟨rfl, rfl, rfl, rfl⟩⟩
  | 1, _ => ⟨by decide, rfl, rfl, rfl, rfl, rfl, fun _ _ => ⟨rfl, rfl, rfl, rfl⟩⟩
  | 2, _ => ⟨by decide, rfl, rfl, rfl, rfl, rfl, fun _ _ => ⟨rfl, rfl, rfl, rfl⟩⟩
  | 3, _ => ⟨by decide, rfl, rfl, rfl, rfl, rfl, fun _ _ => ⟨rfl, rfl, rfl, rfl⟩⟩
  | 4, _ => ⟨by decide, rfl, rfl, rfl, rfl, rfl, fun _ _ => ⟨rfl, rfl, rfl, rfl⟩⟩
  | 5, _ => ⟨by decide, rfl, rfl, rfl, rfl, rfl, fun _ _ => ⟨rfl, rfl, rfl, rfl⟩⟩
  | 6, _ => ⟨by decide, rfl, rfl, rfl, rfl, rfl, fun _ _ => ⟨rfl, rfl, rfl, rfl⟩⟩
  | 7, _ => ⟨by decide, rfl, rfl, rfl, rfl, rfl, fun _ _ => ⟨rfl, rfl, rfl, rfl⟩⟩
  | 8, _ => ⟨by decide, rfl, rfl, rfl, rfl, rfl, fun _ _ => ⟨rfl, rfl, rfl, rfl⟩⟩
  | 9, _ => ⟨by decide, rfl, rfl, rfl, rfl, rfl, fun _ _ => ⟨rfl, rfl, rfl, rfl⟩⟩
  | 10, _ => ⟨by decide, rfl, rfl, rfl, rfl, rfl, fun _ _ => ⟨rfl, rfl, rfl, rfl⟩⟩
  | 11, _ => ⟨by decide, rfl, rfl, rfl, rfl, rfl, fun _ _ => ⟨rfl, rfl, rfl, rfl⟩⟩
  | 12, _ => ⟨by decide, rfl, rfl, rfl, rfl, rfl, fun _ _ => ⟨rfl, rfl, rfl, rfl⟩⟩
  | 13, _ => ⟨by decide, rfl, rfl, rfl, rfl, rfl, fun _ _ => ⟨rfl, rfl, rfl, rfl⟩⟩
  | 14, _ => ⟨by decide, rfl, rfl, rfl, rfl, rfl, fun _ _ => ⟨rfl, rfl, rfl, rfl⟩⟩
  | 15, _ => ⟨by decide, rfl, rfl, rfl, rfl, rfl, fun _ _ => ⟨rfl, rfl, rfl, rfl⟩⟩
  | 16, _ => ⟨by decide, rfl, rfl, rfl, rfl, rfl, fun _ _ => ⟨rfl, rfl, rfl, rfl⟩⟩
  | 17, _ => ⟨by decide, rfl, rfl, rfl, rfl, rfl, fun _ _ => ⟨rfl, rfl, rfl, rfl⟩⟩
  | 18, _ => ⟨by decide, rfl, rfl, rfl, rfl, rfl, fun _ _ => ⟨rfl, rfl, rfl, rfl⟩⟩
  | 19, _ => ⟨by decide, rfl, rfl, rfl, rfl, rfl, fun _ _ => ⟨rfl, rfl, rfl, rfl⟩⟩
  | 20, _ => ⟨by decide, rfl, rfl, rfl, rfl, rfl, fun _ _ => ⟨rfl, rfl, rfl, rfl⟩⟩
  | 21, _ => ⟨by decide, rfl, rfl, rfl, rfl, rfl, fun _ _ => ⟨rfl, rfl, rfl, rfl⟩⟩
  | 22, _ => ⟨by decide, rfl, rfl, rfl, rfl, rfl, fun _ _ => ⟨rfl, rfl, rfl, rfl⟩⟩
  | 23, _ => ⟨by decide, rfl, rfl, rfl, rfl, rfl, fun _ _ => ⟨rfl, rfl, rfl, rfl⟩⟩
  | 24, _ => ⟨by decide, rfl, rfl, rfl, rfl, rfl, fun _ _ => ⟨rfl, rfl, rfl, rfl⟩⟩
  | 25, _ => ⟨by decide, rfl, rfl, rfl, rfl, rfl, fun _ _ => ⟨rfl, rfl, rfl, rfl⟩⟩
  | 26, _ => ⟨by decide, rfl, rfl, rfl, rfl, rfl, fun _ _ => ⟨rfl, rfl, rfl, rfl⟩⟩
  | 27, _ => ⟨by decide, rfl, rfl, rfl, rfl, rfl, fun _ _ => ⟨rfl, rfl, rfl, rfl⟩⟩
  | 28, _ => ⟨by decide, rfl, rfl, rfl, rfl, rfl, fun _ _ => ⟨rfl, rfl, rfl, rfl⟩⟩
  | 29, _ => ⟨by decide, rfl, rfl, rfl, rfl, rfl, fun _ _ => ⟨rfl, rfl, rfl, rfl⟩⟩
  | 30, _ => ⟨by decide, rfl, rfl, rfl, rfl, rfl, fun _ _ => ⟨rfl, rfl, rfl, rfl⟩⟩
  | 31, _ => ⟨by decide, rfl, rfl, rfl, rfl, rfl, fun _ _ => ⟨rfl, rfl, rfl, rfl⟩⟩
  | 32, _ => ⟨by decide, rfl, rfl, rfl, rfl, rfl, fun _ _ => ⟨rfl, rfl, rfl, rfl⟩⟩
  | 33, _ => ⟨by decide, rfl, rfl, rfl, rfl, rfl, fun _ _ => ⟨rfl, rfl, rfl, rfl⟩⟩
  | 34, _ => ⟨by decide, rfl, rfl, rfl, rfl, rfl, fun _ _ => ⟨rfl, rfl, rfl, rfl⟩⟩
  | 35, _ => ⟨by decide, rfl, rfl, rfl, rfl, rfl, fun _ _ => ⟨rfl, rfl, rfl, rfl⟩⟩
  | 36, _ => ⟨by decide, rfl, rfl, rfl, rfl, rfl, fun _ _ => ⟨rfl, rfl, rfl, rfl⟩⟩
  | 37, _ => ⟨by decide, rfl, rfl, rfl, rfl, rfl, fun _ _ => ⟨rfl, rfl, rfl, rfl⟩⟩
  | 38, _ => ⟨by decide, rfl, rfl, rfl, rfl, rfl, fun _ _ => ⟨rfl, rfl, rfl, rfl⟩⟩
  | 39, _ => ⟨by decide, rfl, rfl, rfl, rfl, rfl, fun _ _ => ⟨rfl, rfl, rfl, rfl⟩⟩
  | 40, _ => ⟨by decide, rfl, rfl, rfl, rfl, rfl, fun _ _ => ⟨rfl, rfl, rfl, rfl⟩⟩
  | b + 41, h => absurd h (by omega)
section COPY
variable {d nx i k : Nat} {B : Nat × Nat} {K : am_K} {C : am_C} {Q : am_Q} {ls : am_Ls} {st : List Value} {hi : Nat → Nat → Int32} {hl : Nat → Nat → Int64} {sw : Bool} {kp : Nat → Nat} {a a0 s N : Nat} {x : Int32}
theorem cW.fd {cd : Nat → am_T} {pc : Nat} {h : am_Hp} (w : cd pc BB (cW cd d Q) (cC d) (cQ Q) ls st h) : cW cd d Q pc ls st h := am_WP.fold w
theorem q_ald {h : am_Hp} (e : am_nth ls i = some (some (.ref a))) (w : K nx ls (.ref a :: st) h) : tm_ald nx i B K C Q ls st h := by
  unfold tm_ald
  rw [e]
  exact w
theorem q_push {h : am_Hp} {v : Value} (w : K nx ls (v :: st) h) : tm_push nx v B K C Q ls st h := w
theorem has7 (e : SH s = (7, 7)) (hs : s + 4 < 324) (hk : k < 7) : am_has (mkH hi hl sw kp) s 7 k = true := by
  show (Nat.blt s 324 && Nat.beq (SH s).1 7 && Nat.blt k (SH s).2) = true
  rw [e, Nat.blt_eq.mpr (by omega), Nat.blt_eq.mpr hk]
  rfl
theorem q_gfi (e : SH s = (7, 7)) (hs : s + 4 < 324) (hk : k < 7) (w : K nx ls (.int (hi s k) :: st) (mkH hi hl sw kp)) : tm_gfi nx 7 k B K C Q ls (.ref s :: st) (mkH hi hl sw kp) := by
  show bif am_has (mkH hi hl sw kp) s 7 k then _ else False
  rw [has7 e hs hk]
  exact w
theorem q_pfi (e : SH s = (7, 7)) (hs : s + 4 < 324) (hk : k < 7) (w : K nx ls st (mkH (u2 hi s k x) hl sw kp)) : tm_pfi nx 7 k B K C Q ls (.int x :: .ref s :: st) (mkH hi hl sw kp) := by
  show bif am_has (mkH hi hl sw kp) s 7 k then _ else False
  rw [has7 e hs hk]
  exact w
theorem q_gfr (e : SH s = (7, 7)) (hs : s + 4 < 324) (hk : k < 7) (er : HR sw kp s k = some a) (w : K nx ls (.ref a :: st) (mkH hi hl sw kp)) : tm_gfr nx 7 k B K C Q ls (.ref s :: st) (mkH hi hl sw kp) := by
  show bif am_has (mkH hi hl sw kp) s 7 k then (match HR sw kp s k with | some q => K nx ls (.ref q :: st) (mkH hi hl sw kp) | none => False) else False
  rw [has7 e hs hk, er]
  exact w
theorem q_cpy (ea : SH a = (100, N)) (ea0 : SH a0 = (100, N)) (ha : a < 324) (ha0 : a0 < 324) (hx : ¬ x < 0) (hN : x.toNatClampNeg = N) (w : K nx ls [] (mkH (uR hi a (va_cpy (hi a0) (hi a) 0 0 N)) hl sw kp)) : tm_cpy nx B K C Q ls [.int x, .int 0, .ref a, .int 0, .ref a0] (mkH hi hl sw kp) := by
  show bif (Nat.blt a 324 && Nat.beq (SH a).1 100) && (Nat.blt a0 324 && Nat.beq (SH a0).1 100) && Nat.ble 0 8 then (¬ (0 : Int32) < 0 ∧ ¬ (0 : Int32) < 0 ∧ ¬ x < 0 ∧ (0 : Int32).toNatClampNeg + x.toNatClampNeg ≤ (SH a0).2 ∧ (0 : Int32).toNatClampNeg + x.toNatClampNeg ≤ (SH a).2) ∧ K nx ls [] (mkH (uR hi a (va_cpy (hi a0) (hi a) 0 0 x.toNatClampNeg)) hl sw kp) else False
  rw [ea, ea0, Nat.blt_eq.mpr ha, Nat.blt_eq.mpr ha0, hN]
  refine ⟨⟨by decide, by decide, hx, ?_, ?_⟩, w⟩
  · show 0 + N ≤ N
    omega
  · show 0 + N ≤ N
    omega
theorem va_cpy0 {f g : Nat → Int32} {n j : Nat} (h : j < n) : va_cpy f g 0 0 n j = f j := by
  rw [pk_cpy_in (Nat.zero_le _) (by omega)]
  congr 1
  omega
theorem f80 {s t : Nat} (hs : stt s) (ht : stt t) (hd : s + 4 < t ∨ t + 4 < s) (w : ∀ hi', CP hi' hi s t → Q none (mkH hi' hl sw kp)) : cS (d + 1) 80 [.ref s, .ref t] (mkH hi hl sw kp) Q := by
  obtain ⟨s0, s1, s2, s3, s4, s5, s6⟩ := hs
  obtain ⟨t0, t1, t2, t3, t4, t5, t6⟩ := ht
  obtain ⟨r3, r4, r5, r6⟩ := s6 sw kp
  obtain ⟨z3, z4, z5, z6⟩ := t6 sw kp
  refine cS.of rfl ?_
  show cW cd_80 d Q 0 [some (.ref s), some (.ref t)] [] (mkH hi hl sw kp)
  refine cW.fd ?_
  rw [show cd_80 0 = tm_ald 1 0 from rfl]
  refine q_ald rfl ?_
  refine cW.fd ?_
  rw [show cd_80 1 = tm_ald 2 1 from rfl]
  refine q_ald rfl ?_
  refine cW.fd ?_
  rw [show cd_80 2 = tm_gfi 5 7 0 from rfl]
  refine q_gfi t1 t0 (by decide) ?_
  refine cW.fd ?_
  rw [show cd_80 5 = tm_pfi 8 7 0 from rfl]
  refine q_pfi s1 s0 (by decide) ?_
  refine cW.fd ?_
  rw [show cd_80 8 = tm_ald 9 0 from rfl]
  refine q_ald rfl ?_
  refine cW.fd ?_
  rw [show cd_80 9 = tm_ald 10 1 from rfl]
  refine q_ald rfl ?_
  refine cW.fd ?_
  rw [show cd_80 10 = tm_gfi 13 7 1 from rfl]
  refine q_gfi t1 t0 (by decide) ?_
  refine cW.fd ?_
  rw [show cd_80 13 = tm_pfi 16 7 1 from rfl]
  refine q_pfi s1 s0 (by decide) ?_
  refine cW.fd ?_
  rw [show cd_80 16 = tm_ald 17 0 from rfl]
  refine q_ald rfl ?_
  refine cW.fd ?_
  rw [show cd_80 17 = tm_ald 18 1 from rfl]
  refine q_ald rfl ?_
  refine cW.fd ?_
  rw [show cd_80 18 = tm_gfi 21 7 2 from rfl]
  refine q_gfi t1 t0 (by decide) ?_
  refine cW.fd ?_
  rw [show cd_80 21 = tm_pfi 24 7 2 from rfl]
  refine q_pfi s1 s0 (by decide) ?_
  refine cW.fd ?_
  rw [show cd_80 24 = tm_ald 25 1 from rfl]
  refine q_ald rfl ?_
  refine cW.fd ?_
  rw [show cd_80 25 = tm_gfr 28 7 3 from rfl]
  refine q_gfr t1 t0 (by decide) z3 ?_
  refine cW.fd ?_
  rw [show cd_80 28 = tm_push 29 (.int (0)) from rfl]
  refine q_push ?_
  refine cW.fd ?_
  rw [show cd_80 29 = tm_ald 30 0 from rfl]
  refine q_ald rfl ?_
  refine cW.fd ?_
  rw [show cd_80 30 = tm_gfr 33 7 3 from rfl]
  refine q_gfr s1 s0 (by decide) r3 ?_
  refine cW.fd ?_
  rw [show cd_80 33 = tm_push 34 (.int (0)) from rfl]
  refine q_push ?_
  refine cW.fd ?_
  rw [show cd_80 34 = tm_push 36 (.int (8)) from rfl]
  refine q_push ?_
  refine cW.fd ?_
  rw [show cd_80 36 = tm_cpy 39 from rfl]
  refine q_cpy s2 t2 (by omega) (by omega) (by decide) (by decide) ?_
  refine cW.fd ?_
  rw [show cd_80 39 = tm_ald 40 1 from rfl]
  refine q_ald rfl ?_
  refine cW.fd ?_
  rw [show cd_80 40 = tm_gfr 43 7 4 from rfl]
  refine q_gfr t1 t0 (by decide) z4 ?_
  refine cW.fd ?_
  rw [show cd_80 43 = tm_push 44 (.int (0)) from rfl]
  refine q_push ?_
  refine cW.fd ?_
  rw [show cd_80 44 = tm_ald 45 0 from rfl]
  refine q_ald rfl ?_
  refine cW.fd ?_
  rw [show cd_80 45 = tm_gfr 48 7 4 from rfl]
  refine q_gfr s1 s0 (by decide) r4 ?_
  refine cW.fd ?_
  rw [show cd_80 48 = tm_push 49 (.int (0)) from rfl]
  refine q_push ?_
  refine cW.fd ?_
  rw [show cd_80 49 = tm_push 50 (.int (4)) from rfl]
  refine q_push ?_
  refine cW.fd ?_
  rw [show cd_80 50 = tm_cpy 53 from rfl]
  refine q_cpy s3 t3 (by omega) (by omega) (by decide) (by decide) ?_
  refine cW.fd ?_
  rw [show cd_80 53 = tm_ald 54 1 from rfl]
  refine q_ald rfl ?_
  refine cW.fd ?_
  rw [show cd_80 54 = tm_gfr 57 7 5 from rfl]
  refine q_gfr t1 t0 (by decide) z5 ?_
  refine cW.fd ?_
  rw [show cd_80 57 = tm_push 58 (.int (0)) from rfl]
  refine q_push ?_
  refine cW.fd ?_
  rw [show cd_80 58 = tm_ald 59 0 from rfl]
  refine q_ald rfl ?_
  refine cW.fd ?_
  rw [show cd_80 59 = tm_gfr 62 7 5 from rfl]
  refine q_gfr s1 s0 (by decide) r5 ?_
  refine cW.fd ?_
  rw [show cd_80 62 = tm_push 63 (.int (0)) from rfl]
  refine q_push ?_
  refine cW.fd ?_
  rw [show cd_80 63 = tm_push 64 (.int (4)) from rfl]
  refine q_push ?_
  refine cW.fd ?_
  rw [show cd_80 64 = tm_cpy 67 from rfl]
  refine q_cpy s4 t4 (by omega) (by omega) (by decide) (by decide) ?_
  refine cW.fd ?_
  rw [show cd_80 67 = tm_ald 68 1 from rfl]
  refine q_ald rfl ?_
  refine cW.fd ?_
  rw [show cd_80 68 = tm_gfr 71 7 6 from rfl]
  refine q_gfr t1 t0 (by decide) z6 ?_
  refine cW.fd ?_
  rw [show cd_80 71 = tm_push 72 (.int (0)) from rfl]
  refine q_push ?_
  refine cW.fd ?_
  rw [show cd_80 72 = tm_ald 73 0 from rfl]
  refine q_ald rfl ?_
  refine cW.fd ?_
  rw [show cd_80 73 = tm_gfr 76 7 6 from rfl]
  refine q_gfr s1 s0 (by decide) r6 ?_
  refine cW.fd ?_
  rw [show cd_80 76 = tm_push 77 (.int (0)) from rfl]
  refine q_push ?_
  refine cW.fd ?_
  rw [show cd_80 77 = tm_push 79 (.int (60)) from rfl]
  refine q_push ?_
  refine cW.fd ?_
  rw [show cd_80 79 = tm_cpy 82 from rfl]
  refine q_cpy s5 t5 (by omega) (by omega) (by decide) (by decide) ?_
  refine cW.fd ?_
  rw [show cd_80 82 = tm_vret from rfl]
  refine cQ.of (w _ ⟨fun c hc => ?_, fun j hj => ?_, fun j hj => ?_, fun j hj => ?_, fun j hj => ?_, fun j hj => ?_⟩)
  · simp only [uR_ne (show c ≠ s + 4 by omega), uR_ne (show c ≠ s + 3 by omega), uR_ne (show c ≠ s + 2 by omega), uR_ne (show c ≠ s + 1 by omega), u2_row_ne (show c ≠ s by omega)]
  · simp only [uR_ne (show s ≠ s + 4 by omega), uR_ne (show s ≠ s + 3 by omega), uR_ne (show s ≠ s + 2 by omega), uR_ne (show s ≠ s + 1 by omega), u2_row, u2_row_ne (show t ≠ s by omega)]
    rcases (show j = 0 ∨ j = 1 ∨ j = 2 by omega) with rfl | rfl | rfl <;> rfl
  · simp only [uR_ne (show s + 1 ≠ s + 4 by omega), uR_ne (show s + 1 ≠ s + 3 by omega), uR_ne (show s + 1 ≠ s + 2 by omega)]
    rw [uR_eq, if_pos rfl, va_cpy0 hj]
    simp only [u2_row_ne (show t + 1 ≠ s by omega)]
  · simp only [uR_ne (show s + 2 ≠ s + 4 by omega), uR_ne (show s + 2 ≠ s + 3 by omega)]
    rw [uR_eq, if_pos rfl, va_cpy0 hj]
    simp only [uR_ne (show t + 2 ≠ s + 1 by omega), u2_row_ne (show t + 2 ≠ s by omega)]
  · simp only [uR_ne (show s + 3 ≠ s + 4 by omega)]
    rw [uR_eq, if_pos rfl, va_cpy0 hj]
    simp only [uR_ne (show t + 3 ≠ s + 2 by omega), uR_ne (show t + 3 ≠ s + 1 by omega), u2_row_ne (show t + 3 ≠ s by omega)]
  · rw [uR_eq, if_pos rfl, va_cpy0 hj]
    simp only [uR_ne (show t + 4 ≠ s + 3 by omega), uR_ne (show t + 4 ≠ s + 2 by omega), uR_ne (show t + 4 ≠ s + 1 by omega), u2_row_ne (show t + 4 ≠ s by omega)]
/-- how the kept states stand when one is put at a place -/
def kpu (kp : Nat → Nat) (i v : Nat) : Nat → Nat := fun j => if j = i then v else kp j
theorem HR_ne {kp' : Nat → Nat} (h : a ≠ 34) : HR sw kp' a = HR sw kp a := by
  have e : ∀ kp : Nat → Nat, HR sw kp a = (bif Nat.ble a 33 then HR sw (fun _ => 0) a else bif Nat.ble a 34 then (fun j => some (35 + 5 * kp j)) else HR sw (fun _ => 0) a) := by
    intro kp
    unfold HR
    cases h1 : Nat.ble a 33 with
    | true =>
      show (bif Nat.ble a 33 then _ else _) = (bif true then (bif Nat.ble a 33 then _ else _) else _)
      rw [h1]
      rfl
    | false =>
      show (bif Nat.ble a 33 then _ else (bif Nat.ble a 34 then _ else _)) = (bif false then _ else (bif Nat.ble a 34 then _ else (bif Nat.ble a 33 then _ else (bif Nat.ble a 34 then _ else _))))
      rw [h1]
      cases h2 : Nat.ble a 34 <;> rfl
  have q : Nat.ble a 33 = true ∨ Nat.ble a 34 = false := by
    rcases Nat.lt_or_ge 34 a with z | z
    · exact Or.inr (ble_f z)
    · exact Or.inl (Nat.ble_eq_true_of_le (by omega))
  rw [e kp', e kp]
  rcases q with q | q
  · rw [q]; rfl
  · rw [q]; rfl
theorem HR_u2 {i v : Nat} : u2 (HR sw kp) 34 i (some (35 + 5 * v)) = HR sw (kpu kp i v) := by
  funext a b
  rw [u2_eq]
  by_cases ha : a = 34
  · subst ha
    show _ = some (35 + 5 * (if b = i then v else kp b))
    by_cases hb : b = i
    · rw [if_pos ⟨rfl, hb⟩, if_pos hb]
    · rw [if_neg (fun q => hb q.2), if_neg hb]
      rfl
  · rw [if_neg (fun q => ha q.1)]
    exact congrFun (HR_ne (kp' := kp) (kp := kpu kp i v) ha) b
theorem q_aast {x : Int32} {q : Nat} (hq : q < 41) (hx : vp_in x 41) (w : K nx ls st (mkH hi hl sw (kpu kp x.toNatClampNeg q))) : tm_aast nx B K C Q ls (.ref (35 + 5 * q) :: .int x :: .ref 34 :: st) (mkH hi hl sw kp) := by
  show bif am_is (mkH hi hl sw kp) 34 104 && am_is (mkH hi hl sw kp) (35 + 5 * q) 7 then vp_in x 41 ∧ K nx ls st (324, 16034, SH, hi, hl, u2 (HR sw kp) 34 x.toNatClampNeg (some (35 + 5 * q))) else False
  rw [show am_is (mkH hi hl sw kp) 34 104 = true from rfl, st_k hq, HR_u2]
  exact ⟨hx, w⟩
set_option maxRecDepth 100000 in
theorem k3_0 (w : cW cd_3 d Q 9 [some (.ref 33), some (.ref (35 + 5 * kp (0 : Int32).toNatClampNeg)), some (.int 0)] [] (mkH hi hl sw kp)) : cW cd_3 d Q 0 [some (.ref 33), none, none] [] (mkH hi hl sw kp) :=
  cW.run (am_in [9]) 7 (And.intro (show vp_in (0 : Int32) 41 from vp_in_nI (n := 0) (by decide) (by decide)) (And.intro (Nat.le_of_ble_eq_true rfl) (And.intro (Nat.le_of_ble_eq_true rfl) w)))
set_option maxRecDepth 100000 in
theorem k3_9 {x2 : Int32} {o : Nat} (h1 : (40 : Int32) ≤ x2 → cW cd_3 d Q 42 [some (.ref 33), some (.ref (35 + 5 * o)), some (.int x2)] [.ref (35 + 5 * o), .int 40, .ref 34] (mkH hi hl sw kp)) (h2 : ¬ (40 : Int32) ≤ x2 → vp_in (x2 + 1) 41)
    (w : ¬ (40 : Int32) ≤ x2 → cW cd_3 d Q 28 [some (.ref 33), some (.ref (35 + 5 * o)), some (.int x2)] [.ref (35 + 5 * kp (x2 + 1).toNatClampNeg), .int x2, .ref 34] (mkH hi hl sw kp)) : cW cd_3 d Q 9 [some (.ref 33), some (.ref (35 + 5 * o)), some (.int x2)] [] (mkH hi hl sw kp) :=
  cW.run (am_in [28, 42]) 12 (And.intro h1 (fun c => And.intro (h2 c) (w c)))
set_option maxRecDepth 100000 in
theorem k3_29 {x2 : Int32} {o : Nat} (w : cW cd_3 d Q 9 [some (.ref 33), some (.ref (35 + 5 * o)), some (.int (x2 + 1))] [] (mkH hi hl sw kp)) : cW cd_3 d Q 29 [some (.ref 33), some (.ref (35 + 5 * o)), some (.int x2)] [] (mkH hi hl sw kp) :=
  cW.run (am_in [9]) 2 (And.intro (Nat.le_of_ble_eq_true rfl) w)
set_option maxRecDepth 100000 in
theorem k3_43 {x2 : Int32} {o : Nat} (w : Q none (mkH (u2 hi 33 1 39) hl sw kp)) : cW cd_3 d Q 43 [some (.ref 33), some (.ref (35 + 5 * o)), some (.int x2)] [] (mkH hi hl sw kp) :=
  cW.run (am_in [9]) 4 (cQ.of w)
def kpr (kp : Nat → Nat) : Nat → Nat := fun j => if j < 40 then kp (j + 1) else if j = 40 then kp 0 else kp j
theorem f3 (hk : R_kp kp) (w : Q none (mkH (u2 hi 33 1 39) hl sw (kpr kp))) : cS (d + 1) 3 [.ref 33] (mkH hi hl sw kp) Q := by
  refine cS.of rfl (k3_0 ?_)
  have lp : ∀ n i, i + n = 40 → cW cd_3 d Q 9 [some (.ref 33), some (.ref (35 + 5 * kp 0)), some (.int (nI i))] [] (mkH hi hl sw (fun j => if j < i then kp (j + 1) else kp j)) := by
    intro n
    induction n with
    | zero =>
      intro i hi'
      have : i = 40 := by omega
      subst this
      refine k3_9 (fun _ => cW.fd (show tm_aast 43 BB (cW cd_3 d Q) (cC d) (cQ Q) _ _ _ from q_aast (hk.1 0 (by decide)) (show vp_in (40 : Int32) 41 from vp_in_nI (n := 40) (by decide) (by decide)) (k3_43 ?_))) (fun c => absurd (by decide) c) (fun c => absurd (by decide) c)
      have e : kpu (fun j => if j < 40 then kp (j + 1) else kp j) (40 : Int32).toNatClampNeg (kp 0) = kpr kp := by
        funext j
        show (if j = 40 then kp 0 else if j < 40 then kp (j + 1) else kp j) = if j < 40 then kp (j + 1) else if j = 40 then kp 0 else kp j
        by_cases h1 : j = 40
        · rw [if_pos h1, if_neg (by omega), if_pos h1]
        · rw [if_neg h1, if_neg h1]
      rw [e]
      exact w
    | succ n ih =>
      intro i hi'
      have ei : (nI i + 1).toNatClampNeg = i + 1 := by rw [nI_1, nI_clamp (by omega)]
      have hk1 := hk.1 (i + 1) (by omega)
      refine k3_9 (fun c => absurd c (nI_ge (a := i) (b := 40) (by omega) (by decide))) (fun _ => by rw [nI_1]; exact vp_in_nI (by omega) (by decide)) (fun _ => ?_)
      rw [ei]
      show cW cd_3 d Q 28 _ [.ref (35 + 5 * (if i + 1 < i then kp (i + 1 + 1) else kp (i + 1))), .int (nI i), .ref 34] _
      rw [if_neg (by omega)]
      refine cW.fd (show tm_aast 29 BB (cW cd_3 d Q) (cC d) (cQ Q) _ _ _ from q_aast hk1 (vp_in_nI (by omega) (by decide)) (k3_29 ?_))
      rw [nI_clamp (by omega), nI_1]
      have e : kpu (fun j => if j < i then kp (j + 1) else kp j) i (kp (i + 1)) = (fun j => if j < i + 1 then kp (j + 1) else kp j) := by
        funext j
        show (if j = i then kp (i + 1) else if j < i then kp (j + 1) else kp j) = if j < i + 1 then kp (j + 1) else kp j
        by_cases h1 : j = i
        · rw [if_pos h1, if_pos (by omega), h1]
        · rw [if_neg h1]
          by_cases h2 : j < i
          · rw [if_pos h2, if_pos (by omega)]
          · rw [if_neg h2, if_neg (by omega)]
      rw [e]
      exact ih (i + 1) (by omega)
  have e0 : (fun j => if j < 0 then kp (j + 1) else kp j) = kp := by
    funext j
    rw [if_neg (by omega)]
  have := lp 40 0 rfl
  rw [e0] at this
  exact this
theorem kpr_ok (hk : R_kp kp) : R_kp (kpr kp) := by
  have e : ∀ j, j < 41 → ∃ i, i < 41 ∧ kpr kp j = kp i ∧ i = (if j < 40 then j + 1 else 0) := by
    intro j hj
    unfold kpr
    by_cases h : j < 40
    · exact ⟨j + 1, by omega, by rw [if_pos h], by rw [if_pos h]⟩
    · exact ⟨0, by omega, by rw [if_neg h, if_pos (by omega)], by rw [if_neg h]⟩
  refine ⟨fun j hj => ?_, fun i j hi hj he => ?_⟩
  · obtain ⟨i, h1, h2, -⟩ := e j hj
    rw [h2]
    exact hk.1 i h1
  · obtain ⟨p, p1, p2, p3⟩ := e i hi
    obtain ⟨q, q1, q2, q3⟩ := e j hj
    rw [p2, q2] at he
    have := hk.2 p q p1 q1 he
    rw [p3, q3] at this
    by_cases h1 : i < 40
    · rw [if_pos h1] at this
      by_cases h2 : j < 40
      · rw [if_pos h2] at this; omega
      · rw [if_neg h2] at this; omega
    · rw [if_neg h1] at this
      by_cases h2 : j < 40
      · rw [if_pos h2] at this; omega
      · omega
end COPY
