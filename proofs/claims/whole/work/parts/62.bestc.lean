/-! ===== the class's Laying: prepare, measure, compare, layFrom, choose ===== -/
section BESTC
variable {d : Nat} {Q : am_Q} {X hi : Nat → Nat → Int32} {hl hl0 : Nat → Nat → Int64} {sw : Bool} {kp : Nat → Nat} {V : vN} {c : Nat}
def NV (c j : Nat) : Prop := (19 ≤ c ∧ c ≤ 24) ∨ (294 ≤ c ∧ c ≤ 298) ∨ (c = 279 ∧ 45 ≤ j ∧ j ≤ 51)
theorem R_vil.fw {hi' hi : Nat → Nat → Int32} (e : ∀ c j, NV c j → hi' c j = hi c j) (h : R_vil V hi) : R_vil V hi' := by
  have a : ∀ c, 19 ≤ c → c ≤ 24 → hi' c = hi c := fun c h1 h2 => funext (fun j => e c j (Or.inl ⟨h1, h2⟩))
  have b : ∀ c, 294 ≤ c → c ≤ 298 → hi' c = hi c := fun c h1 h2 => funext (fun j => e c j (Or.inr (Or.inl ⟨h1, h2⟩)))
  have f : ∀ j, 45 ≤ j → j ≤ 51 → hi' 279 j = hi 279 j := fun j h1 h2 => e 279 j (Or.inr (Or.inr ⟨rfl, h1, h2⟩))
  unfold R_vil at h ⊢
  rw [a 19 (by decide) (by decide), a 20 (by decide) (by decide), a 21 (by decide) (by decide), a 22 (by decide) (by decide), a 23 (by decide) (by decide), a 24 (by decide) (by decide), b 294 (by decide) (by decide), b 295 (by decide) (by decide), b 296 (by decide) (by decide), b 297 (by decide) (by decide), b 298 (by decide) (by decide), f 45 (by decide) (by decide), f 46 (by decide) (by decide), f 47 (by decide) (by decide), f 48 (by decide) (by decide), f 49 (by decide) (by decide), f 50 (by decide) (by decide), f 51 (by decide) (by decide)]
  exact h
theorem R_pul.fw {hi' hi : Nat → Nat → Int32} (e : ∀ c j, (c = 25 ∨ c = 26 ∨ c = 284 ∨ c = 285 ∨ (c = 279 ∧ (j = 18 ∨ j = 21 ∨ j = 58))) → hi' c j = hi c j) (h : R_pul hi) : R_pul hi' := by
  have a25 : hi' 25 = hi 25 := funext (fun j => e 25 j (by omega))
  have a26 : hi' 26 = hi 26 := funext (fun j => e 26 j (by omega))
  have a284 : hi' 284 = hi 284 := funext (fun j => e 284 j (by omega))
  have a285 : hi' 285 = hi 285 := funext (fun j => e 285 j (by omega))
  unfold R_pul at h ⊢
  rw [a25, a26, a284, a285, e 279 18 (by omega), e 279 21 (by omega), e 279 58 (by omega)]
  exact h
theorem NR_cg {X Y : Nat → Nat → Int32} {B : Nat} (e : X 22 = Y 22) : ∀ u q, NR V X B u q → NR V Y B u q
  | 0, _, h => h
  | u + 1, q, h => by
    rcases h with h | ⟨f, h1, h2, h3⟩
    · exact Or.inl (NR_cg e u q h)
    · exact Or.inr ⟨f, h1, NR_cg e u f h2, by rw [← e]; exact h3⟩
theorem PU_fq {X Y : Nat → Nat → Int32} {p b h q : Nat} (e : ∀ c j, NQ c j → X c j = Y c j) : PU V X p b h q = PU V Y p b h q := by
  have e20 : X 20 = Y 20 := funext (fun j => e 20 j (by unfold NQ; omega))
  have e284 : X 284 = Y 284 := funext (fun j => e 284 j (by unfold NQ; omega))
  have e285 : X 285 = Y 285 := funext (fun j => e 285 j (by unfold NQ; omega))
  have e58 : X 279 58 = Y 279 58 := e 279 58 (by unfold NQ; omega)
  have e18 : X 279 18 = Y 279 18 := e 279 18 (by unfold NQ; omega)
  unfold PU pval
  rw [e20, e284, e285, e58, e18]
theorem cnA_fq {X Y : Nat → Nat → Int32} (e : ∀ c j, NQ c j → X c j = Y c j) : cnA X = cnA Y := by
  have e24 : X 24 = Y 24 := funext (fun j => e 24 j (by unfold NQ; omega))
  have e21 : X 21 = Y 21 := funext (fun j => e 21 j (by unfold NQ; omega))
  funext c t
  unfold cnA
  rw [e24, e21]
/-- what the laying leaves alone -/
def LFr (a : Nat) : Prop := ¬ (a = 27 ∨ (256 ≤ a ∧ a ≤ 260) ∨ a = 264 ∨ a = 265)
/-- the laying is prepared: case c, n hours, hT of them today, up to M bones -/
def LI (V : vN) (X : Nat → Nat → Int32) (c n hT B M H : Nat) (bo : Nat → Nat) (hi : Nat → Nat → Int32) : Prop :=
  (∀ a j, LFr a → hi a j = X a j) ∧ AIM V X c (hi 256) (hi 260) ∧ hi 264 7 = nI n ∧ hi 264 8 = nI hT ∧
  (∀ u t l e, u < n → t < vP V → l ≤ M → e < 2 → hi 258 (ix u t l e) = nI (PU V X t (if H / vDy V < (H + u) / vDy V then 0 else bo t + l) (H + u) e)) ∧
  (∀ u f t, hT ≤ u → u < n → f < vP V → NR V X B u f → t < vP V → hi 259 ((u * 8 + f) * 8 + t) = nI (WY V X bo H u f t))
theorem LI.nq {n hT B M H : Nat} {bo : Nat → Nat} (h : LI V X c n hT B M H bo hi) : ∀ a j, NQ a j → hi a j = X a j := fun a j q => h.1 a j (by unfold NQ at q; unfold LFr; omega)
theorem LI.vil {n hT B M H : Nat} {bo : Nat → Nat} (h : LI V X c n hT B M H bo hi) (hv : R_vil V X) : R_vil V hi := hv.fw (fun a j q => h.1 a j (by unfold NV at q; unfold LFr; omega))
/-- another heap with the same rows -/
theorem LI.ofA {hi' : Nat → Nat → Int32} {n hT B M H : Nat} {bo : Nat → Nat} (h : LI V X c n hT B M H bo hi) (e : ∀ a j, a ≠ 256 → a ≠ 257 → a ≠ 259 → a ≠ 260 → a ≠ 265 → ¬ (a = 264 ∧ (j = 5 ∨ j = 6)) → hi' a j = hi a j) (e2 : ∀ j, 64 * hT ≤ j → hi' 259 j = hi 259 j) (e3 : AIM V X c (hi' 256) (hi' 260)) : LI V X c n hT B M H bo hi' := by
  obtain ⟨h1, h2, h3, h4, h5, h6⟩ := h
  refine ⟨fun a j q => ?_, e3, ?_, ?_, fun u t l y a1 a2 a3 a4 => ?_, fun u f t a1 a2 a3 a4 a5 => ?_⟩
  · rw [e a j (by unfold LFr at q; omega) (by unfold LFr at q; omega) (by unfold LFr at q; omega) (by unfold LFr at q; omega) (by unfold LFr at q; omega) (by unfold LFr at q; omega)]
    exact h1 a j q
  · rw [e 264 7 (by decide) (by decide) (by decide) (by decide) (by decide) (by omega)]; exact h3
  · rw [e 264 8 (by decide) (by decide) (by decide) (by decide) (by decide) (by omega)]; exact h4
  · rw [e 258 _ (by decide) (by decide) (by decide) (by decide) (by decide) (by omega)]; exact h5 u t l y a1 a2 a3 a4
  · rw [e2 _ (by omega)]; exact h6 u f t a1 a2 a3 a4 a5
theorem LI.of {hi' : Nat → Nat → Int32} {n hT B M H : Nat} {bo : Nat → Nat} (h : LI V X c n hT B M H bo hi) (e : ∀ a j, a ≠ 256 → a ≠ 257 → a ≠ 259 → a ≠ 260 → a ≠ 265 → ¬ (a = 264 ∧ (j = 5 ∨ j = 6)) → hi' a j = hi a j) (e2 : ∀ j, 64 * hT ≤ j → hi' 259 j = hi 259 j) (e3 : hi' 256 = hi 256) (e4 : hi' 260 = hi 260) : LI V X c n hT B M H bo hi' := h.ofA e e2 (by rw [e3, e4]; exact h.2.1)
theorem f16 {n M B H : Nat} {bo : Nat → Nat} (hv : R_vil V X) (hpu : R_pul X) (hsn : SN V X H bo) (hc : c < vC V) (hn : n ≤ 8) (hM : M ≤ 4) (d1 : g_84 X = nI B) (hB : B < 256) (w' : ∀ (X1 hi' : Nat → Nat → Int32), (∀ a j, a ≠ 264 → X1 a j = X a j) → LI V X1 c n (min (vDy V - H % vDy V) n) B M H bo hi' → (∀ j, j < 8 → hi' 257 j = nI 0) → Q none (mkH hi' hl sw kp)) : cS (d + 6) 16 [.ref 264, .int (nI c), .int (nI n), .int (nI M)] (mkH X hl sw kp) Q := by
  have hb := hv.1
  obtain ⟨n1, n2, n3, n4, n5, n6, n7⟩ := id hsn
  have hmd : H % vDy V < vDy V := Nat.mod_lt _ (by omega)
  have e117 : g_117 (u2 X 264 7 (nI n)) (X 28 1) = nI (H % vDy V) := by
    have x19 : (u2 X 264 7 (nI n)) 19 4 = nI (vDy V) := hv.2.1.2.2.2.2.1
    unfold g_117
    rw [x19, n2, if_neg (nI_nle (n := vDy V) (by omega) (by omega)), pk_rem (by omega) (by omega) (by omega)]
  have eT : (if X 19 4 - g_117 (u2 X 264 7 (nI n)) (X 28 1) < nI n then X 19 4 - g_117 (u2 X 264 7 (nI n)) (X 28 1) else nI n) = nI (min (vDy V - H % vDy V) n) := by
    rw [e117, hv.2.1.2.2.2.2.1, pk_sub (by omega)]
    by_cases cc : vDy V - H % vDy V < n
    · rw [if_pos (nI_lt cc (by omega)), Nat.min_eq_left (by omega)]
    · rw [if_neg (nI_nlt (by omega) (by omega)), Nat.min_eq_right (by omega)]
  refine e_16 ?_
  rw [eT]
  obtain ⟨X1, eX⟩ : ∃ X1, X1 = u2 (u2 X 264 7 (nI n)) 264 8 (nI (min (vDy V - H % vDy V) n)) := ⟨_, rfl⟩
  rw [← eX]
  have fr : ∀ a j, a ≠ 264 → X1 a j = X a j := fun a j h => by rw [eX, u2_row_ne h, u2_row_ne h]
  have hv1 : R_vil V X1 := hv.fw (fun a j h => fr a j (by unfold NV at h; omega))
  have hp1 : R_pul X1 := hpu.fw (fun a j h => fr a j (by omega))
  have x8 : X1 264 7 = nI n := by rw [eX, u2_nn (by decide), u2_s]
  have x9 : X1 264 8 = nI (min (vDy V - H % vDy V) n) := by rw [eX, u2_s]
  have g84 : ∀ s m p, g_84 (cx X1 s (X1 256) m p (X1 259) (X1 260)) = nI B := fun s m p => by
    rw [← d1]
    unfold g_84
    have : (cx X1 s (X1 256) m p (X1 259) (X1 260)) 28 0 = X 28 0 := fr 28 0 (by decide)
    rw [this]
  refine cS.hi cx_id.symm (f38 (d := d + 3) (fun m' hm' => k_16_42 (f39 (d := d) (V := V) (N := n) (M := M) (H := H) (bo := bo) hv1 hp1 hn hM n1 (by rw [fr 28 1 (by decide)]; exact n2) (fun t ht => by rw [fr 29 t (by decide)]; exact (n5 t (by omega)).2.1) (fun s' p' hp' => k_16_51 ?_))))
  have x9' : (cx X1 s' (X1 256) m' p' (X1 259) (X1 260)) 264 8 = nI (min (vDy V - H % vDy V) n) := x9
  rw [g84, x9']
  refine f40 (d := d + 2) (V := V) (fi := min (vDy V - H % vDy V) n) (en := n) (mr := fun _ => 0) (pl := fun u t e => PU V X1 t (if H / vDy V < (H + u) / vDy V then 0 else bo t) (H + u) e) hv1 hB (by omega) hn (fun t ht => ⟨hm' t (by omega), by decide⟩) (fun u t e _ hu ht he => hp' u t 0 e hu ht (Nat.zero_le M) he) (fun u t e => PU_le) (fun v hv2 hv3 => k_16_70 (f50 (d := d + 2) hv1 hc (fun g1 o1 hA1 => k_16_78 (w' X1 _ fr ⟨fun a j q => ?_, hA1, x8, x9, fun u t l e a1 a2 a3 a4 => hp' u t l e a1 a2 a3 a4, fun u f t a1 a2 a3 a4 a5 => hv2 u f t a1 a2 a3 a4 a5⟩ (fun j hj => hm' j hj)))))
  show uR (uR (uR (uR (uR (uR X1 27 s') 256 _) 257 m') 258 p') 259 v) 260 _ a j = _
  unfold LFr at q
  rw [uR_ne (by omega), uR_ne (by omega), uR_ne (by omega), uR_ne (by omega), uR_ne (by omega), uR_ne (by omega)]
theorem day_over {H u : Nat} (hd : 0 < vDy V) (h : vDy V - H % vDy V ≤ u) : H / vDy V < (H + u) / vDy V := by
  have h1 := Nat.div_add_mod H (vDy V)
  have h2 := Nat.mod_lt H hd
  rw [Nat.lt_iff_add_one_le, Nat.le_div_iff_mul_le hd, Nat.add_mul, Nat.one_mul, Nat.mul_comm]
  omega
theorem WY_late {bb bo : Nat → Nat} {H u f t : Nat} (hd : 0 < vDy V) (h : vDy V - H % vDy V ≤ u) : WY V X bb H u f t = WY V X bo H u f t := by
  have hq : qp V X bb H u f = qp V X bo H u f := by
    funext t
    unfold qp
    rw [if_pos (day_over hd h), if_pos (day_over hd h)]
  unfold WY
  rw [hq]
def LL (hl hl0 : Nat → Nat → Int64) : Prop := ∀ a, a ≠ 261 → a ≠ 262 → a ≠ 264 → hl a = hl0 a
theorem f17 {n M B H D0 : Nat} {bo mr : Nat → Nat} (hv : R_vil V X) (hsn : SN V X H bo) (hc : c < vC V) (hcs : CSE V X c) (hn : n ≤ 8) (hM : M ≤ 4) (hdg : DG V X D0 B) (d1 : g_84 X = nI B) (hB : B < 256) (hli : LI V X c n (min (vDy V - H % vDy V) n) B M H bo hi) (hll : LL hl hl0) (hm : ∀ t, t < vP V → hi 257 t = nI (mr t) ∧ mr t ≤ M)
    (w' : ∀ (hi' : Nat → Nat → Int32) (hl' : Nat → Nat → Int64) (sw' : Bool), LI V X c n (min (vDy V - H % vDy V) n) B M H bo hi' → LL hl' hl0 → hi' 257 = hi 257 → hi' 265 = hi 265 → hi' 264 = hi 264 → hl' 264 = hl 264 → Q (some (.long (lN (wp V X (fun t => bo t + mr t) H c n D0)))) (mkH hi' hl' sw' kp)) : cS (d + 6) 17 [.ref 264] (mkH hi hl sw kp) Q := by
  have hb := hv.1
  obtain ⟨n1, n2, n3, n4, n5, n6, n7⟩ := id hsn
  have nq := hli.nq
  have hvh := hli.vil hv
  obtain ⟨l1, l2, l3, l4, l5, l6⟩ := id hli
  have e22 : hi 22 = X 22 := funext (fun j => nq 22 j (by unfold NQ; omega))
  have ePU : ∀ t b h e, PU V X t b h e = PU V hi t b h e := fun t b h e => (PU_fq nq).symm
  have g84 : g_84 hi = nI B := by
    rw [← d1]
    unfold g_84
    rw [nq 28 0 (by unfold NQ; omega)]
  refine e_17 ?_
  rw [g84, l4]
  refine cS.hi cx_id.symm (f40 (d := d + 2) (V := V) (hi := hi) (fi := 0) (en := min (vDy V - H % vDy V) n) (mr := mr) (pl := fun u t e => PU V hi t (if H / vDy V < (H + u) / vDy V then 0 else bo t + mr t) (H + u) e) hvh hB (by decide) (by omega) (fun t ht => ⟨(hm t ht).1, by have := (hm t ht).2; omega⟩) (fun u t e _ hu ht he => ?_) (fun u t e => PU_le) (fun v hv2 hv3 => k_17_19 ?_))
  · rw [l5 u t (mr t) e (by omega) ht (hm t ht).2 he, ePU]
  · have hcw : CW V hi B (fun t => bo t + mr t) H n v := by
      intro u f t hu hf hN ht
      by_cases cu : u < min (vDy V - H % vDy V) n
      · exact hv2 u f t (Nat.zero_le u) cu hf hN ht
      · rw [hv3 _ (Or.inr (by omega)), l6 u f t (by omega) hu hf (NR_cg e22 u f hN) ht, WY_late (V := V) (X := hi) (bb := fun t => bo t + mr t) (bo := bo) (by omega) (by omega)]
        unfold WY
        rw [qp_fq nq]
    have e280 : (cx hi (hi 27) (hi 256) (hi 257) (hi 258) v (hi 260)) 28 0 = X 28 0 := nq 28 0 (by unfold NQ; omega)
    have e8 : (cx hi (hi 27) (hi 256) (hi 257) (hi 258) v (hi 260)) 264 7 = nI n := l3
    rw [e280, e8]
    have aX : ∀ o' g' : Nat → Int32, AIM V X c o' g' ↔ AIM V hi c o' g' := fun o' g' => by
      unfold AIM
      rw [cnA_fq nq]
    have q31 : hi 31 c = X 31 c := nq 31 c (by unfold NQ; omega)
    have q30 : hi 30 c = X 30 c := nq 30 c (by unfold NQ; omega)
    have q23 : hi 23 c = X 23 c := nq 23 c (by unfold NQ; omega)
    refine cS.hl lx_id.symm (f49 (d := d) (V := V) (hi := hi) (D0 := D0) (B := B) (oc := B) (bb := fun t => bo t + mr t) (H := H) (N := n) hvh hc hn (Nat.le_refl n) n1 (by rw [nq 28 1 (by unfold NQ; omega)]; exact n2) (by rw [q31]; exact hcs.2.2.1) (by rw [q31, q30, q23]; exact hcs.2.2.2) hdg (fun h => by
      rcases hdg with ⟨h1, h2, rfl⟩ | ⟨h1, -⟩
      · exact dogN (by omega)
      · omega) hcw ((aX _ _).mp l2) (fun sw' o' g' a' b' hA' => k_17_37 ?_))
    rw [wp_fr (X := hi) (Y := X) nq]
    refine w' _ _ sw' (hli.ofA (fun a j a1 a2 a3 a4 a5 a6 => ?_) (fun j hj => ?_) ((aX _ _).mpr hA')) (fun a h1 h2 h3 => ?_) rfl rfl rfl ?_
    · by_cases a27 : a = 27
      · subst a27; rfl
      · by_cases a258 : a = 258
        · subst a258; rfl
        · show uR (uR (uR (uR (uR (uR hi 27 _) 256 _) 257 _) 258 _) 259 v) 260 _ a j = _
          rw [uR_ne a4, uR_ne a3, uR_ne a258, uR_ne a2, uR_ne a1, uR_ne a27]
    · exact hv3 j (Or.inr hj)
    · show uR (uR hl 261 a') 262 b' a = _
      rw [uR_ne h2, uR_ne h1]
      exact hll a h1 h2 h3
    · show uR (uR hl 261 a') 262 b' 264 = _
      rw [uR_ne (by decide), uR_ne (by decide)]
/-- the best so far, as the class keeps it -/
def SCl (s : Bst) (hi : Nat → Nat → Int32) (hl : Nat → Nat → Int64) : Prop := hl 264 4 = bvl s ∧ BR s (hi 265)
theorem rwf_a1 {a b : List Nat} {j : Nat} (h : j < a.length) : rwf (a ++ b) j = rwf a j := by
  unfold rwf
  rw [List.getD_eq_getElem?_getD, List.getD_eq_getElem?_getD, List.getElem?_append_left h]
theorem rwf_md {a b : List Nat} {k : Nat} : rwf (a ++ k :: b) a.length = k := by
  unfold rwf
  rw [List.getD_eq_getElem?_getD, List.getElem?_append_right (Nat.le_refl _), Nat.sub_self]
  rfl
theorem fbs_app {F : List Nat → Nat} {bo : Nat → Nat} {P : Nat} {s : Bst} {A B : List (List Nat)} : fbs F bo P s (A ++ B) = fbs F bo P (fbs F bo P s A) B := List.foldl_append
theorem fbs_bv {F : List Nat → Nat} {bo : Nat → Nat} {P : Nat} (hF : ∀ l, F l < 2 ^ 62) : ∀ (L : List (List Nat)) (s : Bst), BV s → BV (fbs F bo P s L)
  | [], _, h => h
  | _ :: L, _, h => fbs_bv hF L _ (gst_bv (hF _) h)
theorem fbs_no {F : List Nat → Nat} {bo : Nat → Nat} {P : Nat} : ∀ (L : List (List Nat)) (s : Bst), (∀ l, l ∈ L → ¬ oks bo P (rwf l) = true) → fbs F bo P s L = s
  | [], _, _ => rfl
  | l :: L, s, h => by
    show fbs F bo P (gst F bo P s l) L = s
    have e : gst F bo P s l = s := if_neg (h l (List.mem_cons_self ..))
    rw [e]
    exact fbs_no L s (fun l' hl' => h l' (List.mem_cons_of_mem _ hl'))
theorem cmj_map {C : Nat → List (List Nat)} {k j : Nat} {pre : List Nat} : (cmj C k (j + 1)).map (fun l => pre ++ l) = (C (k - (j + 1))).map (fun l => (pre ++ [j + 1]) ++ l) ++ (cmj C k j).map (fun l => pre ++ l) := by
  show ((C (k - (j + 1))).map (List.cons (j + 1)) ++ cmj C k j).map (fun l => pre ++ l) = _
  rw [List.map_append, List.map_map]
  congr 1
  refine List.map_congr_left (fun l _ => ?_)
  show pre ++ (j + 1) :: l = (pre ++ [j + 1]) ++ l
  rw [List.append_assoc]
  rfl
theorem cmj_m0 {C : Nat → List (List Nat)} {k : Nat} {pre : List Nat} : (cmj C k 0).map (fun l => pre ++ l) = (C (k - 0)).map (fun l => (pre ++ [0]) ++ l) := by
  show ((C k).map (List.cons 0)).map (fun l => pre ++ l) = _
  rw [List.map_map]
  refine List.map_congr_left (fun l _ => ?_)
  show pre ++ 0 :: l = (pre ++ [0]) ++ l
  rw [List.append_assoc]
  rfl
/-- what there's no room for is passed over -/
theorem fbs_room {F : List Nat → Nat} {bo : Nat → Nat} {P k room : Nat} {C : Nat → List (List Nat)} {pre : List Nat} (hp : pre.length < P) (hr : ∀ j, room < j → j ≤ k → 9 < bo pre.length + j) (s : Bst) : ∀ e, room + e ≤ k → fbs F bo P s ((cmj C k (room + e)).map (fun l => pre ++ l)) = fbs F bo P s ((cmj C k room).map (fun l => pre ++ l))
  | 0, _ => rfl
  | e + 1, h => by
    show fbs F bo P s ((cmj C k (room + e + 1)).map (fun l => pre ++ l)) = _
    rw [cmj_map, fbs_app, fbs_no _ s (fun l hl => ?_)]
    · exact fbs_room hp hr s e (by omega)
    · obtain ⟨l', -, rfl⟩ := List.mem_map.mp hl
      intro q
      have h1 := (oks_iff P).mp q pre.length hp
      have h2 : rwf ((pre ++ [room + e + 1]) ++ l') pre.length = room + e + 1 := by
        rw [List.append_assoc]
        exact rwf_md
      rw [h2] at h1
      have h3 := hr (room + e + 1) (by omega) (by omega)
      omega
end BESTC
