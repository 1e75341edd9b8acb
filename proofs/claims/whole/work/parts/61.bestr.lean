/-! ===== the reference's bestLay ===== -/
section BESTR
variable {d : Nat} {Q : am_Q} {X hi : Nat → Nat → Int32} {hl : Nat → Nat → Int64} {sw : Bool} {kp : Nat → Nat} {V : vN} {c : Nat}
/-- the cells that ways to pass are reckoned from -/
def NQ (c j : Nat) : Prop := (19 ≤ c ∧ c ≤ 26) ∨ (28 ≤ c ∧ c ≤ 33) ∨ c = 284 ∨ c = 285 ∨ (c = 279 ∧ (j = 18 ∨ j = 58))
theorem qp_fq {X Y : Nat → Nat → Int32} {bb : Nat → Nat} {H s f : Nat} (e : ∀ c j, NQ c j → X c j = Y c j) : qp V X bb H s f = qp V Y bb H s f := by
  have e20 : X 20 = Y 20 := funext (fun j => e 20 j (by unfold NQ; omega))
  have e22 : X 22 = Y 22 := funext (fun j => e 22 j (by unfold NQ; omega))
  have e284 : X 284 = Y 284 := funext (fun j => e 284 j (by unfold NQ; omega))
  have e285 : X 285 = Y 285 := funext (fun j => e 285 j (by unfold NQ; omega))
  have e58 : X 279 58 = Y 279 58 := e 279 58 (by unfold NQ; omega)
  have e18 : X 279 18 = Y 279 18 := e 279 18 (by unfold NQ; omega)
  funext t
  unfold qp go PU pval
  rw [e20, e22, e284, e285, e58, e18]
theorem wp_fr {X Y : Nat → Nat → Int32} {bb : Nat → Nat} {H n D0 : Nat} (e : ∀ c j, NQ c j → X c j = Y c j) : wp V X bb H c n D0 = wp V Y bb H c n D0 := by
  have e31 : X 31 = Y 31 := funext (fun j => e 31 j (by unfold NQ; omega))
  have e30 : X 30 = Y 30 := funext (fun j => e 30 j (by unfold NQ; omega))
  have e23 : X 23 = Y 23 := funext (fun j => e 23 j (by unfold NQ; omega))
  have e24 : X 24 = Y 24 := funext (fun j => e 24 j (by unfold NQ; omega))
  have e21 : X 21 = Y 21 := funext (fun j => e 21 j (by unfold NQ; omega))
  unfold wp
  rw [e31, e30, e23, rr_cg (X := X) (hi := Y) (fun u f t => by unfold WY; rw [qp_fq e]) (fun t => by unfold cnA; rw [e24, e21])]
theorem rx_308R {h a : Int32} {b g f r w y : Nat → Int32} : uR (rx hi h a b g f r w) 308 y = rx (uR hi 308 y) h a b g f r w := by
  show uR (uR (uR (uR (uR (uR (u2 (u2 hi 279 61 h) 279 62 a) 300 b) 288 g) 287 f) 301 r) 302 w) 308 y = _
  rw [uR_co (by decide), uR_co (i := 301) (by decide), uR_co (i := 287) (by decide), uR_co (i := 288) (by decide), uR_co (i := 300) (by decide), uR_cr (i := 279) (j := 62) (k := 308) (by decide), uR_cr (i := 279) (j := 61) (k := 308) (by decide)]
theorem rx_309 {h a x : Int32} {b g f r w : Nat → Int32} {k : Nat} : u2 (rx hi h a b g f r w) 309 k x = rx (u2 hi 309 k x) h a b g f r w := by
  show u2 (uR (uR (uR (uR (uR (u2 (u2 hi 279 61 h) 279 62 a) 300 b) 288 g) 287 f) 301 r) 302 w) 309 k x = _
  rw [u2_co (by decide), u2_co (by decide), u2_co (by decide), u2_co (by decide), u2_co (by decide), u2_cr (by decide), u2_cr (i := 279) (by decide)]
theorem rx_308 {h a x : Int32} {b g f r w : Nat → Int32} {k : Nat} : u2 (rx hi h a b g f r w) 308 k x = rx (u2 hi 308 k x) h a b g f r w := by
  show u2 (uR (uR (uR (uR (uR (u2 (u2 hi 279 61 h) 279 62 a) 300 b) 288 g) 287 f) 301 r) 302 w) 308 k x = _
  rw [u2_co (by decide), u2_co (by decide), u2_co (by decide), u2_co (by decide), u2_co (by decide), u2_cr (by decide), u2_cr (i := 279) (by decide)]
theorem rwf_z {l : List Nat} {j : Nat} (h : l.length ≤ j) : rwf l j = 0 := by
  unfold rwf
  rw [List.getD_eq_getElem?_getD, List.getElem?_eq_none h]
  rfl
theorem chk_sp {P k : Nat} (hP : P < 9) (hk : k < 5) : (cmps P k = [] ∧ P = 0 ∧ k ≠ 0) ∨ (∃ l L, cmps P k = l :: L ∧ ¬ (P = 0 ∧ k ≠ 0) ∧ (∀ j, j < 8 → k0 k j = rwf l j) ∧ chn P l L = true ∧ ∀ l', l' ∈ l :: L → l'.length = P ∧ ∀ j, j < 8 → rwf l' j ≤ k) := by
  have h := chk_ok P hP k hk
  unfold chk at h
  cases hc : cmps P k with
  | nil =>
    rw [hc] at h
    left
    have h2 : (P == 0 && !(k == 0)) = true := h
    rw [Bool.and_eq_true] at h2
    refine ⟨rfl, eq_of_beq h2.1, fun z => ?_⟩
    rw [z] at h2
    exact absurd h2.2 (by decide)
  | cons l L =>
    rw [hc] at h
    right
    have h2 : (!(P == 0 && !(k == 0)) && eqr (k0 k) (rwf l) && chn P l L && (l :: L).all (fun l => l.length == P && (List.range 8).all (fun j => decide (rwf l j ≤ k)))) = true := h
    rw [Bool.and_eq_true, Bool.and_eq_true, Bool.and_eq_true] at h2
    obtain ⟨⟨⟨q1, q2⟩, q3⟩, q4⟩ := h2
    refine ⟨l, L, rfl, fun z => ?_, fun j hj => eqr_at q2 hj, q3, fun l' hl' => ?_⟩
    · have e1 : (P == 0) = true := beq_iff_eq.mpr z.1
      have e2 : (k == 0) = false := beq_eq_false_iff_ne.mpr z.2
      rw [e1, e2] at q1
      exact absurd q1 (by decide)
    · have h3 := List.all_eq_true.mp q4 l' hl'
      rw [Bool.and_eq_true] at h3
      refine ⟨eq_of_beq h3.1, fun j hj => ?_⟩
      exact of_decide_eq_true (List.all_eq_true.mp h3.2 j (List.mem_range.mpr hj))
/-- the best row, in a cell -/
def BR (s : Bst) (b : Nat → Int32) : Prop := ∀ v l, s = some (v, l) → ∀ j, j < 8 → b j = nI (rwf l j)
/-- what the best so far is worth -/
def BV (s : Bst) : Prop := ∀ v l, s = some (v, l) → v < 2 ^ 62
theorem stb_le {F : List Nat → Nat} {s : Bst} {l : List Nat} (hF : F l < 2 ^ 62) (hs : BV s) (h : lg_cmp (lN (F l)) (bvl s) ≤ 0) : stb F s l = s := by
  cases s with
  | none => exact absurd h (lgm (by omega))
  | some q =>
    obtain ⟨v, b⟩ := q
    have hv := hs v b rfl
    have := (lgc (a := F l) (b := v) (by omega) (by omega)).mp h
    exact if_neg (by omega)
theorem stb_gt {F : List Nat → Nat} {s : Bst} {l : List Nat} (hF : F l < 2 ^ 62) (hs : BV s) (h : ¬ lg_cmp (lN (F l)) (bvl s) ≤ 0) : stb F s l = some (F l, l) := by
  cases s with
  | none => rfl
  | some q =>
    obtain ⟨v, b⟩ := q
    have hv := hs v b rfl
    have h2 : ¬ F l ≤ v := fun z => h ((lgc (a := F l) (b := v) (by omega) (by omega)).mpr z)
    exact if_pos (by omega)
theorem stb_bv {F : List Nat → Nat} {s : Bst} {l : List Nat} (hF : F l < 2 ^ 62) (hs : BV s) : BV (stb F s l) := by
  intro v b e
  cases s with
  | none =>
    have : (F l, l) = (v, b) := Option.some.inj e
    rw [← (Prod.mk.inj this).1]
    exact hF
  | some q =>
    obtain ⟨v', b'⟩ := q
    have e' : (if v' < F l then some (F l, l) else some (v', b')) = some (v, b) := e
    by_cases h : v' < F l
    · rw [if_pos h] at e'
      rw [← (Prod.mk.inj (Option.some.inj e')).1]
      exact hF
    · rw [if_neg h] at e'
      rw [← (Prod.mk.inj (Option.some.inj e')).1]
      exact hs v' b' rfl
theorem gst_bv {F : List Nat → Nat} {bo : Nat → Nat} {P : Nat} {s : Bst} {l : List Nat} (hF : F l < 2 ^ 62) (hs : BV s) : BV (gst F bo P s l) := by
  unfold gst
  by_cases h : oks bo P (rwf l) = true
  · rw [if_pos h]; exact stb_bv hF hs
  · rw [if_neg h]; exact hs
abbrev rz (X : Nat → Nat → Int32) (r b : Nat → Int32) : Nat → Nat → Int32 := uR (uR X 308 r) 309 b
theorem wp_rz {r b : Nat → Int32} {bb : Nat → Nat} {H n D0 : Nat} : wp V (rz X r b) bb H c n D0 = wp V X bb H c n D0 := wp_fr (fun c j h => by
  unfold NQ at h
  show uR (uR X 308 r) 309 b c j = _
  rw [uR_ne (by omega), uR_ne (by omega)])
theorem wp_2 {bb : Nat → Nat} {H n D0 : Nat} (hn : n ≤ 8) (hD : D0 < vP V ∨ vP V = 0) : wp V X bb H c n D0 < 2 ^ 62 := by
  have h1 := wp_le (V := V) (hi := X) (bb := bb) (H := H) (c := c) (n := n) hD
  have h2 := p60 hn
  omega
/-- one row -/
theorem f252s {n H D0 k : Nat} {bo : Nat → Nat} {F : List Nat → Nat} {s : Bst} {l : List Nat} (eF : F = fun l => wp V X (fun t => bo t + rwf l t) H c n D0) (hv : R_vil V X) (hpu : R_pul X) (hsn : SN V X H bo) (hc : c < vC V) (hcs : CSE V X c) (hn : n ≤ 8) (hk : k ≤ 4) (hx : (D0 < vP V ∧ X 299 16 = nI D0) ∨ (vP V = 0 ∧ X 299 16 = -1 ∧ D0 = 8)) (hll : l.length = vP V ∧ ∀ j, j < 8 → rwf l j ≤ k) (hbv : BV s)
    (w2 : ∀ (r b : Nat → Int32) (h a : Int32) (bn g f r2 w : Nat → Int32) (x y : Nat → Int64) (o7 o9 : Option Value), (∀ j, j < 8 → r j = nI (rwf l j)) → BR (gst F bo (vP V) s l) b → cS (d + 8) 251 [.ref 279] (mkH (rx (rz X r b) h a bn g f r2 w) (lz2 hl x y) sw kp) (am_ret (cW cd_252 (d + 8) Q) 148 [some (.ref 279), some (.int (nI c)), some (.int (nI n)), some (.int (nI k)), some (.long (bvl (gst F bo (vP V) s l))), none, some (.int 1), o7, none, o9] []))
    (r b : Nat → Int32) (h a : Int32) (bn g f r2 w : Nat → Int32) (x y : Nat → Int64) (hr : ∀ j, j < 8 → r j = nI (rwf l j)) (hbr : BR s b) (o7 o9 : Option Value) : cW cd_252 (d + 8) Q 56 [some (.ref 279), some (.int (nI c)), some (.int (nI n)), some (.int (nI k)), some (.long (bvl s)), none, some (.int 1), o7, none, o9] [] (mkH (rx (rz X r b) h a bn g f r2 w) (lz2 hl x y) sw kp) := by
  have hb8 := hv.1
  have hDw : D0 < vP V ∨ vP V = 0 := by
    rcases hx with ⟨h, -⟩ | ⟨h, -⟩
    · exact Or.inl h
    · exact Or.inr h
  obtain ⟨n1, n2, n3, n4, n5, n6, n7⟩ := id hsn
  have hFl : F l < 2 ^ 62 := by
    rw [eF]
    exact wp_2 hn hDw
  have e308 : ∀ j, (rz X r b) 308 j = r j := fun j => by
    show uR (uR X 308 r) 309 b 308 j = _
    rw [uR_ne (by decide), uR_s]
  have e46 : (rx (rz X r b) h a bn g f r2 w) 279 46 = nI (vP V) := hv.2.2.1.2.1
  refine k_252_56 (fun c => absurd c (by decide)) (fun _ => f250 (d := d + 7) (m := rwf l) (bo := bo) hb8.2.1 e46 (fun j hj => ⟨?_, ?_⟩) (fun j hj => ⟨(n5 j hj).1, ?_⟩) ?_)
  · rw [rx_UR (by unfold UR; omega), e308]
    exact hr j hj
  · have := hll.2 j hj
    omega
  · rw [rx_r299]
    exact (n5 j hj).2.2
  · cases hok : oks bo (vP V) (rwf l) with
    | false =>
      have eg : gst F bo (vP V) s l = s := by
        unfold gst
        rw [hok]
        rfl
      rw [eg] at w2
      exact k_252_65 (fun _ => w2 r b h a bn g f r2 w x y o7 o9 hr hbr) (fun c => absurd rfl c)
    | true =>
      have eg : gst F bo (vP V) s l = stb F s l := by
        unfold gst
        rw [hok, if_pos rfl]
      rw [eg] at w2
      refine k_252_65 (fun c => absurd c (by decide)) (fun _ => f249 (d := d + 6) (P := vP V) (m := rwf l) (bo := bo) hb8.2.1 hv.2.2.1.2.1 (fun j hj => by rw [e308]; exact hr j hj) (fun j h1 _ => rwf_z (by rw [hll.1]; exact h1)) (fun j hj => (n5 j hj).2.2) (fun b' hb' => ?_))
      have i12 : (12 : Int32) + nI c = nI (12 + c) := nI_add 12 c
      -- the row measured
      have fin : ∀ (h a : Int32) (bn g f r2 w : Nat → Int32) (x y : Nat → Int64), cW cd_252 (d + 8) Q 100 [some (.ref 279), some (.int (nI c)), some (.int (nI n)), some (.int (nI k)), some (.long (bvl s)), none, some (.int 1), o7, none, o9] [(.long (lN (F l)))] (mkH (rx (rz X r b) h a bn g f r2 w) (lz2 hl x y) sw kp) := by
        intro h a bn g f r2 w x y
        refine k_252_100 (fun cc => ?_) (fun cc => ?_)
        · have e := stb_le (F := F) hFl hbv cc
          rw [e] at w2
          exact w2 r b h a bn g f r2 w x y _ o9 hr hbr
        · have e := stb_gt (F := F) hFl hbv cc
          rw [e] at w2
          refine lpu (σ := Nat → Int32) 8 (fun i b => cW cd_252 (d + 8) Q 117 [some (.ref 279), some (.int (nI c)), some (.int (nI n)), some (.int (nI k)), some (.long (lN (F l))), none, some (.int 1), some (.long (lN (F l))), none, some (.int (nI i))] [] (mkH (rx (rz X r b) h a bn g f r2 w) (lz2 hl x y) sw kp)) (fun i b => ∀ j, j < i → b j = r j) ?_ ?_ 8 0 b rfl (fun j hj => absurd hj (Nat.not_lt_zero j))
          · intro b2 hb2
            refine k_252_117 (fun _ => w2 r b2 h a bn g f r2 w x y _ _ hr (fun v l' ev j hj => ?_)) (fun c => absurd (by decide) c) (fun c => absurd (by decide) c)
            have := (Prod.mk.inj (Option.some.inj ev)).2
            rw [← this, hb2 j hj]
            exact hr j hj
          · intro i b2 hi8 hb2 ih
            refine k_252_117 (fun c => absurd c (nI_ge (a := i) (b := 8) hi8 (by decide))) (fun _ => vp_in_nI (by omega) (by decide)) (fun _ => ?_)
            have e3 : (rx (rz X r b2) h a bn g f r2 w) 308 i = r i := by
              rw [rx_UR (by unfold UR; omega)]
              show uR (uR X 308 r) 309 b2 308 i = _
              rw [uR_ne (by decide), uR_s]
            rw [nI_clamp (by omega), nI_1, e3, rx_309]
            refine cW.hi (hi := rx (rz X r (up1 b2 i (r i))) h a bn g f r2 w) (by rw [u2_in]) (ih _ (fun j hj => ?_))
            by_cases hji : j = i
            · subst hji
              exact up1_s
            · rw [up1_n hji]
              exact hb2 j (by omega)
      have e16 : (rx (rz X r b) ((rz X r b) 299 17) ((rz X r b) 299 18) b' g f r2 w) 299 16 = X 299 16 := by
        rw [rx_r299]
        rfl
      have eg2 : g_244 (rx (rz X r b) ((rz X r b) 299 17) ((rz X r b) 299 18) b' g f r2 w) (nI c) = if X 31 c = 1 then 1 else 0 := by
        unfold g_244
        have : (rx (rz X r b) ((rz X r b) 299 17) ((rz X r b) 299 18) b' g f r2 w) 299 ((12 : Int32) + nI c).toNatClampNeg = X 31 c := by
          rw [i12, nI_clamp (by omega), rx_r299]
          exact hcs.2.1
        rw [this]
      have eW : ∀ b, wp V (rz X r b) (fun t => bo t + rwf l t) H c n D0 = F l := fun b => by
        rw [wp_rz, eF]
      refine k_252_72 (by rw [i12]; exact vp_in_nI (by omega) (by decide)) ?_ ?_ <;> rw [eg2]
      · intro cq
        have h1 : ¬ X 31 c = 1 := fun h => by
          rw [if_pos h] at cq
          exact absurd cq (by decide)
        rw [e16]
        refine f243 (d := d) (V := V) (hi := rz X r b) (bb := fun t => bo t + rwf l t) (D0 := D0) (bo := bo) (H := H) hv hpu hsn hc hcs h1 hn hb' hx (fun h' aa' bn' gg' ff' r2' ww' x' y' => ?_)
        rw [eW]
        exact fin _ _ _ _ _ _ _ _ _
      · intro cq
        have h1 : X 31 c = 1 := by
          by_cases h : X 31 c = 1
          · exact h
          · rw [if_neg h] at cq
            exact absurd rfl cq
        have e1 : F l = 60 ^ n := by
          rw [eF]
          show wp V X _ H c n D0 = _
          unfold wp
          rw [if_neg (by rw [h1]; decide), if_pos h1]
        refine f234 (d := d + 7) hn (k_252_84 ?_)
        rw [← e1]
        exact fin _ _ _ _ _ _ _ _ _
/-- the loop over the rows -/
theorem f252l {n H D0 k : Nat} {bo : Nat → Nat} {F : List Nat → Nat} (eF : F = fun l => wp V X (fun t => bo t + rwf l t) H c n D0) (hv : R_vil V X) (hpu : R_pul X) (hsn : SN V X H bo) (hc : c < vC V) (hcs : CSE V X c) (hn : n ≤ 8) (hk : k ≤ 4) (hx : (D0 < vP V ∧ X 299 16 = nI D0) ∨ (vP V = 0 ∧ X 299 16 = -1 ∧ D0 = 8)) {S : Bst}
    (w' : ∀ (r b : Nat → Int32) (h a : Int32) (bn g f r2 w : Nat → Int32) (x y : Nat → Int64), BR S b → Q (some (.long (bvl S))) (mkH (rx (rz X r b) h a bn g f r2 w) (lz2 hl x y) sw kp)) :
    ∀ (L : List (List Nat)) (l : List Nat) (s : Bst), chn (vP V) l L = true → (∀ l', l' ∈ l :: L → l'.length = vP V ∧ ∀ j, j < 8 → rwf l' j ≤ k) → BV s → fbs F bo (vP V) s (l :: L) = S →
      ∀ (r b : Nat → Int32) (h a : Int32) (bn g f r2 w : Nat → Int32) (x y : Nat → Int64), (∀ j, j < 8 → r j = nI (rwf l j)) → BR s b → ∀ o7 o9 : Option Value, cW cd_252 (d + 8) Q 56 [some (.ref 279), some (.int (nI c)), some (.int (nI n)), some (.int (nI k)), some (.long (bvl s)), none, some (.int 1), o7, none, o9] [] (mkH (rx (rz X r b) h a bn g f r2 w) (lz2 hl x y) sw kp) := by
  have hb8 := hv.1
  have hDw : D0 < vP V ∨ vP V = 0 := by
    rcases hx with ⟨h, -⟩ | ⟨h, -⟩
    · exact Or.inl h
    · exact Or.inr h
  have hF : ∀ l, F l < 2 ^ 62 := fun l => by
    rw [eF]
    exact wp_2 hn hDw
  have h308 : ∀ (l : List Nat) (r b : Nat → Int32) (h a : Int32) (bn g f r2 w : Nat → Int32), (∀ j, j < 8 → r j = nI (rwf l j)) → (∀ j, j < 8 → rwf l j ≤ k) → ∀ j, j < 8 → (rx (rz X r b) h a bn g f r2 w) 308 j = nI (rwf l j) ∧ rwf l j ≤ 4 := by
    intro l r b h a bn g f r2 w h1 h2 j hj
    refine ⟨?_, by have := h2 j hj; omega⟩
    rw [rx_UR (by unfold UR; omega)]
    show uR (uR X 308 r) 309 b 308 j = _
    rw [uR_ne (by decide), uR_s]
    exact h1 j hj
  intro L
  induction L with
  | nil =>
    intro l s hch hal hbv hfs
    have hz : fz (rwf l) (vP V - 1) = none := Option.isNone_iff_eq_none.mp hch
    have hl1 := hal l (List.mem_cons_self ..)
    refine f252s (d := d) eF hv hpu hsn hc hcs hn hk hx hl1 hbv (fun r b h a bn g f r2 w x y o7 o9 hr hbr => ?_)
    refine f251 (d := d + 7) (P := vP V) (m := rwf l) hb8.2.1 hv.2.2.1.2.1 (h308 l r b h a bn g f r2 w hr hl1.2) (fun _ => k_252_148 (k_252_56 (fun _ => ?_) (fun c => absurd rfl c))) (fun i _ q => absurd (hz.symm.trans q) (by simp))
    have e : gst F bo (vP V) s l = S := hfs
    rw [e] at hbr ⊢
    exact w' r b h a bn g f r2 w x y hbr
  | cons l2 L ih =>
    intro l s hch hal hbv hfs
    have hl1 := hal l (List.mem_cons_self ..)
    refine f252s (d := d) eF hv hpu hsn hc hcs hn hk hx hl1 hbv (fun r b h a bn g f r2 w x y o7 o9 hr hbr => ?_)
    have hch2 : ((match fz (rwf l) (vP V - 1) with | none => false | some i => eqr (nxr (vP V) (rwf l) i) (rwf l2)) && chn (vP V) l2 L) = true := hch
    rw [Bool.and_eq_true] at hch2
    obtain ⟨q1, q2⟩ := hch2
    refine f251 (d := d + 7) (P := vP V) (m := rwf l) hb8.2.1 hv.2.2.1.2.1 (h308 l r b h a bn g f r2 w hr hl1.2) (fun q => ?_) (fun i r' q hr' => ?_)
    · rw [q] at q1
      exact absurd (show false = true from q1) (by decide)
    · rw [q] at q1
      refine k_252_148 (cW.hi (hi := rx (rz X r' b) h a bn g f r2 w) ?_ (ih l2 (gst F bo (vP V) s l) q2 (fun l' hl' => hal l' (List.mem_cons_of_mem _ hl')) (gst_bv (hF l) hbv) hfs r' b h a bn g f r2 w x y (fun j hj => ?_) hbr o7 o9))
      · rw [rx_308R]
        show rx (uR (uR (uR X 308 r) 309 b) 308 r') h a bn g f r2 w = rx (uR (uR X 308 r') 309 b) h a bn g f r2 w
        rw [uR_co (i := 309) (by decide), uR_uR]
      · rw [hr' j hj]
        exact congrArg nI (eqr_at q1 hj)
theorem f252 {n H D0 k : Nat} {bo : Nat → Nat} {F : List Nat → Nat} (eF : F = fun l => wp V X (fun t => bo t + rwf l t) H c n D0) (hv : R_vil V X) (hpu : R_pul X) (hsn : SN V X H bo) (hc : c < vC V) (hcs : CSE V X c) (hn : n ≤ 8) (hk : k ≤ 4) (hx : (D0 < vP V ∧ X 299 16 = nI D0) ∨ (vP V = 0 ∧ X 299 16 = -1 ∧ D0 = 8))
    (w' : ∀ (r b : Nat → Int32) (h a : Int32) (bn g f r2 w : Nat → Int32) (x y : Nat → Int64), BR (fbs F bo (vP V) none (cmps (vP V) k)) b → Q (some (.long (bvl (fbs F bo (vP V) none (cmps (vP V) k))))) (mkH (rx (rz X r b) h a bn g f r2 w) (lz2 hl x y) sw kp))
    (r b : Nat → Int32) (h a : Int32) (bn g f r2 w : Nat → Int32) (x y : Nat → Int64) : cS (d + 9) 252 [.ref 279, .int (nI c), .int (nI n), .int (nI k)] (mkH (rx (rz X r b) h a bn g f r2 w) (lz2 hl x y) sw kp) Q := by
  have hb8 := hv.1
  have e46 : ∀ r, (rx (rz X r b) h a bn g f r2 w) 279 46 = nI (vP V) := fun r => hv.2.2.1.2.1
  refine e_252 (lpu (σ := Nat → Int32) 8 (fun i r => cW cd_252 (d + 8) Q 3 [some (.ref 279), some (.int (nI c)), some (.int (nI n)), some (.int (nI k)), some (.int (nI i)), none, none, none, none, none] [] (mkH (rx (rz X r b) h a bn g f r2 w) (lz2 hl x y) sw kp)) (fun i r => ∀ j, j < i → r j = nI (k0 k j)) ?_ ?_ 8 0 r rfl (fun j hj => absurd hj (Nat.not_lt_zero j)))
  · intro r hr
    have nb : BV none := fun v l e => by simp at e
    have nr : BR none b := fun v l e => by simp at e
    rcases chk_sp (P := vP V) (k := k) (by omega) (by omega) with ⟨e0, e1, e2⟩ | ⟨l, L, e0, e1, e2, e3, e4⟩
    · refine k_252_3 (fun _ c => absurd c (by rw [e46, e1]; decide)) (fun _ _ c => absurd c (nI_ne0 (by omega) (by omega))) (fun _ _ _ => k_252_56 (fun _ => ?_) (fun c => absurd rfl c)) (fun c => absurd (by decide) c) (fun c => absurd (by decide) c) (fun c => absurd (by decide) c) (fun c => absurd (by decide) c)
      have := w' r b h a bn g f r2 w x y
      rw [e0] at this
      exact this nr
    · have go : cW cd_252 (d + 8) Q 56 [some (.ref 279), some (.int (nI c)), some (.int (nI n)), some (.int (nI k)), some (.long (-1)), none, some (.int 1), none, none, none] [] (mkH (rx (rz X r b) h a bn g f r2 w) (lz2 hl x y) sw kp) :=
        f252l (d := d) (S := fbs F bo (vP V) none (cmps (vP V) k)) eF hv hpu hsn hc hcs hn hk hx w' L l none e3 e4 nb (by rw [e0]) r b h a bn g f r2 w x y (fun j hj => by rw [hr j hj, e2 j hj]) nr none none
      refine k_252_3 (fun _ _ => go) (fun _ _ _ => go) (fun _ cP ck => ?_) (fun c => absurd (by decide) c) (fun c => absurd (by decide) c) (fun c => absurd (by decide) c) (fun c => absurd (by decide) c)
      exfalso
      refine e1 ⟨?_, fun z => ck (by rw [z]; rfl)⟩
      rcases Nat.eq_zero_or_pos (vP V) with z | z
      · exact z
      · exact absurd (by rw [e46]; exact nI_lt (a := 0) z (by omega)) cP
  · intro i r hi8 hr ih
    have g8 : ¬ (8 : Int32) ≤ nI i := nI_ge (a := i) (b := 8) hi8 (by decide)
    have ec : (nI i).toNatClampNeg = i := nI_clamp (by omega)
    have e3 : ∀ y, u2 (rx (rz X r b) h a bn g f r2 w) 308 i y = rx (rz X (up1 r i y) b) h a bn g f r2 w := fun y => by
      rw [rx_308]
      show rx (u2 (uR (uR X 308 r) 309 b) 308 i y) h a bn g f r2 w = rx (uR (uR X 308 (up1 r i y)) 309 b) h a bn g f r2 w
      rw [u2_co (by decide), u2_in]
    have nx : ∀ q, q = nI (k0 k i) → cW cd_252 (d + 8) Q 3 [some (.ref 279), some (.int (nI c)), some (.int (nI n)), some (.int (nI k)), some (.int (nI i + 1)), none, none, none, none, none] [] (mkH (u2 (rx (rz X r b) h a bn g f r2 w) 308 i q) (lz2 hl x y) sw kp) := by
      intro q hq
      rw [nI_1]
      refine cW.hi (e3 q) (ih _ (fun j hj => ?_))
      by_cases hji : j = i
      · subst hji
        rw [up1_s, hq]
      · rw [up1_n hji]
        exact hr j (by omega)
    refine k_252_3 (fun c => absurd c g8) (fun c => absurd c g8) (fun c => absurd c g8) (fun _ _ => vp_in_nI (by omega) (by decide)) (fun _ c => ?_) (fun _ _ => vp_in_nI (by omega) (by decide)) (fun _ c => ?_)
    · have i0 : i = 0 := (nI_eq (b := 0) (by omega) (by decide)).mp c
      rw [ec]
      exact nx _ (by unfold k0; rw [if_pos i0])
    · have i0 : ¬ i = 0 := fun z => c (by rw [z]; rfl)
      rw [ec]
      exact nx _ (by unfold k0; rw [if_neg i0]; rfl)
end BESTR
