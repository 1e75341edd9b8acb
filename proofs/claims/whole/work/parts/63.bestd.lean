/-! ===== the class's Laying: compare, layFrom, choose ===== -/
section BESTD
variable {d : Nat} {Q : am_Q} {X hi : Nat → Nat → Int32} {hl hl0 : Nat → Nat → Int64} {sw : Bool} {kp : Nat → Nat} {V : vN} {c n M B H D0 : Nat} {bo : Nat → Nat} {F : List Nat → Nat} {s : Bst}
def LX (V : vN) (X : Nat → Nat → Int32) (c n M B H D0 : Nat) (bo : Nat → Nat) : Prop := R_vil V X ∧ SN V X H bo ∧ c < vC V ∧ CSE V X c ∧ n ≤ 8 ∧ M ≤ 4 ∧ DG V X D0 B ∧ g_84 X = nI B ∧ B < 256
abbrev LJ (V : vN) (X : Nat → Nat → Int32) (c n M B H : Nat) (bo : Nat → Nat) (hi : Nat → Nat → Int32) : Prop := LI V X c n (min (vDy V - H % vDy V) n) B M H bo hi
theorem LX.dg {V : vN} (h : LX V X c n M B H D0 bo) : D0 < vP V ∨ vP V = 0 := by
  rcases h.2.2.2.2.2.2.1 with ⟨q, -⟩ | ⟨q, -⟩
  · exact Or.inl q
  · exact Or.inr q
theorem f20 {l : List Nat} (eF : F = fun l => wp V X (fun t => bo t + rwf l t) H c n D0) (hx : LX V X c n M B H D0 bo) (hli : LJ V X c n M B H bo hi) (hll : LL hl hl0) (hs : SCl s hi hl) (hbv : BV s) (hlen : l.length = vP V) (hm : ∀ t, t < vP V → hi 257 t = nI (rwf l t) ∧ rwf l t ≤ M) (h0 : ∀ j, vP V ≤ j → j < 8 → hi 257 j = nI 0)
    (w' : ∀ (hi' : Nat → Nat → Int32) (hl' : Nat → Nat → Int64) (sw' : Bool), LJ V X c n M B H bo hi' → LL hl' hl0 → SCl (stb F s l) hi' hl' → hi' 257 = hi 257 → Q none (mkH hi' hl' sw' kp)) : cS (d + 7) 20 [.ref 264] (mkH hi hl sw kp) Q := by
  have hxd := hx.dg
  obtain ⟨hv, hsn, hc, hcs, hn, hM, hdg, d1, hB⟩ := hx
  have hFl : F l < 2 ^ 62 := by
    rw [eF]
    exact wp_2 hn hxd
  refine e_20 (f17 (d := d) (hl0 := hl0) (mr := rwf l) hv hsn hc hcs hn hM hdg d1 hB hli hll hm (fun hi1 hl1 sw1 q1 q2 q3 q4 q5 q6 => ?_))
  have eW : wp V X (fun t => bo t + rwf l t) H c n D0 = F l := by rw [eF]
  rw [eW]
  have e4 : hl1 264 4 = bvl s := by rw [q6]; exact hs.1
  refine k_20_4 ?_ ?_ <;> rw [e4] <;> intro cc
  · have e := stb_le (F := F) hFl hbv cc
    rw [e] at w'
    exact w' hi1 hl1 sw1 q1 q2 ⟨e4, by rw [q4]; exact hs.2⟩ q3
  · have e := stb_gt (F := F) hFl hbv cc
    rw [e] at w'
    refine w' _ _ sw1 (q1.of (fun a j a1 a2 a3 a4 a5 a6 => by rw [uR_ne a5]) (fun j _ => by rw [uR_ne (by decide)]) (uR_ne (by decide)) (uR_ne (by decide))) (fun a a1 a2 a3 => ?_) ⟨u2_s, fun v l' ev j hj => ?_⟩ ?_
    · rw [u2_row_ne a3]
      exact q2 a a1 a2 a3
    · have := (Prod.mk.inj (Option.some.inj ev)).2
      rw [← this, uR_s, va_cpy0 hj, q3]
      by_cases ct : j < vP V
      · exact (hm j ct).1
      · rw [h0 j (by omega) hj, rwf_z (by rw [hlen]; omega)]
    · rw [uR_ne (by decide)]
      exact q3
theorem f19 (eF : F = fun l => wp V X (fun t => bo t + rwf l t) H c n D0) (hx : LX V X c n M B H D0 bo) : ∀ (r : Nat) (pre : List Nat) (left : Nat) (s S : Bst) (Q : am_Q) (hi : Nat → Nat → Int32) (hl : Nat → Nat → Int64) (sw : Bool), pre.length + r = vP V → oks bo pre.length (rwf pre) = true → left ≤ M → (∀ t, t < pre.length → hi 257 t = nI (rwf pre t) ∧ rwf pre t ≤ M) → (∀ j, vP V ≤ j → j < 8 → hi 257 j = nI 0) → LJ V X c n M B H bo hi → LL hl hl0 → SCl s hi hl → BV s → fbs F bo (vP V) s ((cmps r left).map (fun l => pre ++ l)) = S →
    (∀ (hi' : Nat → Nat → Int32) (hl' : Nat → Nat → Int64) (sw' : Bool), LJ V X c n M B H bo hi' → LL hl' hl0 → SCl S hi' hl' → (∀ t, t < pre.length → hi' 257 t = hi 257 t) → (∀ j, vP V ≤ j → j < 8 → hi' 257 j = nI 0) → Q none (mkH hi' hl' sw' kp)) → cS (d + 8 + r) 19 [.ref 264, .int (nI pre.length), .int (nI left)] (mkH hi hl sw kp) Q := by
  have hxd := hx.dg
  obtain ⟨hv, hsn, hc, hcs, hn, hM, hdg, d1, hB⟩ := id hx
  have hb8 := hv.1
  obtain ⟨n1, n2, n3, n4, n5, n6, n7⟩ := id hsn
  have hF : ∀ l, F l < 2 ^ 62 := fun l => by
    rw [eF]
    exact wp_2 hn hxd
  intro r
  induction r with
  | zero =>
    intro pre left s S Q hi hl sw hlen hok hleft hm h0 hli hll hs hbv hfs w'
    have e19 : hi 19 1 = nI (vP V) := (hli.1 19 1 (by unfold LFr; omega)).trans hv.2.1.2.1
    have hle : hi 19 1 ≤ nI pre.length := by
      rw [e19, show pre.length = vP V by omega]
      exact Int32.le_refl _
    have hlen' : pre.length = vP V := hlen
    refine e_19 (fun _ c => ?_) (fun _ c => ?_) (fun c => absurd hle c) (fun c => absurd hle c) (fun c => absurd hle c) (fun c => absurd hle c)
    · have c0 : left = 0 := (nI_eq (b := 0) (by omega) (by decide)).mp c
      subst c0
      refine f20 (d := d) eF hx hli hll hs hbv hlen' (fun t ht => hm t (by omega)) h0 (fun hi1 hl1 sw1 q1 q2 q3 q4 => k_19_25 (w' hi1 hl1 sw1 q1 q2 ?_ (fun t _ => by rw [q4]) (fun j j1 j2 => by rw [q4]; exact h0 j j1 j2)))
      have e : fbs F bo (vP V) s ((cmps 0 0).map (fun l => pre ++ l)) = gst F bo (vP V) s (pre ++ []) := rfl
      rw [e, List.append_nil] at hfs
      rw [← hfs]
      unfold gst
      rw [← hlen', hok, if_pos rfl]
      exact q3
    · have c0 : ¬ left = 0 := fun z => c (by rw [z]; rfl)
      have e : cmps 0 left = [] := if_neg c0
      rw [e] at hfs
      have hfs' : s = S := hfs
      rw [← hfs'] at w'
      exact k_19_25 (w' hi hl sw hli hll hs (fun _ _ => rfl) h0)
  | succ r ih =>
    intro pre left s S Q hi hl sw hlen hok hleft hm h0 hli hll hs hbv hfs w'
    have e19 : ∀ hi, LJ V X c n M B H bo hi → hi 19 1 = nI (vP V) := fun hi h => (h.1 19 1 (by unfold LFr; omega)).trans hv.2.1.2.1
    have hg : ¬ hi 19 1 ≤ nI pre.length := by
      rw [e19 hi hli]
      exact nI_ge (by omega) (by omega)
    have h8 : nI pre.length < 8 := nI_lt (b := 8) (by omega) (by decide)
    have ec : (nI pre.length).toNatClampNeg = pre.length := nI_clamp (by omega)
    have b9 := (n5 pre.length (by omega)).1
    have e29 : hi 29 pre.length = nI (bo pre.length) := (hli.1 29 _ (by unfold LFr; omega)).trans (n5 pre.length (by omega)).2.1
    have eR : (if (9 : Int32) - hi 29 pre.length < nI left then (9 : Int32) - hi 29 pre.length else nI left) = nI (min (9 - bo pre.length) left) := by
      rw [e29, show (9 : Int32) - nI (bo pre.length) = nI (9 - bo pre.length) from pk_sub (a := 9) b9]
      by_cases cc : 9 - bo pre.length < left
      · rw [if_pos (nI_lt cc (by omega)), Nat.min_eq_left (by omega)]
      · rw [if_neg (nI_nlt (by omega) (by omega)), Nat.min_eq_right (by omega)]
    refine e_19 (fun c => absurd c hg) (fun c => absurd c hg) (fun _ _ => vp_in_nI (by omega) (by decide)) (fun _ _ => ?_) (fun _ c => absurd h8 c) (fun _ c => absurd h8 c)
    rw [ec, eR]
    have hroom : fbs F bo (vP V) s ((cmps (r + 1) left).map (fun l => pre ++ l)) = fbs F bo (vP V) s ((cmj (cmps r) left (min (9 - bo pre.length) left)).map (fun l => pre ++ l)) := by
      show fbs F bo (vP V) s ((cmj (cmps r) left left).map (fun l => pre ++ l)) = _
      have := fbs_room (F := F) (bo := bo) (P := vP V) (k := left) (room := min (9 - bo pre.length) left) (C := cmps r) (pre := pre) (by omega) (fun j h1 h2 => by omega) s (left - min (9 - bo pre.length) left) (by omega)
      rw [show min (9 - bo pre.length) left + (left - min (9 - bo pre.length) left) = left by omega] at this
      exact this
    rw [hroom] at hfs
    -- the loop over how many are laid here
    have key : ∀ k, k ≤ min (9 - bo pre.length) left → ∀ (s : Bst) (hi1 : Nat → Nat → Int32) (hl1 : Nat → Nat → Int64) (sw1 : Bool) (x3 : Int32), (∀ t, t < pre.length → hi1 257 t = hi 257 t) → (∀ j, vP V ≤ j → j < 8 → hi1 257 j = nI 0) → LJ V X c n M B H bo hi1 → LL hl1 hl0 → SCl s hi1 hl1 → BV s → fbs F bo (vP V) s ((cmj (cmps r) left k).map (fun l => pre ++ l)) = S → cW cd_19 (d + 8 + r) Q 46 [some (.ref 264), some (.int (nI pre.length)), some (.int (nI left)), some (.int x3), some (.int (nI k))] [] (mkH hi1 hl1 sw1 kp) := by
      intro k
      -- one call
      have one : ∀ k, k ≤ min (9 - bo pre.length) left → ∀ (s : Bst) (hi1 : Nat → Nat → Int32) (hl1 : Nat → Nat → Int64) (sw1 : Bool) (x3 : Int32), (∀ t, t < pre.length → hi1 257 t = hi 257 t) → (∀ j, vP V ≤ j → j < 8 → hi1 257 j = nI 0) → LJ V X c n M B H bo hi1 → LL hl1 hl0 → SCl s hi1 hl1 → BV s → (∀ (hi2 : Nat → Nat → Int32) (hl2 : Nat → Nat → Int64) (sw2 : Bool), (∀ t, t < pre.length → hi2 257 t = hi 257 t) → (∀ j, vP V ≤ j → j < 8 → hi2 257 j = nI 0) → LJ V X c n M B H bo hi2 → LL hl2 hl0 → SCl (fbs F bo (vP V) s ((cmps r (left - k)).map (fun l => (pre ++ [k]) ++ l))) hi2 hl2 → cW cd_19 (d + 8 + r) Q 46 [some (.ref 264), some (.int (nI pre.length)), some (.int (nI left)), some (.int x3), some (.int (nI k + (-1)))] [] (mkH hi2 hl2 sw2 kp)) → cW cd_19 (d + 8 + r) Q 46 [some (.ref 264), some (.int (nI pre.length)), some (.int (nI left)), some (.int x3), some (.int (nI k))] [] (mkH hi1 hl1 sw1 kp) := by
        intro k hk s hi1 hl1 sw1 x3 m1 m2 hli1 hll1 hs1 hbv1 w2
        have z : ¬ nI k < (0 : Int32) := nI_pos (by omega)
        refine k_19_46 (fun c => absurd c z) (fun _ => vp_in_nI (by omega) (by decide)) (fun _ => ?_)
        rw [ec, nI_1, pk_sub (by omega)]
        have el : (pre ++ [k]).length = pre.length + 1 := by rw [List.length_append]; rfl
        have up : ∀ t, t ≠ pre.length → (u2 hi1 257 pre.length (nI k)) 257 t = hi1 257 t := fun t ht => u2_nn (by omega)
        have := ih (pre ++ [k]) (left - k) s _ (am_ret (cW cd_19 (d + 8 + r) Q) 73 [some (.ref 264), some (.int (nI pre.length)), some (.int (nI left)), some (.int x3), some (.int (nI k))] []) (u2 hi1 257 pre.length (nI k)) hl1 sw1 (by rw [el]; omega) (by
          rw [el]
          refine (oks_iff _).mpr (fun j hj => ?_)
          by_cases cj : j = pre.length
          · subst cj
            rw [show rwf (pre ++ [k]) pre.length = k from rwf_md]
            omega
          · rw [rwf_a1 (by omega)]
            exact (oks_iff _).mp hok j (by omega)) (by omega) (fun t ht => by
          rw [el] at ht
          by_cases cj : t = pre.length
          · subst cj
            rw [show rwf (pre ++ [k]) pre.length = k from rwf_md, u2_s]
            exact ⟨rfl, by omega⟩
          · rw [rwf_a1 (by omega), up t cj, m1 t (by omega)]
            exact hm t (by omega)) (fun j h1 h2 => by rw [up j (by omega)]; exact m2 j h1 h2) (hli1.of (fun a j a1 a2 a3 a4 a5 a6 => by rw [u2_row_ne a2]) (fun j _ => by rw [u2_row_ne (by decide)]) (u2_row_ne (by decide)) (u2_row_ne (by decide))) hll1 ⟨hs1.1, by rw [u2_row_ne (by decide)]; exact hs1.2⟩ hbv1 rfl (fun hi2 hl2 sw2 q1 q2 q3 q4 q5 => k_19_73 (w2 hi2 hl2 sw2 (fun t ht => by rw [q4 t (by rw [el]; omega), up t (by omega)]; exact m1 t ht) q5 q1 q2 q3))
        rw [el] at this
        exact this
      induction k with
      | zero =>
        intro hk s hi1 hl1 sw1 x3 m1 m2 hli1 hll1 hs1 hbv1 hfs1
        rw [cmj_m0] at hfs1
        refine one 0 hk s hi1 hl1 sw1 x3 m1 m2 hli1 hll1 hs1 hbv1 (fun hi2 hl2 sw2 q1 q2 q3 q4 q5 => ?_)
        rw [hfs1] at q5
        have z : nI 0 + (-1) < (0 : Int32) := by decide
        exact k_19_46 (fun _ => w' hi2 hl2 sw2 q3 q4 q5 q1 q2) (fun c => absurd z c) (fun c => absurd z c)
      | succ k ihk =>
        intro hk s hi1 hl1 sw1 x3 m1 m2 hli1 hll1 hs1 hbv1 hfs1
        rw [cmj_map, fbs_app] at hfs1
        refine one (k + 1) hk s hi1 hl1 sw1 x3 m1 m2 hli1 hll1 hs1 hbv1 (fun hi2 hl2 sw2 q1 q2 q3 q4 q5 => ?_)
        rw [show nI (k + 1) + (-1) = nI (k + 1) - 1 from (Int32.sub_eq_add_neg ..).symm, show nI (k + 1) - 1 = nI k from pk_sub (a := k + 1) (b := 1) (by omega)]
        exact ihk (by omega) _ hi2 hl2 sw2 x3 q1 q2 q3 q4 q5 (fbs_bv hF _ _ hbv1) hfs1
    exact key _ (Nat.le_refl _) s hi hl sw _ (fun _ _ => rfl) h0 hli hll hs hbv hfs
def bok : Bst → Int32
  | none => 0
  | some _ => 1
theorem f18 {k : Nat} (eF : F = fun l => wp V X (fun t => bo t + rwf l t) H c n D0) (hx : LX V X c n M B H D0 bo) (hk : k ≤ M) (hli : LJ V X c n M B H bo hi) (hll : LL hl hl0) (w' : ∀ (hi' : Nat → Nat → Int32) (hl' : Nat → Nat → Int64) (sw' : Bool), LJ V X c n M B H bo hi' → LL hl' hl0 → SCl (fbs F bo (vP V) none (cmps (vP V) k)) hi' hl' → Q (some (.int (bok (fbs F bo (vP V) none (cmps (vP V) k))))) (mkH hi' hl' sw' kp)) : cS (d + 17) 18 [.ref 264, .int (nI k)] (mkH hi hl sw kp) Q := by
  have hxd := hx.dg
  obtain ⟨hv, hsn, hc, hcs, hn, hM, hdg, d1, hB⟩ := id hx
  have hb8 := hv.1
  refine e_18 (cS.hi cx_id.symm (f38 (d := d + 14) (fun m' hm' => k_18_14 ?_)))
  have hx' := f19 (d := d + (8 - vP V)) (kp := kp) (hl0 := hl0) eF hx (vP V) [] k none (fbs F bo (vP V) none (cmps (vP V) k)) (am_ret (cW cd_18 (d + 16) Q) 20 [some (.ref 264), some (.int (nI k))] []) (cx hi (hi 27) (hi 256) m' (hi 258) (hi 259) (hi 260)) (u2 hl 264 4 (-1)) sw (Nat.zero_add _) rfl hk (fun t ht => absurd ht (Nat.not_lt_zero t)) (fun j _ hj => hm' j hj) (hli.of (fun a j a1 a2 a3 a4 a5 a6 => ?_) (fun j _ => rfl) rfl rfl) (fun a a1 a2 a3 => by rw [u2_row_ne a3]; exact hll a a1 a2 a3) ⟨u2_s, fun v l e => by simp at e⟩ (fun v l e => by simp at e) (by
    have : (cmps (vP V) k).map (fun l => [] ++ l) = cmps (vP V) k := List.map_id _
    rw [this]) (fun hi2 hl2 sw2 q1 q2 q3 q4 q5 => ?_)
  · rw [show d + (8 - vP V) + 8 + vP V = d + 16 by omega] at hx'
    exact hx'
  · by_cases a27 : a = 27
    · subst a27; rfl
    · by_cases a258 : a = 258
      · subst a258; rfl
      · show uR (uR (uR (uR (uR (uR hi 27 _) 256 _) 257 _) 258 _) 259 _) 260 _ a j = _
        rw [uR_ne a4, uR_ne a3, uR_ne a258, uR_ne a2, uR_ne a1, uR_ne a27]
  · have e4 := q3.1
    have w2 := w' hi2 hl2 sw2 q1 q2 q3
    refine k_18_20 ?_ ?_ <;> rw [e4]
    · intro cc
      cases hS : fbs F bo (vP V) none (cmps (vP V) k) with
      | none => rw [hS] at w2; exact w2
      | some q =>
        obtain ⟨v, l⟩ := q
        rw [hS] at cc
        have hv2 : v < 2 ^ 62 := fbs_bv (F := F) (bo := bo) (P := vP V) (fun l => by rw [eF]; exact wp_2 hn hxd) (cmps (vP V) k) none (fun v l e => by simp at e) v l hS
        exfalso
        have cc' : lg_cmp (lN v) 0 < 0 := cc
        unfold lg_cmp at cc'
        by_cases h1 : lN v > 0
        · rw [if_pos h1] at cc'
          exact absurd cc' (by decide)
        · rw [if_neg h1] at cc'
          have h2 : lN v = 0 := by
            rcases Nat.eq_zero_or_pos v with z | z
            · rw [z]; rfl
            · exact absurd (show (0 : Int64) < lN v from (pk_lLT (a := 0) (b := v) (by decide) (by omega)).mpr z) h1
          rw [if_pos h2] at cc'
          exact absurd cc' (by decide)
    · intro cc
      cases hS : fbs F bo (vP V) none (cmps (vP V) k) with
      | some q => rw [hS] at w2; exact w2
      | none =>
        rw [hS] at cc
        exact absurd (show lg_cmp (-1) 0 < 0 by decide) cc
end BESTD
