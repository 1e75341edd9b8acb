/-! ===== village: the class's lines of the table, of start, of numbers ===== -/
section VCN
variable {d : Nat} {Q : am_Q} {hi hi' : Nat → Nat → Int32} {hl hl' : Nat → Nat → Int64} {sw : Bool} {kp : Nat → Nat} {n a : Nat} {f : Nat → Int32} {D : Dr}
def aTold (D : Dr) (k : Nat) : Dr := (dD D, dP D, dT D, dC D, dnm D, dsm D, ddz D, dld D, dbr D, dtb D, dtm D ||| 2 ^ k, dom D, dvl D, dps D, dun D)
def aVal (D : Dr) (k : Nat) (v : Int32) : Dr := (dD D, dP D, dT D, dC D, dnm D, dsm D, ddz D, dld D, dbr D, up1 (dtb D) k v, dtm D, dom D, dvl D, dps D, dun D)
def aTo (D : Dr) (i : Nat) : Dr := (dD D, dP D, dT D, dC D, dnm D, dsm D, ddz D, dld D, dbr D, dtb D, dtm D, dom D ||| 2 ^ i, dvl D, dps D, dun D)
def aVl (D : Dr) (k v : Nat) : Dr := (dD D, dP D, dT D, dC D, dnm D, dsm D, ddz D, dld D, dbr D, dtb D, dtm D, dom D, up1 (dvl D) k v, dps D, dun D)
theorem CI.told {k : Nat} (h : CI D hi) : CI (aTold D k) (u2 hi 14 7 (nI (dtm D ||| 2 ^ k))) := by
  obtain ⟨⟨h0, h1, h2, h3, h4⟩, h5, h6, h7, h8, h9, h10, h14⟩ := h
  refine ⟨?_, ?_, ?_, ?_, ?_, ?_, ?_, h14.cg (u2_row_ne (by decide)) (u2_row_ne (by decide))⟩
  · rw [u2_row_ne (by decide)]; exact ⟨h0, h1, h2, h3, h4⟩
  · rw [u2_row_ne (by decide), u2_row_ne (by decide)]; exact h5
  · rw [u2_row_ne (by decide)]; exact h6
  · rw [u2_row_ne (by decide)]; exact h7
  · rw [u2_row_ne (by decide)]; exact h8
  · rw [u2_nn (by decide)]; exact h9
  · exact u2_s
theorem CI.to {i : Nat} (h : CI D hi) : CI (aTo D i) (u2 hi 14 6 (nI (dom D ||| 2 ^ i))) := by
  obtain ⟨⟨h0, h1, h2, h3, h4⟩, h5, h6, h7, h8, h9, h10, h14⟩ := h
  refine ⟨?_, ?_, ?_, ?_, ?_, ?_, ?_, h14.cg (u2_row_ne (by decide)) (u2_row_ne (by decide))⟩
  · rw [u2_row_ne (by decide)]; exact ⟨h0, h1, h2, h3, h4⟩
  · rw [u2_row_ne (by decide), u2_row_ne (by decide)]; exact h5
  · rw [u2_row_ne (by decide)]; exact h6
  · rw [u2_row_ne (by decide)]; exact h7
  · rw [u2_row_ne (by decide)]; exact h8
  · exact u2_s
  · rw [u2_nn (by decide)]; exact h10
theorem CI.val {k : Nat} {v : Int32} (h : CI D hi) : CI (aVal D k v) (u2 hi 10 k v) := by
  obtain ⟨⟨h0, h1, h2, h3, h4⟩, h5, h6, h7, h8, h9, h10, h14⟩ := h
  refine ⟨?_, ?_, ?_, ?_, fun j hj => ?_, ?_, ?_, h14.cg (u2_row_ne (by decide)) (u2_row_ne (by decide))⟩
  · rw [u2_row_ne (by decide)]; exact ⟨h0, h1, h2, h3, h4⟩
  · rw [u2_row_ne (by decide), u2_row_ne (by decide)]; exact h5
  · rw [u2_row_ne (by decide)]; exact h6
  · rw [u2_row_ne (by decide)]; exact h7
  · show _ = up1 (dtb D) k v j
    by_cases c : j = k
    · rw [c, u2_s, up1_s]
    · rw [u2_nn (fun q => c q.2), up1_n c]
      exact h8 j hj
  · rw [u2_row_ne (by decide)]; exact h9
  · rw [u2_row_ne (by decide)]; exact h10
theorem CI.vl {k v : Nat} (hk : 4 ≤ k ∧ k ≤ 8) (h : CI D hi) : CI (aVl D k v) (u2 hi 5 k (nI v)) := by
  obtain ⟨⟨h0, h1, h2, h3, h4⟩, h5, h6, h7, h8, h9, h10, h14⟩ := h
  refine ⟨⟨?_, ?_, ?_, ?_, fun j j1 j2 => ?_⟩, ?_, ?_, ?_, ?_, ?_, ?_, h14.cg (u2_row_ne (by decide)) (u2_row_ne (by decide))⟩
  · rw [u2_nn (by omega)]; exact h0
  · rw [u2_nn (by omega)]; exact h1
  · rw [u2_nn (by omega)]; exact h2
  · rw [u2_nn (by omega)]; exact h3
  · show _ = nI (up1 (dvl D) k v j)
    by_cases c : j = k
    · rw [c, u2_s, up1_s]
    · rw [u2_nn (fun q => c q.2), up1_n c]
      exact h4 j j1 j2
  · rw [u2_row_ne (by decide), u2_row_ne (by decide)]; exact h5
  · rw [u2_row_ne (by decide)]; exact h6
  · rw [u2_row_ne (by decide)]; exact h7
  · rw [u2_row_ne (by decide)]; exact h8
  · rw [u2_row_ne (by decide)]; exact h9
  · rw [u2_row_ne (by decide)]; exact h10
theorem FT.u {k j : Nat} {x : Int32} (h : FT hi' hi hl' hl) : FT (u2 hi' k j x) (u2 hi k j x) hl' hl := ⟨fun c i q => by
  rw [u2_eq, u2_eq]
  by_cases z : c = k ∧ i = j
  · rw [if_pos z, if_pos z]
  · rw [if_neg z, if_neg z]
    exact h.1 c i q, h.2⟩
theorem g109d {m p : Nat} (hp : p < m) (h8 : m ≤ 4) (e : hi 5 3 = nI m) : ¬ g_109d hi (nI p) = 0 := by
  unfold g_109d
  rw [if_neg (nI_pos (by omega)), e, if_neg (nI_ge hp (by omega)), if_neg (show ¬ (4 : Int32) ≤ nI p from nI_ge (b := 4) (by omega) (by decide))]
  decide
theorem g110d {m p : Nat} (hp : p < m) (h8 : m ≤ 4) (e : hi 5 0 = nI m) : ¬ g_110d hi (nI p) = 0 := by
  unfold g_110d
  rw [if_neg (nI_pos (by omega)), e, if_neg (nI_ge hp (by omega)), if_neg (show ¬ (4 : Int32) ≤ nI p from nI_ge (b := 4) (by omega) (by decide))]
  decide
theorem m44 : ∀ x, x < 4 → ∀ y, y < 4 → nI x * 4 + nI y = nI (4 * x + y) ∧ (4 : Int32) * nI x + nI y = nI (4 * x + y) := by decide
theorem f115 {e c me mc : Nat} {x : Int32} (he : e < me) (hc : c < mc) (h4 : me ≤ 4) (h5 : mc ≤ 4) (e0 : hi 5 0 = nI me) (e3 : hi 5 3 = nI mc) (w' : Q none (mkH (u2 hi 10 (4 * e + c) x) hl sw kp)) : cS (d + 2) 115 [.ref 5, .int (nI e), .int (nI c), .int x] (mkH hi hl sw kp) Q := by
  have hm := (m44 e (by omega) c (by omega)).1
  refine e_115 (d := d) (fun z => absurd z (g110d he h4 e0)) (fun _ z => absurd z (g109d hc h5 e3)) (fun _ _ => ?_) (fun _ _ => ?_)
  · rw [hm]
    exact vp_in_nI (by omega) (by decide)
  · rw [hm, nI_clamp (by omega)]
    exact w'
/-- the value of a row of the table -/
theorem f97 {e c me mc : Nat} (he : e < me) (hc : c < mc) (h4 : me ≤ 4) (h5 : mc ≤ 4) (e0 : hi 5 0 = nI me) (e3 : hi 5 3 = nI mc) (hR : RS n f a hi hl) (w1 : ∀ v x (hi' : Nat → Nat → Int32) (hl' : Nat → Nat → Int64), rdV (byt n f) a = .inr (v, x) → RS n f x hi' hl' → FT hi' (u2 hi 10 (4 * e + c) v) hl' hl → Q (some (.int 1)) (mkH hi' hl' sw kp)) (w0 : ∀ x (hi' : Nat → Nat → Int32) (hl' : Nat → Nat → Int64), rdV (byt n f) a = .inl x → hi' 3 7 = nI x.1 → hi' 3 8 = nI x.2 → CF hi' hi hl' hl → Q (some (.int 0)) (mkH hi' hl' sw kp)) : cS (d + 5) 97 [.ref 14, .int (nI e), .int (nI c)] (mkH hi hl sw kp) Q := by
  have h45 : hi 3 2 = 45 ↔ ts (tk (byt n f) a) = 45 := hR.sg (k := 45) (by decide) (by decide)
  refine e_97 (d := d + 4) (fun z => ?_) (fun z => ?_)
  · have hm := h45.mp z
    refine f67r (d := d) hR (by rw [hm]; decide) (fun hi1 hl1 r1 q1 => ?_)
    have E : rdV (byt n f) a = _ := cI_1 hm
    have e4 : ts (tk (byt n f) (te (tk (byt n f) a))) = 2 → hi1 3 4 = nI (tv (tk (byt n f) (te (tk (byt n f) a)))) := fun y => (r1.2.2.1.2.2.2.1 y).2
    have hv := tk_v (b := byt n f) (a := te (tk (byt n f) a))
    refine k_97_39 (fun _ _ y => absurd y (by decide)) (fun y1 y2 _ => ?_) (fun y1 y2 => ?_) (fun y1 => ?_)
    · have y3 := r1.num.mp y1
      rw [e4 y3] at y2 ⊢
      have y4 : tv (tk (byt n f) (te (tk (byt n f) a))) ≤ 3 := (nI_leI (b := 3) (by omega) (by decide)).mp y2
      rw [cI_1 y3, cI_1 y4] at E
      exact f115 (d := d + 2) he hc h4 h5 (by rw [q1.row (by decide)]; exact e0) (by rw [q1.row (by decide)]; exact e3) (k_97_112 (f67r (d := d) (r1.u (by decide)) (by rw [y3]; decide) (fun hi2 hl2 r2 q2 => k_97_119 (w1 _ _ hi2 hl2 E r2 (q1.u.tr q2)))))
    · have y3 := r1.num.mp y1
      rw [e4 y3] at y2
      have y4 : ¬ tv (tk (byt n f) (te (tk (byt n f) a))) ≤ 3 := fun y => y2 ((nI_leI (b := 3) (by omega) (by decide)).mpr y)
      rw [cI_1 y3, cI_0 y4] at E
      refine e_73 (d := d + 3) (k_97_79 (Or.inl rfl) (w0 _ _ _ E ?_ ?_ (((CF.rf.ft q1).u (by decide)).u (by decide))))
      · rw [u2_nn (by decide), u2_s]
        rfl
      · rw [u2_s]
        exact hR.2.2.1.1
    · rw [cI_0 (fun y => y1 (r1.num.mpr y))] at E
      exact f72 (d := d + 2) (w := 2) r1 (k_97_58 (Or.inl rfl) (w0 _ _ _ E (by rw [u2_nn (by decide), u2_s]) u2_s (((CF.rf.ft q1).u (by decide)).u (by decide))))
  · have hm : ¬ ts (tk (byt n f) a) = 45 := fun y => z (h45.mpr y)
    have E : rdV (byt n f) a = _ := cI_0 hm
    have e4 : ts (tk (byt n f) a) = 2 → hi 3 4 = nI (tv (tk (byt n f) a)) := fun y => (hR.2.2.1.2.2.2.1 y).2
    have hv := tk_v (b := byt n f) (a := a)
    refine k_97_39 (fun y1 y2 _ => ?_) (fun _ _ y => absurd rfl y) (fun y1 y2 => ?_) (fun y1 => ?_)
    · have y3 := hR.num.mp y1
      rw [e4 y3] at y2 ⊢
      have y4 : tv (tk (byt n f) a) ≤ 3 := (nI_leI (b := 3) (by omega) (by decide)).mp y2
      rw [cI_1 y3, cI_1 y4] at E
      exact f115 (d := d + 2) he hc h4 h5 e0 e3 (k_97_112 (f67r (d := d) (hR.u (by decide)) (by rw [y3]; decide) (fun hi2 hl2 r2 q2 => k_97_119 (w1 _ _ hi2 hl2 E r2 q2))))
    · have y3 := hR.num.mp y1
      rw [e4 y3] at y2
      have y4 : ¬ tv (tk (byt n f) a) ≤ 3 := fun y => y2 ((nI_leI (b := 3) (by omega) (by decide)).mpr y)
      rw [cI_1 y3, cI_0 y4] at E
      refine e_73 (d := d + 3) (k_97_79 (Or.inl rfl) (w0 _ _ _ E ?_ ?_ ((CF.rf.u (by decide)).u (by decide))))
      · rw [u2_nn (by decide), u2_s]
        rfl
      · rw [u2_s]
        exact hR.2.2.1.1
    · rw [cI_0 (fun y => y1 (hR.num.mpr y))] at E
      exact f72 (d := d + 2) (w := 2) hR (k_97_58 (Or.inl rfl) (w0 _ _ _ E (by rw [u2_nn (by decide), u2_s]) u2_s ((CF.rf.u (by decide)).u (by decide))))
/-- when -/
theorem f96 (hS : CST n f D a hi hl) (hw : isW (tk (byt n f) a) 4) (hW : DW D) (w : ∀ r (hi' : Nat → Nat → Int32) (hl' : Nat → Nat → Int64), CO n f (lWhen (byt n f) D a) r hi' hl' → CF hi' hi hl' hl → Q (some (.int r)) (mkH hi' hl' sw kp)) : cS (d + 7) 96 [.ref 14] (mkH hi hl sw kp) Q := by
  obtain ⟨hR, hC, hN, z7, z8⟩ := hS
  obtain ⟨⟨w1, w2, w3, w4⟩, hDN, hdz, hld, hl0, hbr, htb, ht0, htm, hW'⟩ := hW
  have e0 : hi 14 7 = nI (dtm D) := hC.2.2.2.2.2.2.1
  refine e_96 (d := d + 5) ?_ ?_ <;> rw [e0, g279 htm]
  · intro hd
    have E0 : lWhen (byt n f) D a = _ := cI_1 hd
    refine f67r (d := d + 2) hR (by rw [hw.1]; decide) (fun hi1 hl1 r1 q1 => k_96_28 ?_)
    have C1 := hC.ft q1
    have N1 := hN.ft q1
    rw [show hi1 5 0 = nI (dD D) from C1.1.1]
    refine f103a (d := d + 2) (N := dnm D) w1 r1 (hDN.na N1) (fun y1 e y2 y3 => ?_) (fun w' y => ?_)
    · rw [rdO_1 _ hDN.1.1 y1 y2 y3, bnd_1] at E0
      refine k_96_43 (fun z => absurd z (nm1 (by omega))) (fun _ => f67r (d := d + 2) r1 (by rw [y1.1]; decide) (fun hi2 hl2 r2 q2 => k_96_58 ?_))
      have C2 := C1.ft q2
      have N2 := N1.ft q2
      have F2 := (CF.rf.ft q1).ft q2
      rw [show hi2 5 3 = nI (dC D) from C2.1.2.2.2.1]
      refine f103c (d := d + 2) (N := fun i => dnm D (12 + i)) w4 r2 (hDN.nc N2) (fun y4 c y5 y6 => ?_) (fun w' y => ?_)
      · rw [rdO_1 _ hDN.1.2.2 y4 y5 y6, bnd_1] at E0
        have em : hi2 14 7 = nI (dtm D) := C2.2.2.2.2.2.2.1
        refine k_96_73 (fun z => absurd z (nm1 (by omega))) (fun _ z => ?_) (fun _ z => ?_)
        · rw [em, (m44 e (by omega) c (by omega)).1, bt_an (by omega)] at z
          rw [cI_0 (by rw [z]; decide)] at E0
          rw [em, (m44 e (by omega) c (by omega)).1, bt_or (by omega)]
          have C3 := C2.told (k := 4 * e + c)
          refine f67r (d := d + 2) (r2.u (by decide)) (by rw [y4.1]; decide) (fun hi3 hl3 r3 q3 => k_96_124 ?_)
          have C4 := C3.ft q3
          have F3 := (F2.u (k := 14) (j := 7) (x := nI (dtm D ||| 2 ^ (4 * e + c))) (by decide)).ft q3
          refine f97 (d := d + 1) y2 y5 w1 w4 C4.1.1 C4.1.2.2.2.1 r3 (fun v x hi4 hl4 E4 r4 q4 => ?_) (fun x hi4 hl4 E4 a1 a2 a3 => ?_)
          · rw [E4, bnd_1] at E0
            refine k_96_130 (fun z => absurd z (by decide)) (fun _ => c_end (d := d + 1) (D' := aWhen D (4 * e + c) v) ⟨r4, C4.val.ft q4, (N2.ft q3).ft q4, q4.z7 ?_, q4.z8 ?_⟩ E0 ((F3.u (by decide)).ft q4) (fun r hi' hl' o1 o2 => ?_))
            · rw [u2_nn (by omega)]
              refine q3.z7 ?_
              rw [u2_nn (by decide)]
              exact q2.z7 (q1.z7 z7)
            · rw [u2_nn (by omega)]
              refine q3.z8 ?_
              rw [u2_nn (by decide)]
              exact q2.z8 (q1.z8 z8)
            · rcases o1.r with rfl | rfl
              · exact k_96_142 (fun _ => w 0 hi' hl' o1 o2) (fun z => absurd rfl z)
              · exact k_96_142 (fun z => absurd z (by decide)) (fun _ => w 1 hi' hl' o1 o2)
          · rw [E4] at E0
            exact k_96_130 (fun _ => w 0 hi4 hl4 (Or.inl ⟨x, E0, rfl, a1, a2⟩) (F3.tr a3)) (fun z => absurd rfl z)
        · rw [em, (m44 e (by omega) c (by omega)).1, bt_an (by omega)] at z
          rw [cI_1 (by cases hb : (dtm D).testBit (4 * e + c); exact absurd hb z; rfl)] at E0
          exact f72 (d := d + 4) (w := 3) r2 (k_96_106 (Or.inl rfl) (w 0 _ _ (CO.ft E0) ((F2.u (by decide)).u (by decide))))
      · rw [rdO_0 _ y, bnd_0] at E0
        exact k_96_73 (fun _ => w 0 _ _ (CO.ft E0) ((F2.u (by decide)).u (by decide))) (fun z => absurd rfl z) (fun z => absurd rfl z)
    · rw [rdO_0 _ y, bnd_0] at E0
      exact k_96_43 (fun _ => w 0 _ _ (CO.ft E0) (((CF.rf.ft q1).u (by decide)).u (by decide))) (fun z => absurd rfl z)
  · intro hd
    have E0 : lWhen (byt n f) D a = _ := cI_0 hd
    exact f72 (d := d + 4) (w := 2) hR (k_96_20 (Or.inl rfl) (w 0 _ _ (CO.ft E0) ((CF.rf.u (by decide)).u (by decide))))
end VCN
