/-! ===== village: the class's lines that may stand once; a line; the whole text ===== -/
section VCP
variable {d : Nat} {Q : am_Q} {hi hi' : Nat → Nat → Int32} {hl hl' : Nat → Nat → Int64} {sw : Bool} {kp : Nat → Nat} {n a : Nat} {f : Nat → Int32} {D : Dr}
/-- pull -/
def DPu (D : Dr) : Prop := (dom D).testBit 5 = false → dps D = [] ∧ dun D = 0
theorem f98p (hS : CST n f D a hi hl) (hw : isW (tk (byt n f) a) 5) (hU : DPu D) (w : ∀ o r (hi' : Nat → Nat → Int32) (hl' : Nat → Nat → Int64), lPull (byt n f) D a o → CO n f o r hi' hl' → CF hi' hi hl' hl → Q (some (.int r)) (mkH hi' hl' sw kp)) : cS (d + 54) 98 [.ref 14, .int (nI (200 + 5))] (mkH hi hl sw kp) Q := by
  have hlt0 := hS.1.lt (by rw [hw.1]; decide) (by rw [hw.1]; decide)
  have hT : PT 56 1 1 (d + 49 + 4) 0 false := by
    have h := (t_all 7 0 rfl d).1
    rw [show d + 6 * 7 + 11 = d + 49 + 4 by omega] at h
    exact h
  refine f98c (d := d + 49) (i := 5) (by decide) hS hw (fun hb => ?_) (fun hb x2 hi1 hl1 S1 F1 => ?_)
  · exact w _ 0 _ _ (Or.inl ⟨hb, rfl⟩) (CO.ft rfl) ((CF.rf.u (by decide)).u (by decide))
  · obtain ⟨r1, C1, N1, z71, z81⟩ := S1
    have hp : CPs [] 0 hi1 := by
      have h0 : CPs (dps D) (dun D) hi1 := C1.2.2.2.2.2.2.2
      rw [(hU hb).1, (hU hb).2] at h0
      exact h0
    refine k_98_43 (fun _ => hT _ hi1 hl1 sw kp n f [] [] 0 (te (tk (byt n f) a)) ⟨r1, hp, ⟨z71, z81⟩, trivial, rfl, ⟨Nat.zero_le _, hlt0.2⟩, by decide⟩ (fun z => by cases z) (fun r hi2 hl2 pc pf => ?_)) (fun z => absurd (by decide) z) (fun z => absurd (by decide) z) (fun z => absurd (by decide) z) (fun z => absurd (by decide) z) (fun z => absurd (by decide) z)
    have F2 : CF hi2 hi hl2 hl := F1.tr ⟨fun c q => pf.1 c (by omega) (by omega) (by omega), fun c q1 q2 => pf.2 c q1⟩
    rcases pc with ⟨rfl, e, p1, p2, p3⟩ | ⟨rfl, T, P2, U2, a2, hR2, hC2, hz2, hE2, hlen2, hU2, hge2, reach⟩
    · exact k_98_88 (fun _ => w (.inl e) 0 hi2 hl2 (Or.inr ⟨hb, _, p1, rfl⟩) (Or.inl ⟨e, rfl, rfl, p2, p3⟩) F2) (fun z => absurd rfl z)
    · have hst : stP (byt n f) (true, T ++ [], P2, U2, a2) = .inr (.inr ((P2 ++ T.map sp, U2), a2)) := by
        rw [st_dn, cls_ap (k := 0) (S := []) trivial T (fun s hs => ⟨(hE2.1 s hs).1, Nat.zero_le _⟩)]
        · intro z
          obtain ⟨e1, e2, e3, e4, e5, e6⟩ := hE2
          by_cases cr : rlT (tk (byt n f) a2)
          · have hs := sgt_sg (t := tk (byt n f) a2) (Or.inr (Or.inr cr))
            refine z.2 ⟨?_, e4 (by decide) cr⟩
            rw [hs]
            rcases cr with cr | cr | cr <;> rw [cr] <;> decide
          · exact z.1 (sgt_0 (e5 (by decide)) (e6 (by decide)) (fun y => by
              rcases y with y | y | y
              · exact e2 (by decide) y
              · exact e3 (by decide) y
              · exact cr y))
        · intro z
          rw [List.append_nil] at z
          exact (hE2.1 20 z).1 rfl
      have hL : lPull (byt n f) D a (bnd (rdS (byt n f) 59 a2) fun _ y => .inr (aPull D (P2 ++ T.map sp) U2, y)) := Or.inr ⟨hb, _, reach _ (PM.o hst), rfl⟩
      have C2 : CI (aPull D (P2 ++ T.map sp) U2) hi2 := by
        obtain ⟨c1, c2, c3, c4, c5, c6, c7, c8⟩ := C1
        have hr : ∀ c, c ≠ 3 → c ≠ 11 → c ≠ 12 → hi2 c = hi1 c := pf.1
        refine ⟨?_, ?_, ?_, ?_, ?_, ?_, ?_, hC2⟩
        · rw [hr 5 (by decide) (by decide) (by decide)]; exact c1
        · rw [hr 6 (by decide) (by decide) (by decide), hr 7 (by decide) (by decide) (by decide)]; exact c2
        · rw [hr 8 (by decide) (by decide) (by decide)]; exact c3
        · rw [hr 9 (by decide) (by decide) (by decide)]; exact c4
        · rw [hr 10 (by decide) (by decide) (by decide)]; exact c5
        · rw [hr 14 (by decide) (by decide) (by decide)]; exact c6
        · rw [hr 14 (by decide) (by decide) (by decide)]; exact c7
      have N2 : CN (aPull D (P2 ++ T.map sp) U2) hl2 := CN.pu (N1.cg (fun c q1 q2 => pf.2 c (by omega)))
      refine k_98_88 (fun z => absurd z (by decide)) (fun _ => c_end (d := d + 48) (D' := aPull D (P2 ++ T.map sp) U2) ⟨hR2, C2, N2, hz2.1, hz2.2⟩ rfl F2 (fun r hi' hl' o1 o2 => ?_))
      rcases o1.r with rfl | rfl
      · exact k_98_247 (fun _ => w _ 0 hi' hl' hL o1 o2) (fun z => absurd rfl z)
      · exact k_98_247 (fun z => absurd z (by decide)) (fun _ => w _ 1 hi' hl' hL o1 o2)
end VCP
