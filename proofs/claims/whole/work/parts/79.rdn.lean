/-! ===== the reference's reader: numbers and names ===== -/
section RDN
variable {d : Nat} {Q : am_Q} {hi : Nat → Nat → Int32} {hl : Nat → Nat → Int64} {sw : Bool} {kp : Nat → Nat} {n a : Nat} {f : Nat → Int32}
theorem ftw_p {t : Tk} {w : Nat} (h1 : 0 < w) (h2 : w < 100) : ¬ nI (ftw t w) = 0 ∧ ¬ nI (ftw t w) ≤ 0 := by
  have h3 : 0 < ftw t w ∧ ftw t w < 100 := by
    unfold ftw
    by_cases c : ts t = 3
    · rw [if_pos c]; omega
    · rw [if_neg c]; omega
  exact ⟨nI_ne0 h3.1 (by omega), nI_nle h3.1 (by omega)⟩
theorem f176 {lo up : Nat} (hlo : lo < 2 ^ 20) (hup : up < 2 ^ 20) (hv : tv (tk (byt n f) a) < 2 ^ 20) (h : MS n f a hi hl) (w1 : ts (tk (byt n f) a) = 2 → lo ≤ tv (tk (byt n f) a) → tv (tk (byt n f) a) ≤ up → ∀ (hi' : Nat → Nat → Int32) (hl' : Nat → Nat → Int64), MS n f (te (tk (byt n f) a)) hi' hl' → FR hi' hi hl' hl → Q (some (.int (nI (tv (tk (byt n f) a))))) (mkH hi' hl' sw kp)) (w0 : ∀ w x, (ts (tk (byt n f) a) = 2 ∧ ¬ (lo ≤ tv (tk (byt n f) a) ∧ tv (tk (byt n f) a) ≤ up) ∧ w = 4) ∨ (¬ ts (tk (byt n f) a) = 2 ∧ w = 2) → Q (some (.int x)) (mkH (u2 (u2 hi 279 2 (nI (ftw (tk (byt n f) a) w))) 279 3 (nI (tp (tk (byt n f) a)))) hl sw kp)) : cS (d + 3) 176 [.ref 279, .int (nI lo), .int (nI up)] (mkH hi hl sw kp) Q := by
  have hle : hi 279 2 ≤ 0 := by rw [h.2.2.2.2.1]; decide
  have h6 := h.so (k := 2) (by decide)
  have e8 : ts (tk (byt n f) a) = 2 → hi 279 8 = nI (tv (tk (byt n f) a)) := fun z => h.2.2.2.2.2.1.2.2.2.1 z
  have bad : ∀ w, 0 < w → w < 100 → ((ts (tk (byt n f) a) = 2 ∧ ¬ (lo ≤ tv (tk (byt n f) a) ∧ tv (tk (byt n f) a) ≤ up) ∧ w = 4) ∨ (¬ ts (tk (byt n f) a) = 2 ∧ w = 2)) → cW cd_176 (d + 2) Q 46 [some (.ref 279), some (.int (nI lo)), some (.int (nI up)), none] [] (mkH (u2 (u2 hi 279 2 (nI (ftw (tk (byt n f) a) w))) 279 3 (nI (tp (tk (byt n f) a)))) hl sw kp) := fun w a1 a2 hw => by
    have e2 : (u2 (u2 hi 279 2 (nI (ftw (tk (byt n f) a) w))) 279 3 (nI (tp (tk (byt n f) a)))) 279 2 = nI (ftw (tk (byt n f) a) w) := by rw [u2_nn (by decide), u2_s]
    exact k_176_46 (fun c => absurd (by rw [← e2]; exact c) (ftw_p (t := tk (byt n f) a) a1 a2).1) (fun _ => k_176_62 (w0 w _ hw))
  refine e_176 (fun _ c1 c2 => ?_) (fun _ c1 c2 c3 => ?_) (fun _ c1 c2 c3 => ?_) (fun _ c1 => ?_) (fun c => absurd hle c)
  · have c1' := h6.mp c1
    rw [e8 c1'] at c2
    have := (nI_ltI (by omega) (by omega)).mp c2
    exact f171 (d := d + 1) (w := 4) h (bad 4 (by decide) (by decide) (Or.inl ⟨c1', by omega, rfl⟩))
  · have c1' := h6.mp c1
    rw [e8 c1'] at c2 c3
    have c4 : lo ≤ tv (tk (byt n f) a) := by
      rcases Nat.lt_or_ge (tv (tk (byt n f) a)) lo with z | z
      · exact absurd (nI_lt z (by omega)) c2
      · exact z
    have c5 := (nI_leI (by omega) (by omega)).mp c3
    refine k_176_46 (fun _ => ?_) (fun c => absurd h.2.2.2.2.1 c)
    rw [e8 c1']
    exact f170r (d := d) h (by rw [c1']; decide) (fun hi' hl' q1 q2 => k_176_62 (w1 c1' c4 c5 hi' hl' q1 q2))
  · have c1' := h6.mp c1
    rw [e8 c1'] at c3
    have c5 : ¬ tv (tk (byt n f) a) ≤ up := fun z => c3 (nI_le z (by omega))
    exact f171 (d := d + 1) (w := 4) h (bad 4 (by decide) (by decide) (Or.inl ⟨c1', by omega, rfl⟩))
  · exact f171 (d := d + 1) (w := 2) h (k_176_22 (bad 2 (by decide) (by decide) (Or.inr ⟨fun z => c1 (h6.mpr z), rfl⟩)))
theorem f178 {m o : Nat} {N : Nat → List Nat} {l : List Nat} (hm : o + m ≤ 16) (hN : ∀ i, i < m → hl 281 (o + i) = lN (w8 (N i)) ∧ ltr (N i) ∧ w8 (N i) < 2 ^ 63) (e9 : hl 279 9 = lN (w8 l)) (hl1 : ltr l) (hl2 : w8 l < 2 ^ 63) (w1 : ∀ i, i < m → N i = l → Q (some (.int (nI i))) (mkH hi hl sw kp)) (w0 : (∀ i, i < m → N i ≠ l) → Q (some (.int (-1))) (mkH hi hl sw kp)) : cS (d + 1) 178 [.ref 279, .int (nI o), .int (nI m)] (mkH hi hl sw kp) Q := by
  refine e_178 (lpu (σ := Int32) m (fun k x => cW cd_178 d Q 5 [some (.ref 279), some (.int (nI o)), some (.int (nI m)), some (.int x), some (.int (nI k))] [] (mkH hi hl sw kp)) (fun k x => (x = -1 ∧ ∀ j, j < k → N j ≠ l) ∨ (∃ i, i < k ∧ N i = l ∧ x = nI i)) ?_ ?_ m 0 (-1) (Nat.zero_add m) (Or.inl ⟨rfl, fun j hj => absurd hj (Nat.not_lt_zero j)⟩))
  · intro x hx
    refine k_178_5 (fun _ => ?_) (fun c => absurd (Int32.le_refl _) c) (fun c => absurd (Int32.le_refl _) c) (fun c => absurd (Int32.le_refl _) c)
    rcases hx with ⟨rfl, h⟩ | ⟨i, h1, h2, rfl⟩
    · exact w0 h
    · exact w1 i h1 h2
  · intro k x hk hx ih
    obtain ⟨n1, n2, n3⟩ := hN k hk
    have hg : ¬ nI m ≤ nI k := nI_ge hk (by omega)
    refine k_178_5 (fun c => absurd c hg) (fun _ => by rw [nI_add]; exact vp_in_nI (by omega) (by decide)) (fun _ c => ?_) (fun _ c => ?_)
    · rw [nI_add, nI_clamp (by omega), n1, e9, lg_eq n3 hl2] at c
      rw [nI_1]
      exact ih _ (Or.inr ⟨k, by omega, w8_in _ _ n2 hl1 c, rfl⟩)
    · rw [nI_add, nI_clamp (by omega), n1, e9, lg_eq n3 hl2] at c
      rw [nI_1]
      refine ih _ ?_
      rcases hx with ⟨h1, h2⟩ | ⟨i, h1, h2, h3⟩
      · refine Or.inl ⟨h1, fun j hj => ?_⟩
        by_cases e : j = k
        · subst e
          exact fun z => c (by rw [z])
        · exact h2 j (by omega)
      · exact Or.inr ⟨i, by omega, h2, h3⟩
end RDN
