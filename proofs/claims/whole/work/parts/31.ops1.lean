/-! ===== operations: fault, end, later, lies ===== -/
theorem op_fault {d : Nat} (a1 : Int32) : OpI Rel (d + 1) 126 206 [.int a1] := by
  intro hi hl sw kp Q hR k
  refine s_126 (k _ hi hl sw kp (fun Q2 k2 => s_206 ?_))
  have e : g_206 hi a1 = g_126 hi a1 := by
    unfold g_206 g_126
    rw [hR.2.1.1, hR.2.1.2]
  rw [e]
  exact k2 hi hl sw kp hR
theorem op_end {d : Nat} (a1 : Int32) : OpI Rel (d + 1) 124 165 [.int a1] := by
  intro hi hl sw kp Q hR k
  obtain ⟨⟨n, n1, n2, n3, n4⟩, r2, r3, r4, r5, r6, r7⟩ := id hR
  refine e_124 (fun c => ?_) (fun c1 c2 => ?_) (fun c1 c2 => ?_)
  · exact k (-1) hi hl sw kp (fun Q2 k2 => e_165 (fun _ => k2 hi hl sw kp hR) (fun c' => absurd c c') (fun c' => absurd c c'))
  · refine k a1 (u2 hi 1 1 a1) hl sw kp (fun Q2 k2 => e_165 (fun c' => absurd c' c1) (fun _ _ => ?_) (fun _ c' => absurd (show a1 ≤ hi 279 1 by rw [n3, ← n2]; exact c2) c'))
    obtain ⟨m, hm, rfl⟩ := nI_of c1
    rw [n2] at c2
    have hmn : m ≤ n := (nI_leI hm (by omega)).mp c2
    exact k2 (u2 (u2 hi 1 1 (nI m)) 279 1 (nI m)) hl sw kp ⟨⟨m, by omega, rfl, rfl, fun j hj => n4 j (by omega)⟩, r2, r3, r4, r5, r6, R_big.fr ((Ag.rf.u (by decide)).u (by decide)) r6 (fun _ h => h) (fun h => h) (fun _ h => h) rfl rfl rfl rfl rfl rfl rfl rfl r7⟩
  · exact k (-1) hi hl sw kp (fun Q2 k2 => e_165 (fun c' => absurd c' c1) (fun _ c' => absurd (show a1 ≤ hi 1 1 by rw [n2, ← n3]; exact c') c2) (fun _ _ => k2 hi hl sw kp hR))
