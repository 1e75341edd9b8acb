/-! ===== the two rows of weights exchanged ===== -/
theorem HR_at {sw : Bool} {kp : Nat → Nat} : HR sw kp 256 = am_rf [some 19, some 28, some 257, some 258, some 259, some 260, none, none, none, (bif sw then some 262 else some 261), (bif sw then some 261 else some 262), some 263, none, none, none] := rfl
theorem HR_256 {kp : Nat → Nat} {a : Nat} (h : a ≠ 256) : HR false kp a = HR true kp a := by
  have q : Nat.ble a 255 = true ∨ Nat.ble a 256 = false := by
    rcases Nat.lt_or_ge 256 a with z | z
    · exact Or.inr (ble_f z)
    · exact Or.inl (Nat.ble_eq_true_of_le (by omega))
  rcases q with q | q
  · show (bif Nat.ble a 33 then _ else bif Nat.ble a 34 then _ else bif Nat.ble a 239 then _ else bif Nat.ble a 240 then _ else bif Nat.ble a 255 then _ else _) = (bif Nat.ble a 33 then _ else bif Nat.ble a 34 then _ else bif Nat.ble a 239 then _ else bif Nat.ble a 240 then _ else bif Nat.ble a 255 then _ else _)
    rw [q]
    simp only [cond_true]
  · show (bif Nat.ble a 33 then _ else bif Nat.ble a 34 then _ else bif Nat.ble a 239 then _ else bif Nat.ble a 240 then _ else bif Nat.ble a 255 then _ else bif Nat.ble a 289 then (bif Nat.ble a 272 then (bif Nat.ble a 263 then (bif Nat.ble a 259 then (bif Nat.ble a 257 then (bif Nat.ble a 256 then _ else _) else _) else _) else _) else _) else _) = (bif Nat.ble a 33 then _ else bif Nat.ble a 34 then _ else bif Nat.ble a 239 then _ else bif Nat.ble a 240 then _ else bif Nat.ble a 255 then _ else bif Nat.ble a 289 then (bif Nat.ble a 272 then (bif Nat.ble a 263 then (bif Nat.ble a 259 then (bif Nat.ble a 257 then (bif Nat.ble a 256 then _ else _) else _) else _) else _) else _) else _)
    rw [q]
    simp only [cond_false]
theorem HR_sw {kp : Nat → Nat} : u2 (u2 (HR false kp) 256 9 (some 262)) 256 10 (some 261) = HR true kp := by
  funext a b
  rw [u2_eq, u2_eq]
  by_cases h1 : a = 256
  · subst h1
    rw [HR_at, HR_at]
    by_cases h2 : b = 10
    · subst h2
      rw [if_pos ⟨rfl, rfl⟩]
      rfl
    · rw [if_neg (fun q => h2 q.2)]
      by_cases h3 : b = 9
      · subst h3
        rw [if_pos ⟨rfl, rfl⟩]
        rfl
      · rw [if_neg (fun q => h3 q.2)]
        rcases b with _ | _ | _ | _ | _ | _ | _ | _ | _ | _ | _ | b
        all_goals first
          | exact absurd rfl h3
          | exact absurd rfl h2
          | rfl
  · rw [if_neg (fun q => h1 q.1), if_neg (fun q => h1 q.1)]
    exact congrFun (HR_256 h1) b
theorem HR_ws {kp : Nat → Nat} : u2 (u2 (HR true kp) 256 9 (some 261)) 256 10 (some 262) = HR false kp := by
  funext a b
  rw [u2_eq, u2_eq]
  by_cases h1 : a = 256
  · subst h1
    rw [HR_at, HR_at]
    by_cases h2 : b = 10
    · subst h2
      rw [if_pos ⟨rfl, rfl⟩]
      rfl
    · rw [if_neg (fun q => h2 q.2)]
      by_cases h3 : b = 9
      · subst h3
        rw [if_pos ⟨rfl, rfl⟩]
        rfl
      · rw [if_neg (fun q => h3 q.2)]
        rcases b with _ | _ | _ | _ | _ | _ | _ | _ | _ | _ | _ | b
        all_goals first
          | exact absurd rfl h3
          | exact absurd rfl h2
          | rfl
  · rw [if_neg (fun q => h1 q.1), if_neg (fun q => h1 q.1)]
    exact (congrFun (HR_256 h1) b).symm
