/-! ===== the law begins ===== -/
set_option maxRecDepth 100000 in
set_option maxHeartbeats 4000000 in
theorem law_begins {L : Nat} {xs : Nat → Int32} {d : Nat} (w : lW L xs (d + 6) 18 [some (.retAddr 5), some (.ref 0), some (.ref 279), some (.int 0)] [] (mkH hi0 hl0 false kp0)) : am_WPe (cdL L xs) BB (cL (d + 6)) qL 0 [some (.retAddr 5), none, none, none] [] h0 := by
  refine am_WPe.run (am_in [7]) 4 (And.intro (by decide +kernel) (And.intro (by decide +kernel) (And.intro rfl (show cL (d + 6) 122 [.ref 0] HC_1 (am_ret (am_WPe (cdL L xs) BB (cL (d + 6)) qL) 7 [some (.retAddr 5), none, none, none] [.ref 0]) from ⟨by decide, (279, 8206), Nat.le_of_ble_eq_true rfl, Nat.le_of_ble_eq_true rfl, Nat.le_of_ble_eq_true rfl, Nat.le_of_ble_eq_true rfl, ct_1 ?_⟩))))
  refine am_WPe.run (am_in [15]) 6 (And.intro (Nat.le_of_ble_eq_true rfl) (And.intro (by decide +kernel) (And.intro (by decide +kernel) (And.intro rfl (show cL (d + 6) 162 [.ref 279] HC_297 (am_ret (am_WPe (cdL L xs) BB (cL (d + 6)) qL) 15 [some (.retAddr 5), some (.ref 0), none, none] [.ref 279]) from ⟨by decide, (324, 16034), Nat.le_of_ble_eq_true rfl, Nat.le_of_ble_eq_true rfl, Nat.le_of_ble_eq_true rfl, Nat.le_of_ble_eq_true rfl, ct_64 ?_⟩)))))
  refine am_WPe.eq eq_all ?_
  exact am_WPe.run (am_in [18]) 4 (And.intro (Nat.le_of_ble_eq_true rfl) (And.intro (Nat.le_of_ble_eq_true rfl) (am_WP.e w)))
/-- the law's walk, once every operation keeps a relation that holds at first -/
theorem whole_by {Rel : am_R} {d : Nat} (hd : d + 6 ≤ 1000) (ops : OpsOK Rel (d + 6)) (r0 : Rel hi0 hl0 false kp0) {p : Program} {e : Env} {s : State} {m : MethodId} {below : List Frame} {meth : Method} {c : Code} (l : Launch) {b L : Nat} {xs : Nat → Int32} (hL : L ≤ 3584) (C0 : lw_At p s m meth c b L xs) : W p l e room_1 s m #[Value.ref b] below meth c s.heap [] 0 0 (lw_Z below #[Value.ref b] s) (entryFrame m ([Value.ref b] : List Value).toArray 4) :=
  whole_of l C0 (d + 6) hd (law_begins (law_loop hL ops (L + 1) 0 hi0 hl0 false kp0 (Nat.zero_le _) (by omega) r0))
