/-! ===== methods of the text constant, over any heap ===== -/
def pC (B : Nat × Nat) (d : Nat) : am_C := fun mi' a h' Q' => ∃ B' : Nat × Nat, hN h' ≤ B'.1 ∧ B'.1 ≤ B.1 ∧ hZ h' ≤ B'.2 ∧ B'.2 ≤ B.2 ∧ am_Spec PR d mi' B' a h' Q'
def pQ (B : Nat × Nat) (Q : am_Q) : am_Q := fun r h' => hN h' = B.1 ∧ hZ h' = B.2 ∧ Q r h'
def pW (cd : Nat → am_T) (B : Nat × Nat) (d : Nat) (Q : am_Q) : am_K := am_WP cd B (pC B d) (pQ B Q)
theorem pS.of {d mi : Nat} {B : Nat × Nat} {args : List Value} {h : am_Hp} {Q : am_Q} (hf : Nat.ble (am_exp args).length (PR mi).2.2.1 = true) (w : pW (PR mi).2.2.2.2 B d Q 0 (am_pad (PR mi).2.2.1 (am_exp args)) [] h) : am_Spec PR (d + 1) mi B args h Q := by
  show (bif Nat.ble (am_exp args).length (PR mi).2.2.1 then _ else False)
  rw [hf]
  exact w
theorem pW.run {cd : Nat → am_T} {B : Nat × Nat} {d : Nat} {Q : am_Q} (stop : Nat → Bool) (n : Nat) {pc : Nat} {ls : am_Ls} {st : List Value} {h : am_Hp} (x : am_run cd B (pC B d) (pQ B Q) stop (pW cd B d Q) n pc ls st h) : pW cd B d Q pc ls st h := am_WP.run stop n x
theorem pC.of {B : Nat × Nat} {d mi : Nat} {args : List Value} {h : am_Hp} {Q : am_Q} (h1 : hN h ≤ B.1) (h2 : hZ h ≤ B.2) (w : am_Spec PR d mi (hN h, hZ h) args h Q) : pC B d mi args h Q := ⟨(hN h, hZ h), Nat.le_refl _, h1, Nat.le_refl _, h2, w⟩
def tx_c (i : Nat) : Int32 := ((am_bytes.getD i 0 &&& 255).toUInt32 % 65536).toInt32
section TX
variable {d : Nat} {Q : am_Q} {h : am_Hp}
theorem p_check2 {i n : Int32} (h0 : ¬ i < 0) (h1 : i < n) (w : Q (some (.int i)) h) : am_Spec PR (d + 1) 100 (hN h, hZ h) [.int i, .int n, .retAddr 3] h Q :=
  pS.of rfl (pW.run (am_in []) 10 (And.intro (fun c => absurd c h0) (fun _ => And.intro (fun _ => ⟨rfl, rfl, w⟩) (fun c => absurd h1 c))))
theorem p_check {i n : Int32} (h0 : ¬ i < 0) (h1 : i < n) (w : Q none h) : am_Spec PR (d + 2) 284 (hN h, hZ h) [.int i, .int n] h Q :=
  pS.of rfl (pW.run (am_in []) 10 (pC.of (Nat.le_refl _) (Nat.le_refl _) (p_check2 h0 h1 (And.intro rfl ⟨rfl, rfl, w⟩))))
theorem p_lat {i : Int32} (h0 : ¬ i < 0) (h1 : i < Int32.ofNat am_strN) (hv : vp_in i am_strN) (w : Q (some (.int (tx_c i.toNatClampNeg))) h) : am_Spec PR (d + 3) 285 (hN h, hZ h) [.retAddr 2, .int i] h Q :=
  pS.of rfl (pW.run (am_in []) 20 (pC.of (Nat.le_refl _) (Nat.le_refl _) (p_check h0 h1 (And.intro hv (And.intro (pk_nc _) ⟨rfl, rfl, w⟩)))))
theorem p_isLat (w : Q (some (.int 1)) h) : am_Spec PR (d + 1) 283 (hN h, hZ h) [.retAddr 1] h Q :=
  pS.of rfl (pW.run (am_in []) 20 (And.intro (fun c => absurd c (by decide)) (fun _ => And.intro (fun _ => And.intro (Or.inr rfl) ⟨rfl, rfl, w⟩) (fun c => absurd rfl c))))
theorem p_coder (w : Q (some (.int 0)) h) : am_Spec PR (d + 1) 282 (hN h, hZ h) [.retAddr 1] h Q :=
  pS.of rfl (pW.run (am_in []) 20 (And.intro (fun c => absurd c (by decide)) (fun _ => And.intro rfl ⟨rfl, rfl, w⟩)))
theorem p_charAt {i : Int32} (h0 : ¬ i < 0) (h1 : i < Int32.ofNat am_strN) (hv : vp_in i am_strN) (w : Q (some (.int (tx_c i.toNatClampNeg))) h) : am_Spec PR (d + 4) 281 (hN h, hZ h) [.retAddr 1, .int i] h Q :=
  pS.of rfl (pW.run (am_in []) 20 (pC.of (Nat.le_refl _) (Nat.le_refl _) (p_isLat (And.intro (fun c => absurd c (by decide)) (fun _ => pC.of (Nat.le_refl _) (Nat.le_refl _) (p_lat h0 h1 hv (And.intro (pk_nc _) ⟨rfl, rfl, w⟩)))))))
theorem p_length (w : Q (some (.int (Int32.ofNat am_strN))) h) : am_Spec PR (d + 2) 280 (hN h, hZ h) [.retAddr 1] h Q := by
  have e : Int32.ofNat am_strN >>> ((0 : Int32) &&& 31) = Int32.ofNat am_strN := by decide +kernel
  exact pS.of rfl (pW.run (am_in []) 20 (pC.of (Nat.le_refl _) (Nat.le_refl _) (p_coder ⟨rfl, rfl, by rw [← e] at w; exact w⟩)))
end TX
