/-! ===== the law's loop, by program ===== -/
def lW (L : Nat) (xs : Nat → Int32) (d : Nat) : am_K := am_WP (cdL L xs) BB (cL d) qL
theorem lW.run {L : Nat} {xs : Nat → Int32} {d : Nat} (stop : Nat → Bool) (n : Nat) {pc : Nat} {ls : am_Ls} {st : List Value} {h : am_Hp} (x : am_run (cdL L xs) BB (cL d) qL stop (lW L xs d) n pc ls st h) : lW L xs d pc ls st h := am_WP.run stop n x
abbrev stL : List Nat := [18, 184, 213, 242, 247, 256, 265, 270, 274, 278, 283, 292, 301, 306, 320, 334, 339, 353, 367, 372, 386, 400, 405, 414, 423, 428, 432, 436, 441, 450, 459, 464, 473, 482, 487, 491, 495, 500, 504, 508, 513, 532, 551, 557, 576, 595, 601, 610, 619, 624, 633, 642, 647, 671, 695, 701, 715, 729, 734, 753, 772, 777, 791, 805, 810, 814, 818, 823, 832, 841, 846, 855, 864, 869, 878, 887, 892, 927, 962, 967, 976, 985, 990, 999, 1008, 1013, 1027, 1041, 1046, 1065, 1084, 1089, 1108, 1127, 1132, 1141, 1150, 1155, 1164, 1173, 1178, 1187, 1196, 1201]
theorem cL.of {d mi : Nat} {args : List Value} {hi : Nat → Nat → Int32} {hl : Nat → Nat → Int64} {sw : Bool} {kp : Nat → Nat} {Q : am_Q} (hm : mi < 1000) (w : cS d mi args (mkH hi hl sw kp) Q) : cL d mi args (mkH hi hl sw kp) Q := ⟨hm, BB, Nat.le_refl _, Nat.le_refl _, Nat.le_refl _, Nat.le_refl _, w⟩
theorem qL.of {hi : Nat → Nat → Int32} {hl : Nat → Nat → Int64} {sw : Bool} {kp : Nat → Nat} : qL (some (.int 1)) (mkH hi hl sw kp) := ⟨rfl, Nat.le_refl _, Nat.le_refl _⟩
section LAWBLK
variable {L : Nat} {xs : Nat → Int32} {d : Nat} {hi : Nat → Nat → Int32} {hl : Nat → Nat → Int64} {sw : Bool} {kp : Nat → Nat}
set_option maxRecDepth 100000 in
theorem kL_head {x3 : Int32}
    (h1 : ((Int32.ofNat L) - (7)) < x3 → qL (some (.int (1))) (mkH hi hl sw kp))
    (h2 : ¬ (((Int32.ofNat L) - (7)) < x3) → vp_in x3 L)
    (h3 : ¬ (((Int32.ofNat L) - (7)) < x3) → ((xs x3.toNatClampNeg) &&& (63)) = 0 → lW L xs d 184 [some (.retAddr 5), some (.ref 0), some (.ref 279), some (.int x3)] [] (mkH hi hl sw kp))
    (h4 : ¬ (((Int32.ofNat L) - (7)) < x3) → ¬ ((xs x3.toNatClampNeg) &&& (63)) = 0 → ((xs x3.toNatClampNeg) &&& (63)) = 1 → lW L xs d 247 [some (.retAddr 5), some (.ref 0), some (.ref 279), some (.int x3)] [] (mkH hi hl sw kp))
    (h5 : ¬ (((Int32.ofNat L) - (7)) < x3) → ¬ ((xs x3.toNatClampNeg) &&& (63)) = 0 → ¬ ((xs x3.toNatClampNeg) &&& (63)) = 1 → ((xs x3.toNatClampNeg) &&& (63)) = 2 → lW L xs d 270 [some (.retAddr 5), some (.ref 0), some (.ref 279), some (.int x3)] [] (mkH hi hl sw kp))
    (h6 : ¬ (((Int32.ofNat L) - (7)) < x3) → ¬ ((xs x3.toNatClampNeg) &&& (63)) = 0 → ¬ ((xs x3.toNatClampNeg) &&& (63)) = 1 → ¬ ((xs x3.toNatClampNeg) &&& (63)) = 2 → ((xs x3.toNatClampNeg) &&& (63)) = 3 → lW L xs d 283 [some (.retAddr 5), some (.ref 0), some (.ref 279), some (.int x3)] [] (mkH hi hl sw kp))
    (h7 : ¬ (((Int32.ofNat L) - (7)) < x3) → ¬ ((xs x3.toNatClampNeg) &&& (63)) = 0 → ¬ ((xs x3.toNatClampNeg) &&& (63)) = 1 → ¬ ((xs x3.toNatClampNeg) &&& (63)) = 2 → ¬ ((xs x3.toNatClampNeg) &&& (63)) = 3 → ((xs x3.toNatClampNeg) &&& (63)) = 4 → lW L xs d 306 [some (.retAddr 5), some (.ref 0), some (.ref 279), some (.int x3)] [] (mkH hi hl sw kp))
    (h8 : ¬ (((Int32.ofNat L) - (7)) < x3) → ¬ ((xs x3.toNatClampNeg) &&& (63)) = 0 → ¬ ((xs x3.toNatClampNeg) &&& (63)) = 1 → ¬ ((xs x3.toNatClampNeg) &&& (63)) = 2 → ¬ ((xs x3.toNatClampNeg) &&& (63)) = 3 → ¬ ((xs x3.toNatClampNeg) &&& (63)) = 4 → ((xs x3.toNatClampNeg) &&& (63)) = 5 → lW L xs d 339 [some (.retAddr 5), some (.ref 0), some (.ref 279), some (.int x3)] [] (mkH hi hl sw kp))
    (h9 : ¬ (((Int32.ofNat L) - (7)) < x3) → ¬ ((xs x3.toNatClampNeg) &&& (63)) = 0 → ¬ ((xs x3.toNatClampNeg) &&& (63)) = 1 → ¬ ((xs x3.toNatClampNeg) &&& (63)) = 2 → ¬ ((xs x3.toNatClampNeg) &&& (63)) = 3 → ¬ ((xs x3.toNatClampNeg) &&& (63)) = 4 → ¬ ((xs x3.toNatClampNeg) &&& (63)) = 5 → ((xs x3.toNatClampNeg) &&& (63)) = 6 → lW L xs d 372 [some (.retAddr 5), some (.ref 0), some (.ref 279), some (.int x3)] [] (mkH hi hl sw kp))
    (h10 : ¬ (((Int32.ofNat L) - (7)) < x3) → ¬ ((xs x3.toNatClampNeg) &&& (63)) = 0 → ¬ ((xs x3.toNatClampNeg) &&& (63)) = 1 → ¬ ((xs x3.toNatClampNeg) &&& (63)) = 2 → ¬ ((xs x3.toNatClampNeg) &&& (63)) = 3 → ¬ ((xs x3.toNatClampNeg) &&& (63)) = 4 → ¬ ((xs x3.toNatClampNeg) &&& (63)) = 5 → ¬ ((xs x3.toNatClampNeg) &&& (63)) = 6 → ((xs x3.toNatClampNeg) &&& (63)) = 7 → lW L xs d 405 [some (.retAddr 5), some (.ref 0), some (.ref 279), some (.int x3)] [] (mkH hi hl sw kp))
    (h11 : ¬ (((Int32.ofNat L) - (7)) < x3) → ¬ ((xs x3.toNatClampNeg) &&& (63)) = 0 → ¬ ((xs x3.toNatClampNeg) &&& (63)) = 1 → ¬ ((xs x3.toNatClampNeg) &&& (63)) = 2 → ¬ ((xs x3.toNatClampNeg) &&& (63)) = 3 → ¬ ((xs x3.toNatClampNeg) &&& (63)) = 4 → ¬ ((xs x3.toNatClampNeg) &&& (63)) = 5 → ¬ ((xs x3.toNatClampNeg) &&& (63)) = 6 → ¬ ((xs x3.toNatClampNeg) &&& (63)) = 7 → ((xs x3.toNatClampNeg) &&& (63)) = 8 → lW L xs d 428 [some (.retAddr 5), some (.ref 0), some (.ref 279), some (.int x3)] [] (mkH hi hl sw kp))
    (h12 : ¬ (((Int32.ofNat L) - (7)) < x3) → ¬ ((xs x3.toNatClampNeg) &&& (63)) = 0 → ¬ ((xs x3.toNatClampNeg) &&& (63)) = 1 → ¬ ((xs x3.toNatClampNeg) &&& (63)) = 2 → ¬ ((xs x3.toNatClampNeg) &&& (63)) = 3 → ¬ ((xs x3.toNatClampNeg) &&& (63)) = 4 → ¬ ((xs x3.toNatClampNeg) &&& (63)) = 5 → ¬ ((xs x3.toNatClampNeg) &&& (63)) = 6 → ¬ ((xs x3.toNatClampNeg) &&& (63)) = 7 → ¬ ((xs x3.toNatClampNeg) &&& (63)) = 8 → ((xs x3.toNatClampNeg) &&& (63)) = 9 → lW L xs d 441 [some (.retAddr 5), some (.ref 0), some (.ref 279), some (.int x3)] [] (mkH hi hl sw kp))
    (h13 : ¬ (((Int32.ofNat L) - (7)) < x3) → ¬ ((xs x3.toNatClampNeg) &&& (63)) = 0 → ¬ ((xs x3.toNatClampNeg) &&& (63)) = 1 → ¬ ((xs x3.toNatClampNeg) &&& (63)) = 2 → ¬ ((xs x3.toNatClampNeg) &&& (63)) = 3 → ¬ ((xs x3.toNatClampNeg) &&& (63)) = 4 → ¬ ((xs x3.toNatClampNeg) &&& (63)) = 5 → ¬ ((xs x3.toNatClampNeg) &&& (63)) = 6 → ¬ ((xs x3.toNatClampNeg) &&& (63)) = 7 → ¬ ((xs x3.toNatClampNeg) &&& (63)) = 8 → ¬ ((xs x3.toNatClampNeg) &&& (63)) = 9 → ((xs x3.toNatClampNeg) &&& (63)) = 10 → lW L xs d 464 [some (.retAddr 5), some (.ref 0), some (.ref 279), some (.int x3)] [] (mkH hi hl sw kp))
    (h14 : ¬ (((Int32.ofNat L) - (7)) < x3) → ¬ ((xs x3.toNatClampNeg) &&& (63)) = 0 → ¬ ((xs x3.toNatClampNeg) &&& (63)) = 1 → ¬ ((xs x3.toNatClampNeg) &&& (63)) = 2 → ¬ ((xs x3.toNatClampNeg) &&& (63)) = 3 → ¬ ((xs x3.toNatClampNeg) &&& (63)) = 4 → ¬ ((xs x3.toNatClampNeg) &&& (63)) = 5 → ¬ ((xs x3.toNatClampNeg) &&& (63)) = 6 → ¬ ((xs x3.toNatClampNeg) &&& (63)) = 7 → ¬ ((xs x3.toNatClampNeg) &&& (63)) = 8 → ¬ ((xs x3.toNatClampNeg) &&& (63)) = 9 → ¬ ((xs x3.toNatClampNeg) &&& (63)) = 10 → ((xs x3.toNatClampNeg) &&& (63)) = 11 → lW L xs d 487 [some (.retAddr 5), some (.ref 0), some (.ref 279), some (.int x3)] [] (mkH hi hl sw kp))
    (h15 : ¬ (((Int32.ofNat L) - (7)) < x3) → ¬ ((xs x3.toNatClampNeg) &&& (63)) = 0 → ¬ ((xs x3.toNatClampNeg) &&& (63)) = 1 → ¬ ((xs x3.toNatClampNeg) &&& (63)) = 2 → ¬ ((xs x3.toNatClampNeg) &&& (63)) = 3 → ¬ ((xs x3.toNatClampNeg) &&& (63)) = 4 → ¬ ((xs x3.toNatClampNeg) &&& (63)) = 5 → ¬ ((xs x3.toNatClampNeg) &&& (63)) = 6 → ¬ ((xs x3.toNatClampNeg) &&& (63)) = 7 → ¬ ((xs x3.toNatClampNeg) &&& (63)) = 8 → ¬ ((xs x3.toNatClampNeg) &&& (63)) = 9 → ¬ ((xs x3.toNatClampNeg) &&& (63)) = 10 → ¬ ((xs x3.toNatClampNeg) &&& (63)) = 11 → ((xs x3.toNatClampNeg) &&& (63)) = 12 → lW L xs d 500 [some (.retAddr 5), some (.ref 0), some (.ref 279), some (.int x3)] [] (mkH hi hl sw kp))
    (h16 : ¬ (((Int32.ofNat L) - (7)) < x3) → ¬ ((xs x3.toNatClampNeg) &&& (63)) = 0 → ¬ ((xs x3.toNatClampNeg) &&& (63)) = 1 → ¬ ((xs x3.toNatClampNeg) &&& (63)) = 2 → ¬ ((xs x3.toNatClampNeg) &&& (63)) = 3 → ¬ ((xs x3.toNatClampNeg) &&& (63)) = 4 → ¬ ((xs x3.toNatClampNeg) &&& (63)) = 5 → ¬ ((xs x3.toNatClampNeg) &&& (63)) = 6 → ¬ ((xs x3.toNatClampNeg) &&& (63)) = 7 → ¬ ((xs x3.toNatClampNeg) &&& (63)) = 8 → ¬ ((xs x3.toNatClampNeg) &&& (63)) = 9 → ¬ ((xs x3.toNatClampNeg) &&& (63)) = 10 → ¬ ((xs x3.toNatClampNeg) &&& (63)) = 11 → ¬ ((xs x3.toNatClampNeg) &&& (63)) = 12 → ((xs x3.toNatClampNeg) &&& (63)) = 13 → lW L xs d 513 [some (.retAddr 5), some (.ref 0), some (.ref 279), some (.int x3)] [] (mkH hi hl sw kp))
    (h17 : ¬ (((Int32.ofNat L) - (7)) < x3) → ¬ ((xs x3.toNatClampNeg) &&& (63)) = 0 → ¬ ((xs x3.toNatClampNeg) &&& (63)) = 1 → ¬ ((xs x3.toNatClampNeg) &&& (63)) = 2 → ¬ ((xs x3.toNatClampNeg) &&& (63)) = 3 → ¬ ((xs x3.toNatClampNeg) &&& (63)) = 4 → ¬ ((xs x3.toNatClampNeg) &&& (63)) = 5 → ¬ ((xs x3.toNatClampNeg) &&& (63)) = 6 → ¬ ((xs x3.toNatClampNeg) &&& (63)) = 7 → ¬ ((xs x3.toNatClampNeg) &&& (63)) = 8 → ¬ ((xs x3.toNatClampNeg) &&& (63)) = 9 → ¬ ((xs x3.toNatClampNeg) &&& (63)) = 10 → ¬ ((xs x3.toNatClampNeg) &&& (63)) = 11 → ¬ ((xs x3.toNatClampNeg) &&& (63)) = 12 → ¬ ((xs x3.toNatClampNeg) &&& (63)) = 13 → ((xs x3.toNatClampNeg) &&& (63)) = 14 → lW L xs d 557 [some (.retAddr 5), some (.ref 0), some (.ref 279), some (.int x3)] [] (mkH hi hl sw kp))
    (h18 : ¬ (((Int32.ofNat L) - (7)) < x3) → ¬ ((xs x3.toNatClampNeg) &&& (63)) = 0 → ¬ ((xs x3.toNatClampNeg) &&& (63)) = 1 → ¬ ((xs x3.toNatClampNeg) &&& (63)) = 2 → ¬ ((xs x3.toNatClampNeg) &&& (63)) = 3 → ¬ ((xs x3.toNatClampNeg) &&& (63)) = 4 → ¬ ((xs x3.toNatClampNeg) &&& (63)) = 5 → ¬ ((xs x3.toNatClampNeg) &&& (63)) = 6 → ¬ ((xs x3.toNatClampNeg) &&& (63)) = 7 → ¬ ((xs x3.toNatClampNeg) &&& (63)) = 8 → ¬ ((xs x3.toNatClampNeg) &&& (63)) = 9 → ¬ ((xs x3.toNatClampNeg) &&& (63)) = 10 → ¬ ((xs x3.toNatClampNeg) &&& (63)) = 11 → ¬ ((xs x3.toNatClampNeg) &&& (63)) = 12 → ¬ ((xs x3.toNatClampNeg) &&& (63)) = 13 → ¬ ((xs x3.toNatClampNeg) &&& (63)) = 14 → ((xs x3.toNatClampNeg) &&& (63)) = 15 → lW L xs d 601 [some (.retAddr 5), some (.ref 0), some (.ref 279), some (.int x3)] [] (mkH hi hl sw kp))
    (h19 : ¬ (((Int32.ofNat L) - (7)) < x3) → ¬ ((xs x3.toNatClampNeg) &&& (63)) = 0 → ¬ ((xs x3.toNatClampNeg) &&& (63)) = 1 → ¬ ((xs x3.toNatClampNeg) &&& (63)) = 2 → ¬ ((xs x3.toNatClampNeg) &&& (63)) = 3 → ¬ ((xs x3.toNatClampNeg) &&& (63)) = 4 → ¬ ((xs x3.toNatClampNeg) &&& (63)) = 5 → ¬ ((xs x3.toNatClampNeg) &&& (63)) = 6 → ¬ ((xs x3.toNatClampNeg) &&& (63)) = 7 → ¬ ((xs x3.toNatClampNeg) &&& (63)) = 8 → ¬ ((xs x3.toNatClampNeg) &&& (63)) = 9 → ¬ ((xs x3.toNatClampNeg) &&& (63)) = 10 → ¬ ((xs x3.toNatClampNeg) &&& (63)) = 11 → ¬ ((xs x3.toNatClampNeg) &&& (63)) = 12 → ¬ ((xs x3.toNatClampNeg) &&& (63)) = 13 → ¬ ((xs x3.toNatClampNeg) &&& (63)) = 14 → ¬ ((xs x3.toNatClampNeg) &&& (63)) = 15 → ((xs x3.toNatClampNeg) &&& (63)) = 16 → lW L xs d 624 [some (.retAddr 5), some (.ref 0), some (.ref 279), some (.int x3)] [] (mkH hi hl sw kp))
    (h20 : ¬ (((Int32.ofNat L) - (7)) < x3) → ¬ ((xs x3.toNatClampNeg) &&& (63)) = 0 → ¬ ((xs x3.toNatClampNeg) &&& (63)) = 1 → ¬ ((xs x3.toNatClampNeg) &&& (63)) = 2 → ¬ ((xs x3.toNatClampNeg) &&& (63)) = 3 → ¬ ((xs x3.toNatClampNeg) &&& (63)) = 4 → ¬ ((xs x3.toNatClampNeg) &&& (63)) = 5 → ¬ ((xs x3.toNatClampNeg) &&& (63)) = 6 → ¬ ((xs x3.toNatClampNeg) &&& (63)) = 7 → ¬ ((xs x3.toNatClampNeg) &&& (63)) = 8 → ¬ ((xs x3.toNatClampNeg) &&& (63)) = 9 → ¬ ((xs x3.toNatClampNeg) &&& (63)) = 10 → ¬ ((xs x3.toNatClampNeg) &&& (63)) = 11 → ¬ ((xs x3.toNatClampNeg) &&& (63)) = 12 → ¬ ((xs x3.toNatClampNeg) &&& (63)) = 13 → ¬ ((xs x3.toNatClampNeg) &&& (63)) = 14 → ¬ ((xs x3.toNatClampNeg) &&& (63)) = 15 → ¬ ((xs x3.toNatClampNeg) &&& (63)) = 16 → ((xs x3.toNatClampNeg) &&& (63)) = 17 → lW L xs d 647 [some (.retAddr 5), some (.ref 0), some (.ref 279), some (.int x3)] [] (mkH hi hl sw kp))
    (h21 : ¬ (((Int32.ofNat L) - (7)) < x3) → ¬ ((xs x3.toNatClampNeg) &&& (63)) = 0 → ¬ ((xs x3.toNatClampNeg) &&& (63)) = 1 → ¬ ((xs x3.toNatClampNeg) &&& (63)) = 2 → ¬ ((xs x3.toNatClampNeg) &&& (63)) = 3 → ¬ ((xs x3.toNatClampNeg) &&& (63)) = 4 → ¬ ((xs x3.toNatClampNeg) &&& (63)) = 5 → ¬ ((xs x3.toNatClampNeg) &&& (63)) = 6 → ¬ ((xs x3.toNatClampNeg) &&& (63)) = 7 → ¬ ((xs x3.toNatClampNeg) &&& (63)) = 8 → ¬ ((xs x3.toNatClampNeg) &&& (63)) = 9 → ¬ ((xs x3.toNatClampNeg) &&& (63)) = 10 → ¬ ((xs x3.toNatClampNeg) &&& (63)) = 11 → ¬ ((xs x3.toNatClampNeg) &&& (63)) = 12 → ¬ ((xs x3.toNatClampNeg) &&& (63)) = 13 → ¬ ((xs x3.toNatClampNeg) &&& (63)) = 14 → ¬ ((xs x3.toNatClampNeg) &&& (63)) = 15 → ¬ ((xs x3.toNatClampNeg) &&& (63)) = 16 → ¬ ((xs x3.toNatClampNeg) &&& (63)) = 17 → ((xs x3.toNatClampNeg) &&& (63)) = 18 → lW L xs d 701 [some (.retAddr 5), some (.ref 0), some (.ref 279), some (.int x3)] [] (mkH hi hl sw kp))
    (h22 : ¬ (((Int32.ofNat L) - (7)) < x3) → ¬ ((xs x3.toNatClampNeg) &&& (63)) = 0 → ¬ ((xs x3.toNatClampNeg) &&& (63)) = 1 → ¬ ((xs x3.toNatClampNeg) &&& (63)) = 2 → ¬ ((xs x3.toNatClampNeg) &&& (63)) = 3 → ¬ ((xs x3.toNatClampNeg) &&& (63)) = 4 → ¬ ((xs x3.toNatClampNeg) &&& (63)) = 5 → ¬ ((xs x3.toNatClampNeg) &&& (63)) = 6 → ¬ ((xs x3.toNatClampNeg) &&& (63)) = 7 → ¬ ((xs x3.toNatClampNeg) &&& (63)) = 8 → ¬ ((xs x3.toNatClampNeg) &&& (63)) = 9 → ¬ ((xs x3.toNatClampNeg) &&& (63)) = 10 → ¬ ((xs x3.toNatClampNeg) &&& (63)) = 11 → ¬ ((xs x3.toNatClampNeg) &&& (63)) = 12 → ¬ ((xs x3.toNatClampNeg) &&& (63)) = 13 → ¬ ((xs x3.toNatClampNeg) &&& (63)) = 14 → ¬ ((xs x3.toNatClampNeg) &&& (63)) = 15 → ¬ ((xs x3.toNatClampNeg) &&& (63)) = 16 → ¬ ((xs x3.toNatClampNeg) &&& (63)) = 17 → ¬ ((xs x3.toNatClampNeg) &&& (63)) = 18 → ((xs x3.toNatClampNeg) &&& (63)) = 19 → lW L xs d 734 [some (.retAddr 5), some (.ref 0), some (.ref 279), some (.int x3)] [] (mkH hi hl sw kp))
    (h23 : ¬ (((Int32.ofNat L) - (7)) < x3) → ¬ ((xs x3.toNatClampNeg) &&& (63)) = 0 → ¬ ((xs x3.toNatClampNeg) &&& (63)) = 1 → ¬ ((xs x3.toNatClampNeg) &&& (63)) = 2 → ¬ ((xs x3.toNatClampNeg) &&& (63)) = 3 → ¬ ((xs x3.toNatClampNeg) &&& (63)) = 4 → ¬ ((xs x3.toNatClampNeg) &&& (63)) = 5 → ¬ ((xs x3.toNatClampNeg) &&& (63)) = 6 → ¬ ((xs x3.toNatClampNeg) &&& (63)) = 7 → ¬ ((xs x3.toNatClampNeg) &&& (63)) = 8 → ¬ ((xs x3.toNatClampNeg) &&& (63)) = 9 → ¬ ((xs x3.toNatClampNeg) &&& (63)) = 10 → ¬ ((xs x3.toNatClampNeg) &&& (63)) = 11 → ¬ ((xs x3.toNatClampNeg) &&& (63)) = 12 → ¬ ((xs x3.toNatClampNeg) &&& (63)) = 13 → ¬ ((xs x3.toNatClampNeg) &&& (63)) = 14 → ¬ ((xs x3.toNatClampNeg) &&& (63)) = 15 → ¬ ((xs x3.toNatClampNeg) &&& (63)) = 16 → ¬ ((xs x3.toNatClampNeg) &&& (63)) = 17 → ¬ ((xs x3.toNatClampNeg) &&& (63)) = 18 → ¬ ((xs x3.toNatClampNeg) &&& (63)) = 19 → ((xs x3.toNatClampNeg) &&& (63)) = 20 → lW L xs d 777 [some (.retAddr 5), some (.ref 0), some (.ref 279), some (.int x3)] [] (mkH hi hl sw kp))
    (h24 : ¬ (((Int32.ofNat L) - (7)) < x3) → ¬ ((xs x3.toNatClampNeg) &&& (63)) = 0 → ¬ ((xs x3.toNatClampNeg) &&& (63)) = 1 → ¬ ((xs x3.toNatClampNeg) &&& (63)) = 2 → ¬ ((xs x3.toNatClampNeg) &&& (63)) = 3 → ¬ ((xs x3.toNatClampNeg) &&& (63)) = 4 → ¬ ((xs x3.toNatClampNeg) &&& (63)) = 5 → ¬ ((xs x3.toNatClampNeg) &&& (63)) = 6 → ¬ ((xs x3.toNatClampNeg) &&& (63)) = 7 → ¬ ((xs x3.toNatClampNeg) &&& (63)) = 8 → ¬ ((xs x3.toNatClampNeg) &&& (63)) = 9 → ¬ ((xs x3.toNatClampNeg) &&& (63)) = 10 → ¬ ((xs x3.toNatClampNeg) &&& (63)) = 11 → ¬ ((xs x3.toNatClampNeg) &&& (63)) = 12 → ¬ ((xs x3.toNatClampNeg) &&& (63)) = 13 → ¬ ((xs x3.toNatClampNeg) &&& (63)) = 14 → ¬ ((xs x3.toNatClampNeg) &&& (63)) = 15 → ¬ ((xs x3.toNatClampNeg) &&& (63)) = 16 → ¬ ((xs x3.toNatClampNeg) &&& (63)) = 17 → ¬ ((xs x3.toNatClampNeg) &&& (63)) = 18 → ¬ ((xs x3.toNatClampNeg) &&& (63)) = 19 → ¬ ((xs x3.toNatClampNeg) &&& (63)) = 20 → ((xs x3.toNatClampNeg) &&& (63)) = 21 → lW L xs d 810 [some (.retAddr 5), some (.ref 0), some (.ref 279), some (.int x3)] [] (mkH hi hl sw kp))
    (h25 : ¬ (((Int32.ofNat L) - (7)) < x3) → ¬ ((xs x3.toNatClampNeg) &&& (63)) = 0 → ¬ ((xs x3.toNatClampNeg) &&& (63)) = 1 → ¬ ((xs x3.toNatClampNeg) &&& (63)) = 2 → ¬ ((xs x3.toNatClampNeg) &&& (63)) = 3 → ¬ ((xs x3.toNatClampNeg) &&& (63)) = 4 → ¬ ((xs x3.toNatClampNeg) &&& (63)) = 5 → ¬ ((xs x3.toNatClampNeg) &&& (63)) = 6 → ¬ ((xs x3.toNatClampNeg) &&& (63)) = 7 → ¬ ((xs x3.toNatClampNeg) &&& (63)) = 8 → ¬ ((xs x3.toNatClampNeg) &&& (63)) = 9 → ¬ ((xs x3.toNatClampNeg) &&& (63)) = 10 → ¬ ((xs x3.toNatClampNeg) &&& (63)) = 11 → ¬ ((xs x3.toNatClampNeg) &&& (63)) = 12 → ¬ ((xs x3.toNatClampNeg) &&& (63)) = 13 → ¬ ((xs x3.toNatClampNeg) &&& (63)) = 14 → ¬ ((xs x3.toNatClampNeg) &&& (63)) = 15 → ¬ ((xs x3.toNatClampNeg) &&& (63)) = 16 → ¬ ((xs x3.toNatClampNeg) &&& (63)) = 17 → ¬ ((xs x3.toNatClampNeg) &&& (63)) = 18 → ¬ ((xs x3.toNatClampNeg) &&& (63)) = 19 → ¬ ((xs x3.toNatClampNeg) &&& (63)) = 20 → ¬ ((xs x3.toNatClampNeg) &&& (63)) = 21 → ((xs x3.toNatClampNeg) &&& (63)) = 22 → lW L xs d 823 [some (.retAddr 5), some (.ref 0), some (.ref 279), some (.int x3)] [] (mkH hi hl sw kp))
    (h26 : ¬ (((Int32.ofNat L) - (7)) < x3) → ¬ ((xs x3.toNatClampNeg) &&& (63)) = 0 → ¬ ((xs x3.toNatClampNeg) &&& (63)) = 1 → ¬ ((xs x3.toNatClampNeg) &&& (63)) = 2 → ¬ ((xs x3.toNatClampNeg) &&& (63)) = 3 → ¬ ((xs x3.toNatClampNeg) &&& (63)) = 4 → ¬ ((xs x3.toNatClampNeg) &&& (63)) = 5 → ¬ ((xs x3.toNatClampNeg) &&& (63)) = 6 → ¬ ((xs x3.toNatClampNeg) &&& (63)) = 7 → ¬ ((xs x3.toNatClampNeg) &&& (63)) = 8 → ¬ ((xs x3.toNatClampNeg) &&& (63)) = 9 → ¬ ((xs x3.toNatClampNeg) &&& (63)) = 10 → ¬ ((xs x3.toNatClampNeg) &&& (63)) = 11 → ¬ ((xs x3.toNatClampNeg) &&& (63)) = 12 → ¬ ((xs x3.toNatClampNeg) &&& (63)) = 13 → ¬ ((xs x3.toNatClampNeg) &&& (63)) = 14 → ¬ ((xs x3.toNatClampNeg) &&& (63)) = 15 → ¬ ((xs x3.toNatClampNeg) &&& (63)) = 16 → ¬ ((xs x3.toNatClampNeg) &&& (63)) = 17 → ¬ ((xs x3.toNatClampNeg) &&& (63)) = 18 → ¬ ((xs x3.toNatClampNeg) &&& (63)) = 19 → ¬ ((xs x3.toNatClampNeg) &&& (63)) = 20 → ¬ ((xs x3.toNatClampNeg) &&& (63)) = 21 → ¬ ((xs x3.toNatClampNeg) &&& (63)) = 22 → ((xs x3.toNatClampNeg) &&& (63)) = 23 → lW L xs d 846 [some (.retAddr 5), some (.ref 0), some (.ref 279), some (.int x3)] [] (mkH hi hl sw kp))
    (h27 : ¬ (((Int32.ofNat L) - (7)) < x3) → ¬ ((xs x3.toNatClampNeg) &&& (63)) = 0 → ¬ ((xs x3.toNatClampNeg) &&& (63)) = 1 → ¬ ((xs x3.toNatClampNeg) &&& (63)) = 2 → ¬ ((xs x3.toNatClampNeg) &&& (63)) = 3 → ¬ ((xs x3.toNatClampNeg) &&& (63)) = 4 → ¬ ((xs x3.toNatClampNeg) &&& (63)) = 5 → ¬ ((xs x3.toNatClampNeg) &&& (63)) = 6 → ¬ ((xs x3.toNatClampNeg) &&& (63)) = 7 → ¬ ((xs x3.toNatClampNeg) &&& (63)) = 8 → ¬ ((xs x3.toNatClampNeg) &&& (63)) = 9 → ¬ ((xs x3.toNatClampNeg) &&& (63)) = 10 → ¬ ((xs x3.toNatClampNeg) &&& (63)) = 11 → ¬ ((xs x3.toNatClampNeg) &&& (63)) = 12 → ¬ ((xs x3.toNatClampNeg) &&& (63)) = 13 → ¬ ((xs x3.toNatClampNeg) &&& (63)) = 14 → ¬ ((xs x3.toNatClampNeg) &&& (63)) = 15 → ¬ ((xs x3.toNatClampNeg) &&& (63)) = 16 → ¬ ((xs x3.toNatClampNeg) &&& (63)) = 17 → ¬ ((xs x3.toNatClampNeg) &&& (63)) = 18 → ¬ ((xs x3.toNatClampNeg) &&& (63)) = 19 → ¬ ((xs x3.toNatClampNeg) &&& (63)) = 20 → ¬ ((xs x3.toNatClampNeg) &&& (63)) = 21 → ¬ ((xs x3.toNatClampNeg) &&& (63)) = 22 → ¬ ((xs x3.toNatClampNeg) &&& (63)) = 23 → ((xs x3.toNatClampNeg) &&& (63)) = 24 → lW L xs d 869 [some (.retAddr 5), some (.ref 0), some (.ref 279), some (.int x3)] [] (mkH hi hl sw kp))
    (h28 : ¬ (((Int32.ofNat L) - (7)) < x3) → ¬ ((xs x3.toNatClampNeg) &&& (63)) = 0 → ¬ ((xs x3.toNatClampNeg) &&& (63)) = 1 → ¬ ((xs x3.toNatClampNeg) &&& (63)) = 2 → ¬ ((xs x3.toNatClampNeg) &&& (63)) = 3 → ¬ ((xs x3.toNatClampNeg) &&& (63)) = 4 → ¬ ((xs x3.toNatClampNeg) &&& (63)) = 5 → ¬ ((xs x3.toNatClampNeg) &&& (63)) = 6 → ¬ ((xs x3.toNatClampNeg) &&& (63)) = 7 → ¬ ((xs x3.toNatClampNeg) &&& (63)) = 8 → ¬ ((xs x3.toNatClampNeg) &&& (63)) = 9 → ¬ ((xs x3.toNatClampNeg) &&& (63)) = 10 → ¬ ((xs x3.toNatClampNeg) &&& (63)) = 11 → ¬ ((xs x3.toNatClampNeg) &&& (63)) = 12 → ¬ ((xs x3.toNatClampNeg) &&& (63)) = 13 → ¬ ((xs x3.toNatClampNeg) &&& (63)) = 14 → ¬ ((xs x3.toNatClampNeg) &&& (63)) = 15 → ¬ ((xs x3.toNatClampNeg) &&& (63)) = 16 → ¬ ((xs x3.toNatClampNeg) &&& (63)) = 17 → ¬ ((xs x3.toNatClampNeg) &&& (63)) = 18 → ¬ ((xs x3.toNatClampNeg) &&& (63)) = 19 → ¬ ((xs x3.toNatClampNeg) &&& (63)) = 20 → ¬ ((xs x3.toNatClampNeg) &&& (63)) = 21 → ¬ ((xs x3.toNatClampNeg) &&& (63)) = 22 → ¬ ((xs x3.toNatClampNeg) &&& (63)) = 23 → ¬ ((xs x3.toNatClampNeg) &&& (63)) = 24 → ((xs x3.toNatClampNeg) &&& (63)) = 25 → lW L xs d 892 [some (.retAddr 5), some (.ref 0), some (.ref 279), some (.int x3)] [] (mkH hi hl sw kp))
    (h29 : ¬ (((Int32.ofNat L) - (7)) < x3) → ¬ ((xs x3.toNatClampNeg) &&& (63)) = 0 → ¬ ((xs x3.toNatClampNeg) &&& (63)) = 1 → ¬ ((xs x3.toNatClampNeg) &&& (63)) = 2 → ¬ ((xs x3.toNatClampNeg) &&& (63)) = 3 → ¬ ((xs x3.toNatClampNeg) &&& (63)) = 4 → ¬ ((xs x3.toNatClampNeg) &&& (63)) = 5 → ¬ ((xs x3.toNatClampNeg) &&& (63)) = 6 → ¬ ((xs x3.toNatClampNeg) &&& (63)) = 7 → ¬ ((xs x3.toNatClampNeg) &&& (63)) = 8 → ¬ ((xs x3.toNatClampNeg) &&& (63)) = 9 → ¬ ((xs x3.toNatClampNeg) &&& (63)) = 10 → ¬ ((xs x3.toNatClampNeg) &&& (63)) = 11 → ¬ ((xs x3.toNatClampNeg) &&& (63)) = 12 → ¬ ((xs x3.toNatClampNeg) &&& (63)) = 13 → ¬ ((xs x3.toNatClampNeg) &&& (63)) = 14 → ¬ ((xs x3.toNatClampNeg) &&& (63)) = 15 → ¬ ((xs x3.toNatClampNeg) &&& (63)) = 16 → ¬ ((xs x3.toNatClampNeg) &&& (63)) = 17 → ¬ ((xs x3.toNatClampNeg) &&& (63)) = 18 → ¬ ((xs x3.toNatClampNeg) &&& (63)) = 19 → ¬ ((xs x3.toNatClampNeg) &&& (63)) = 20 → ¬ ((xs x3.toNatClampNeg) &&& (63)) = 21 → ¬ ((xs x3.toNatClampNeg) &&& (63)) = 22 → ¬ ((xs x3.toNatClampNeg) &&& (63)) = 23 → ¬ ((xs x3.toNatClampNeg) &&& (63)) = 24 → ¬ ((xs x3.toNatClampNeg) &&& (63)) = 25 → ((xs x3.toNatClampNeg) &&& (63)) = 26 → lW L xs d 967 [some (.retAddr 5), some (.ref 0), some (.ref 279), some (.int x3)] [] (mkH hi hl sw kp))
    (h30 : ¬ (((Int32.ofNat L) - (7)) < x3) → ¬ ((xs x3.toNatClampNeg) &&& (63)) = 0 → ¬ ((xs x3.toNatClampNeg) &&& (63)) = 1 → ¬ ((xs x3.toNatClampNeg) &&& (63)) = 2 → ¬ ((xs x3.toNatClampNeg) &&& (63)) = 3 → ¬ ((xs x3.toNatClampNeg) &&& (63)) = 4 → ¬ ((xs x3.toNatClampNeg) &&& (63)) = 5 → ¬ ((xs x3.toNatClampNeg) &&& (63)) = 6 → ¬ ((xs x3.toNatClampNeg) &&& (63)) = 7 → ¬ ((xs x3.toNatClampNeg) &&& (63)) = 8 → ¬ ((xs x3.toNatClampNeg) &&& (63)) = 9 → ¬ ((xs x3.toNatClampNeg) &&& (63)) = 10 → ¬ ((xs x3.toNatClampNeg) &&& (63)) = 11 → ¬ ((xs x3.toNatClampNeg) &&& (63)) = 12 → ¬ ((xs x3.toNatClampNeg) &&& (63)) = 13 → ¬ ((xs x3.toNatClampNeg) &&& (63)) = 14 → ¬ ((xs x3.toNatClampNeg) &&& (63)) = 15 → ¬ ((xs x3.toNatClampNeg) &&& (63)) = 16 → ¬ ((xs x3.toNatClampNeg) &&& (63)) = 17 → ¬ ((xs x3.toNatClampNeg) &&& (63)) = 18 → ¬ ((xs x3.toNatClampNeg) &&& (63)) = 19 → ¬ ((xs x3.toNatClampNeg) &&& (63)) = 20 → ¬ ((xs x3.toNatClampNeg) &&& (63)) = 21 → ¬ ((xs x3.toNatClampNeg) &&& (63)) = 22 → ¬ ((xs x3.toNatClampNeg) &&& (63)) = 23 → ¬ ((xs x3.toNatClampNeg) &&& (63)) = 24 → ¬ ((xs x3.toNatClampNeg) &&& (63)) = 25 → ¬ ((xs x3.toNatClampNeg) &&& (63)) = 26 → ((xs x3.toNatClampNeg) &&& (63)) = 27 → lW L xs d 990 [some (.retAddr 5), some (.ref 0), some (.ref 279), some (.int x3)] [] (mkH hi hl sw kp))
    (h31 : ¬ (((Int32.ofNat L) - (7)) < x3) → ¬ ((xs x3.toNatClampNeg) &&& (63)) = 0 → ¬ ((xs x3.toNatClampNeg) &&& (63)) = 1 → ¬ ((xs x3.toNatClampNeg) &&& (63)) = 2 → ¬ ((xs x3.toNatClampNeg) &&& (63)) = 3 → ¬ ((xs x3.toNatClampNeg) &&& (63)) = 4 → ¬ ((xs x3.toNatClampNeg) &&& (63)) = 5 → ¬ ((xs x3.toNatClampNeg) &&& (63)) = 6 → ¬ ((xs x3.toNatClampNeg) &&& (63)) = 7 → ¬ ((xs x3.toNatClampNeg) &&& (63)) = 8 → ¬ ((xs x3.toNatClampNeg) &&& (63)) = 9 → ¬ ((xs x3.toNatClampNeg) &&& (63)) = 10 → ¬ ((xs x3.toNatClampNeg) &&& (63)) = 11 → ¬ ((xs x3.toNatClampNeg) &&& (63)) = 12 → ¬ ((xs x3.toNatClampNeg) &&& (63)) = 13 → ¬ ((xs x3.toNatClampNeg) &&& (63)) = 14 → ¬ ((xs x3.toNatClampNeg) &&& (63)) = 15 → ¬ ((xs x3.toNatClampNeg) &&& (63)) = 16 → ¬ ((xs x3.toNatClampNeg) &&& (63)) = 17 → ¬ ((xs x3.toNatClampNeg) &&& (63)) = 18 → ¬ ((xs x3.toNatClampNeg) &&& (63)) = 19 → ¬ ((xs x3.toNatClampNeg) &&& (63)) = 20 → ¬ ((xs x3.toNatClampNeg) &&& (63)) = 21 → ¬ ((xs x3.toNatClampNeg) &&& (63)) = 22 → ¬ ((xs x3.toNatClampNeg) &&& (63)) = 23 → ¬ ((xs x3.toNatClampNeg) &&& (63)) = 24 → ¬ ((xs x3.toNatClampNeg) &&& (63)) = 25 → ¬ ((xs x3.toNatClampNeg) &&& (63)) = 26 → ¬ ((xs x3.toNatClampNeg) &&& (63)) = 27 → ((xs x3.toNatClampNeg) &&& (63)) = 28 → lW L xs d 1013 [some (.retAddr 5), some (.ref 0), some (.ref 279), some (.int x3)] [] (mkH hi hl sw kp))
    (h32 : ¬ (((Int32.ofNat L) - (7)) < x3) → ¬ ((xs x3.toNatClampNeg) &&& (63)) = 0 → ¬ ((xs x3.toNatClampNeg) &&& (63)) = 1 → ¬ ((xs x3.toNatClampNeg) &&& (63)) = 2 → ¬ ((xs x3.toNatClampNeg) &&& (63)) = 3 → ¬ ((xs x3.toNatClampNeg) &&& (63)) = 4 → ¬ ((xs x3.toNatClampNeg) &&& (63)) = 5 → ¬ ((xs x3.toNatClampNeg) &&& (63)) = 6 → ¬ ((xs x3.toNatClampNeg) &&& (63)) = 7 → ¬ ((xs x3.toNatClampNeg) &&& (63)) = 8 → ¬ ((xs x3.toNatClampNeg) &&& (63)) = 9 → ¬ ((xs x3.toNatClampNeg) &&& (63)) = 10 → ¬ ((xs x3.toNatClampNeg) &&& (63)) = 11 → ¬ ((xs x3.toNatClampNeg) &&& (63)) = 12 → ¬ ((xs x3.toNatClampNeg) &&& (63)) = 13 → ¬ ((xs x3.toNatClampNeg) &&& (63)) = 14 → ¬ ((xs x3.toNatClampNeg) &&& (63)) = 15 → ¬ ((xs x3.toNatClampNeg) &&& (63)) = 16 → ¬ ((xs x3.toNatClampNeg) &&& (63)) = 17 → ¬ ((xs x3.toNatClampNeg) &&& (63)) = 18 → ¬ ((xs x3.toNatClampNeg) &&& (63)) = 19 → ¬ ((xs x3.toNatClampNeg) &&& (63)) = 20 → ¬ ((xs x3.toNatClampNeg) &&& (63)) = 21 → ¬ ((xs x3.toNatClampNeg) &&& (63)) = 22 → ¬ ((xs x3.toNatClampNeg) &&& (63)) = 23 → ¬ ((xs x3.toNatClampNeg) &&& (63)) = 24 → ¬ ((xs x3.toNatClampNeg) &&& (63)) = 25 → ¬ ((xs x3.toNatClampNeg) &&& (63)) = 26 → ¬ ((xs x3.toNatClampNeg) &&& (63)) = 27 → ¬ ((xs x3.toNatClampNeg) &&& (63)) = 28 → ((xs x3.toNatClampNeg) &&& (63)) = 29 → lW L xs d 1046 [some (.retAddr 5), some (.ref 0), some (.ref 279), some (.int x3)] [] (mkH hi hl sw kp))
    (h33 : ¬ (((Int32.ofNat L) - (7)) < x3) → ¬ ((xs x3.toNatClampNeg) &&& (63)) = 0 → ¬ ((xs x3.toNatClampNeg) &&& (63)) = 1 → ¬ ((xs x3.toNatClampNeg) &&& (63)) = 2 → ¬ ((xs x3.toNatClampNeg) &&& (63)) = 3 → ¬ ((xs x3.toNatClampNeg) &&& (63)) = 4 → ¬ ((xs x3.toNatClampNeg) &&& (63)) = 5 → ¬ ((xs x3.toNatClampNeg) &&& (63)) = 6 → ¬ ((xs x3.toNatClampNeg) &&& (63)) = 7 → ¬ ((xs x3.toNatClampNeg) &&& (63)) = 8 → ¬ ((xs x3.toNatClampNeg) &&& (63)) = 9 → ¬ ((xs x3.toNatClampNeg) &&& (63)) = 10 → ¬ ((xs x3.toNatClampNeg) &&& (63)) = 11 → ¬ ((xs x3.toNatClampNeg) &&& (63)) = 12 → ¬ ((xs x3.toNatClampNeg) &&& (63)) = 13 → ¬ ((xs x3.toNatClampNeg) &&& (63)) = 14 → ¬ ((xs x3.toNatClampNeg) &&& (63)) = 15 → ¬ ((xs x3.toNatClampNeg) &&& (63)) = 16 → ¬ ((xs x3.toNatClampNeg) &&& (63)) = 17 → ¬ ((xs x3.toNatClampNeg) &&& (63)) = 18 → ¬ ((xs x3.toNatClampNeg) &&& (63)) = 19 → ¬ ((xs x3.toNatClampNeg) &&& (63)) = 20 → ¬ ((xs x3.toNatClampNeg) &&& (63)) = 21 → ¬ ((xs x3.toNatClampNeg) &&& (63)) = 22 → ¬ ((xs x3.toNatClampNeg) &&& (63)) = 23 → ¬ ((xs x3.toNatClampNeg) &&& (63)) = 24 → ¬ ((xs x3.toNatClampNeg) &&& (63)) = 25 → ¬ ((xs x3.toNatClampNeg) &&& (63)) = 26 → ¬ ((xs x3.toNatClampNeg) &&& (63)) = 27 → ¬ ((xs x3.toNatClampNeg) &&& (63)) = 28 → ¬ ((xs x3.toNatClampNeg) &&& (63)) = 29 → ((xs x3.toNatClampNeg) &&& (63)) = 30 → lW L xs d 1089 [some (.retAddr 5), some (.ref 0), some (.ref 279), some (.int x3)] [] (mkH hi hl sw kp))
    (h34 : ¬ (((Int32.ofNat L) - (7)) < x3) → ¬ ((xs x3.toNatClampNeg) &&& (63)) = 0 → ¬ ((xs x3.toNatClampNeg) &&& (63)) = 1 → ¬ ((xs x3.toNatClampNeg) &&& (63)) = 2 → ¬ ((xs x3.toNatClampNeg) &&& (63)) = 3 → ¬ ((xs x3.toNatClampNeg) &&& (63)) = 4 → ¬ ((xs x3.toNatClampNeg) &&& (63)) = 5 → ¬ ((xs x3.toNatClampNeg) &&& (63)) = 6 → ¬ ((xs x3.toNatClampNeg) &&& (63)) = 7 → ¬ ((xs x3.toNatClampNeg) &&& (63)) = 8 → ¬ ((xs x3.toNatClampNeg) &&& (63)) = 9 → ¬ ((xs x3.toNatClampNeg) &&& (63)) = 10 → ¬ ((xs x3.toNatClampNeg) &&& (63)) = 11 → ¬ ((xs x3.toNatClampNeg) &&& (63)) = 12 → ¬ ((xs x3.toNatClampNeg) &&& (63)) = 13 → ¬ ((xs x3.toNatClampNeg) &&& (63)) = 14 → ¬ ((xs x3.toNatClampNeg) &&& (63)) = 15 → ¬ ((xs x3.toNatClampNeg) &&& (63)) = 16 → ¬ ((xs x3.toNatClampNeg) &&& (63)) = 17 → ¬ ((xs x3.toNatClampNeg) &&& (63)) = 18 → ¬ ((xs x3.toNatClampNeg) &&& (63)) = 19 → ¬ ((xs x3.toNatClampNeg) &&& (63)) = 20 → ¬ ((xs x3.toNatClampNeg) &&& (63)) = 21 → ¬ ((xs x3.toNatClampNeg) &&& (63)) = 22 → ¬ ((xs x3.toNatClampNeg) &&& (63)) = 23 → ¬ ((xs x3.toNatClampNeg) &&& (63)) = 24 → ¬ ((xs x3.toNatClampNeg) &&& (63)) = 25 → ¬ ((xs x3.toNatClampNeg) &&& (63)) = 26 → ¬ ((xs x3.toNatClampNeg) &&& (63)) = 27 → ¬ ((xs x3.toNatClampNeg) &&& (63)) = 28 → ¬ ((xs x3.toNatClampNeg) &&& (63)) = 29 → ¬ ((xs x3.toNatClampNeg) &&& (63)) = 30 → ((xs x3.toNatClampNeg) &&& (63)) = 31 → lW L xs d 1132 [some (.retAddr 5), some (.ref 0), some (.ref 279), some (.int x3)] [] (mkH hi hl sw kp))
    (h35 : ¬ (((Int32.ofNat L) - (7)) < x3) → ¬ ((xs x3.toNatClampNeg) &&& (63)) = 0 → ¬ ((xs x3.toNatClampNeg) &&& (63)) = 1 → ¬ ((xs x3.toNatClampNeg) &&& (63)) = 2 → ¬ ((xs x3.toNatClampNeg) &&& (63)) = 3 → ¬ ((xs x3.toNatClampNeg) &&& (63)) = 4 → ¬ ((xs x3.toNatClampNeg) &&& (63)) = 5 → ¬ ((xs x3.toNatClampNeg) &&& (63)) = 6 → ¬ ((xs x3.toNatClampNeg) &&& (63)) = 7 → ¬ ((xs x3.toNatClampNeg) &&& (63)) = 8 → ¬ ((xs x3.toNatClampNeg) &&& (63)) = 9 → ¬ ((xs x3.toNatClampNeg) &&& (63)) = 10 → ¬ ((xs x3.toNatClampNeg) &&& (63)) = 11 → ¬ ((xs x3.toNatClampNeg) &&& (63)) = 12 → ¬ ((xs x3.toNatClampNeg) &&& (63)) = 13 → ¬ ((xs x3.toNatClampNeg) &&& (63)) = 14 → ¬ ((xs x3.toNatClampNeg) &&& (63)) = 15 → ¬ ((xs x3.toNatClampNeg) &&& (63)) = 16 → ¬ ((xs x3.toNatClampNeg) &&& (63)) = 17 → ¬ ((xs x3.toNatClampNeg) &&& (63)) = 18 → ¬ ((xs x3.toNatClampNeg) &&& (63)) = 19 → ¬ ((xs x3.toNatClampNeg) &&& (63)) = 20 → ¬ ((xs x3.toNatClampNeg) &&& (63)) = 21 → ¬ ((xs x3.toNatClampNeg) &&& (63)) = 22 → ¬ ((xs x3.toNatClampNeg) &&& (63)) = 23 → ¬ ((xs x3.toNatClampNeg) &&& (63)) = 24 → ¬ ((xs x3.toNatClampNeg) &&& (63)) = 25 → ¬ ((xs x3.toNatClampNeg) &&& (63)) = 26 → ¬ ((xs x3.toNatClampNeg) &&& (63)) = 27 → ¬ ((xs x3.toNatClampNeg) &&& (63)) = 28 → ¬ ((xs x3.toNatClampNeg) &&& (63)) = 29 → ¬ ((xs x3.toNatClampNeg) &&& (63)) = 30 → ¬ ((xs x3.toNatClampNeg) &&& (63)) = 31 → ((xs x3.toNatClampNeg) &&& (63)) = 32 → lW L xs d 1155 [some (.retAddr 5), some (.ref 0), some (.ref 279), some (.int x3)] [] (mkH hi hl sw kp))
    (h36 : ¬ (((Int32.ofNat L) - (7)) < x3) → ¬ ((xs x3.toNatClampNeg) &&& (63)) = 0 → ¬ ((xs x3.toNatClampNeg) &&& (63)) = 1 → ¬ ((xs x3.toNatClampNeg) &&& (63)) = 2 → ¬ ((xs x3.toNatClampNeg) &&& (63)) = 3 → ¬ ((xs x3.toNatClampNeg) &&& (63)) = 4 → ¬ ((xs x3.toNatClampNeg) &&& (63)) = 5 → ¬ ((xs x3.toNatClampNeg) &&& (63)) = 6 → ¬ ((xs x3.toNatClampNeg) &&& (63)) = 7 → ¬ ((xs x3.toNatClampNeg) &&& (63)) = 8 → ¬ ((xs x3.toNatClampNeg) &&& (63)) = 9 → ¬ ((xs x3.toNatClampNeg) &&& (63)) = 10 → ¬ ((xs x3.toNatClampNeg) &&& (63)) = 11 → ¬ ((xs x3.toNatClampNeg) &&& (63)) = 12 → ¬ ((xs x3.toNatClampNeg) &&& (63)) = 13 → ¬ ((xs x3.toNatClampNeg) &&& (63)) = 14 → ¬ ((xs x3.toNatClampNeg) &&& (63)) = 15 → ¬ ((xs x3.toNatClampNeg) &&& (63)) = 16 → ¬ ((xs x3.toNatClampNeg) &&& (63)) = 17 → ¬ ((xs x3.toNatClampNeg) &&& (63)) = 18 → ¬ ((xs x3.toNatClampNeg) &&& (63)) = 19 → ¬ ((xs x3.toNatClampNeg) &&& (63)) = 20 → ¬ ((xs x3.toNatClampNeg) &&& (63)) = 21 → ¬ ((xs x3.toNatClampNeg) &&& (63)) = 22 → ¬ ((xs x3.toNatClampNeg) &&& (63)) = 23 → ¬ ((xs x3.toNatClampNeg) &&& (63)) = 24 → ¬ ((xs x3.toNatClampNeg) &&& (63)) = 25 → ¬ ((xs x3.toNatClampNeg) &&& (63)) = 26 → ¬ ((xs x3.toNatClampNeg) &&& (63)) = 27 → ¬ ((xs x3.toNatClampNeg) &&& (63)) = 28 → ¬ ((xs x3.toNatClampNeg) &&& (63)) = 29 → ¬ ((xs x3.toNatClampNeg) &&& (63)) = 30 → ¬ ((xs x3.toNatClampNeg) &&& (63)) = 31 → ¬ ((xs x3.toNatClampNeg) &&& (63)) = 32 → ((xs x3.toNatClampNeg) &&& (63)) = 33 → lW L xs d 1178 [some (.retAddr 5), some (.ref 0), some (.ref 279), some (.int x3)] [] (mkH hi hl sw kp))
    (h37 : ¬ (((Int32.ofNat L) - (7)) < x3) → ¬ ((xs x3.toNatClampNeg) &&& (63)) = 0 → ¬ ((xs x3.toNatClampNeg) &&& (63)) = 1 → ¬ ((xs x3.toNatClampNeg) &&& (63)) = 2 → ¬ ((xs x3.toNatClampNeg) &&& (63)) = 3 → ¬ ((xs x3.toNatClampNeg) &&& (63)) = 4 → ¬ ((xs x3.toNatClampNeg) &&& (63)) = 5 → ¬ ((xs x3.toNatClampNeg) &&& (63)) = 6 → ¬ ((xs x3.toNatClampNeg) &&& (63)) = 7 → ¬ ((xs x3.toNatClampNeg) &&& (63)) = 8 → ¬ ((xs x3.toNatClampNeg) &&& (63)) = 9 → ¬ ((xs x3.toNatClampNeg) &&& (63)) = 10 → ¬ ((xs x3.toNatClampNeg) &&& (63)) = 11 → ¬ ((xs x3.toNatClampNeg) &&& (63)) = 12 → ¬ ((xs x3.toNatClampNeg) &&& (63)) = 13 → ¬ ((xs x3.toNatClampNeg) &&& (63)) = 14 → ¬ ((xs x3.toNatClampNeg) &&& (63)) = 15 → ¬ ((xs x3.toNatClampNeg) &&& (63)) = 16 → ¬ ((xs x3.toNatClampNeg) &&& (63)) = 17 → ¬ ((xs x3.toNatClampNeg) &&& (63)) = 18 → ¬ ((xs x3.toNatClampNeg) &&& (63)) = 19 → ¬ ((xs x3.toNatClampNeg) &&& (63)) = 20 → ¬ ((xs x3.toNatClampNeg) &&& (63)) = 21 → ¬ ((xs x3.toNatClampNeg) &&& (63)) = 22 → ¬ ((xs x3.toNatClampNeg) &&& (63)) = 23 → ¬ ((xs x3.toNatClampNeg) &&& (63)) = 24 → ¬ ((xs x3.toNatClampNeg) &&& (63)) = 25 → ¬ ((xs x3.toNatClampNeg) &&& (63)) = 26 → ¬ ((xs x3.toNatClampNeg) &&& (63)) = 27 → ¬ ((xs x3.toNatClampNeg) &&& (63)) = 28 → ¬ ((xs x3.toNatClampNeg) &&& (63)) = 29 → ¬ ((xs x3.toNatClampNeg) &&& (63)) = 30 → ¬ ((xs x3.toNatClampNeg) &&& (63)) = 31 → ¬ ((xs x3.toNatClampNeg) &&& (63)) = 32 → ¬ ((xs x3.toNatClampNeg) &&& (63)) = 33 → lW L xs d 1201 [some (.retAddr 5), some (.ref 0), some (.ref 279), some (.int x3)] [] (mkH hi hl sw kp))
    : lW L xs d 18 [some (.retAddr 5), some (.ref 0), some (.ref 279), some (.int x3)] [] (mkH hi hl sw kp) :=
  lW.run (am_in stL) 12 (And.intro (fun c1 => (And.intro (Or.inr rfl) (h1 c1))) (fun c2 => (And.intro (h2 c2) (And.intro (fun c3 => (h3 c2 c3)) (fun c4 => (And.intro (fun c5 => (h4 c2 c4 c5)) (fun c6 => (And.intro (fun c7 => (h5 c2 c4 c6 c7)) (fun c8 => (And.intro (fun c9 => (h6 c2 c4 c6 c8 c9)) (fun c10 => (And.intro (fun c11 => (h7 c2 c4 c6 c8 c10 c11)) (fun c12 => (And.intro (fun c13 => (h8 c2 c4 c6 c8 c10 c12 c13)) (fun c14 => (And.intro (fun c15 => (h9 c2 c4 c6 c8 c10 c12 c14 c15)) (fun c16 => (And.intro (fun c17 => (h10 c2 c4 c6 c8 c10 c12 c14 c16 c17)) (fun c18 => (And.intro (fun c19 => (h11 c2 c4 c6 c8 c10 c12 c14 c16 c18 c19)) (fun c20 => (And.intro (fun c21 => (h12 c2 c4 c6 c8 c10 c12 c14 c16 c18 c20 c21)) (fun c22 => (And.intro (fun c23 => (h13 c2 c4 c6 c8 c10 c12 c14 c16 c18 c20 c22 c23)) (fun c24 => (And.intro (fun c25 => (h14 c2 c4 c6 c8 c10 c12 c14 c16 c18 c20 c22 c24 c25)) (fun c26 => (And.intro (fun c27 => (h15 c2 c4 c6 c8 c10 c12 c14 c16 c18 c20 c22 c24 c26 c27)) (fun c28 => (And.intro (fun c29 => (h16 c2 c4 c6 c8 c10 c12 c14 c16 c18 c20 c22 c24 c26 c28 c29)) (fun c30 => (And.intro (fun c31 => (h17 c2 c4 c6 c8 c10 c12 c14 c16 c18 c20 c22 c24 c26 c28 c30 c31)) (fun c32 => (And.intro (fun c33 => (h18 c2 c4 c6 c8 c10 c12 c14 c16 c18 c20 c22 c24 c26 c28 c30 c32 c33)) (fun c34 => (And.intro (fun c35 => (h19 c2 c4 c6 c8 c10 c12 c14 c16 c18 c20 c22 c24 c26 c28 c30 c32 c34 c35)) (fun c36 => (And.intro (fun c37 => (h20 c2 c4 c6 c8 c10 c12 c14 c16 c18 c20 c22 c24 c26 c28 c30 c32 c34 c36 c37)) (fun c38 => (And.intro (fun c39 => (h21 c2 c4 c6 c8 c10 c12 c14 c16 c18 c20 c22 c24 c26 c28 c30 c32 c34 c36 c38 c39)) (fun c40 => (And.intro (fun c41 => (h22 c2 c4 c6 c8 c10 c12 c14 c16 c18 c20 c22 c24 c26 c28 c30 c32 c34 c36 c38 c40 c41)) (fun c42 => (And.intro (fun c43 => (h23 c2 c4 c6 c8 c10 c12 c14 c16 c18 c20 c22 c24 c26 c28 c30 c32 c34 c36 c38 c40 c42 c43)) (fun c44 => (And.intro (fun c45 => (h24 c2 c4 c6 c8 c10 c12 c14 c16 c18 c20 c22 c24 c26 c28 c30 c32 c34 c36 c38 c40 c42 c44 c45)) (fun c46 => (And.intro (fun c47 => (h25 c2 c4 c6 c8 c10 c12 c14 c16 c18 c20 c22 c24 c26 c28 c30 c32 c34 c36 c38 c40 c42 c44 c46 c47)) (fun c48 => (And.intro (fun c49 => (h26 c2 c4 c6 c8 c10 c12 c14 c16 c18 c20 c22 c24 c26 c28 c30 c32 c34 c36 c38 c40 c42 c44 c46 c48 c49)) (fun c50 => (And.intro (fun c51 => (h27 c2 c4 c6 c8 c10 c12 c14 c16 c18 c20 c22 c24 c26 c28 c30 c32 c34 c36 c38 c40 c42 c44 c46 c48 c50 c51)) (fun c52 => (And.intro (fun c53 => (h28 c2 c4 c6 c8 c10 c12 c14 c16 c18 c20 c22 c24 c26 c28 c30 c32 c34 c36 c38 c40 c42 c44 c46 c48 c50 c52 c53)) (fun c54 => (And.intro (fun c55 => (h29 c2 c4 c6 c8 c10 c12 c14 c16 c18 c20 c22 c24 c26 c28 c30 c32 c34 c36 c38 c40 c42 c44 c46 c48 c50 c52 c54 c55)) (fun c56 => (And.intro (fun c57 => (h30 c2 c4 c6 c8 c10 c12 c14 c16 c18 c20 c22 c24 c26 c28 c30 c32 c34 c36 c38 c40 c42 c44 c46 c48 c50 c52 c54 c56 c57)) (fun c58 => (And.intro (fun c59 => (h31 c2 c4 c6 c8 c10 c12 c14 c16 c18 c20 c22 c24 c26 c28 c30 c32 c34 c36 c38 c40 c42 c44 c46 c48 c50 c52 c54 c56 c58 c59)) (fun c60 => (And.intro (fun c61 => (h32 c2 c4 c6 c8 c10 c12 c14 c16 c18 c20 c22 c24 c26 c28 c30 c32 c34 c36 c38 c40 c42 c44 c46 c48 c50 c52 c54 c56 c58 c60 c61)) (fun c62 => (And.intro (fun c63 => (h33 c2 c4 c6 c8 c10 c12 c14 c16 c18 c20 c22 c24 c26 c28 c30 c32 c34 c36 c38 c40 c42 c44 c46 c48 c50 c52 c54 c56 c58 c60 c62 c63)) (fun c64 => (And.intro (fun c65 => (h34 c2 c4 c6 c8 c10 c12 c14 c16 c18 c20 c22 c24 c26 c28 c30 c32 c34 c36 c38 c40 c42 c44 c46 c48 c50 c52 c54 c56 c58 c60 c62 c64 c65)) (fun c66 => (And.intro (fun c67 => (h35 c2 c4 c6 c8 c10 c12 c14 c16 c18 c20 c22 c24 c26 c28 c30 c32 c34 c36 c38 c40 c42 c44 c46 c48 c50 c52 c54 c56 c58 c60 c62 c64 c66 c67)) (fun c68 => (And.intro (fun c69 => (h36 c2 c4 c6 c8 c10 c12 c14 c16 c18 c20 c22 c24 c26 c28 c30 c32 c34 c36 c38 c40 c42 c44 c46 c48 c50 c52 c54 c56 c58 c60 c62 c64 c66 c68 c69)) (fun c70 => (h37 c2 c4 c6 c8 c10 c12 c14 c16 c18 c20 c22 c24 c26 c28 c30 c32 c34 c36 c38 c40 c42 c44 c46 c48 c50 c52 c54 c56 c58 c60 c62 c64 c66 c68 c70))))))))))))))))))))))))))))))))))))))))))))))))))))))))))))))))))))))))
set_option maxRecDepth 100000 in
theorem kL_dflt {x3 : Int32}
    (h1 : lW L xs d 18 [some (.retAddr 5), some (.ref 0), some (.ref 279), some (.int (x3 + (7)))] [] (mkH hi hl sw kp))
    : lW L xs d 1201 [some (.retAddr 5), some (.ref 0), some (.ref 279), some (.int x3)] [] (mkH hi hl sw kp) :=
  lW.run (am_in stL) 2 (And.intro (Nat.le_of_ble_eq_true rfl) (h1))
set_option maxRecDepth 100000 in
theorem kL_0 {x3 : Int32}
    (h1 : vp_in (x3 + (1)) L)
    (h2 : vp_in (x3 + (2)) L)
    (h3 : vp_in (x3 + (3)) L)
    (h4 : vp_in (x3 + (4)) L)
    (h5 : vp_in (x3 + (5)) L)
    (h6 : cL d 123 [(.ref 0), (.int (xs (x3 + (1)).toNatClampNeg)), (.int (xs (x3 + (2)).toNatClampNeg)), (.int (xs (x3 + (3)).toNatClampNeg)), (.int (xs (x3 + (4)).toNatClampNeg)), (.int (xs (x3 + (5)).toNatClampNeg))] (mkH hi hl sw kp) (am_ret (lW L xs d) 213 [some (.retAddr 5), some (.ref 0), some (.ref 279), some (.int x3)] []))
    : lW L xs d 184 [some (.retAddr 5), some (.ref 0), some (.ref 279), some (.int x3)] [] (mkH hi hl sw kp) :=
  lW.run (am_in stL) 27 (And.intro (h1) (And.intro (h2) (And.intro (h3) (And.intro (h4) (And.intro (h5) (h6))))))
set_option maxRecDepth 100000 in
theorem kL_0_x {x3 : Int32} {s0 : Int32}
    (h1 : vp_in (x3 + (1)) L)
    (h2 : vp_in (x3 + (2)) L)
    (h3 : vp_in (x3 + (3)) L)
    (h4 : vp_in (x3 + (4)) L)
    (h5 : vp_in (x3 + (5)) L)
    (h6 : cL d 163 [(.ref 279), (.int (xs (x3 + (1)).toNatClampNeg)), (.int (xs (x3 + (2)).toNatClampNeg)), (.int (xs (x3 + (3)).toNatClampNeg)), (.int (xs (x3 + (4)).toNatClampNeg)), (.int (xs (x3 + (5)).toNatClampNeg))] (mkH hi hl sw kp) (am_ret (lW L xs d) 242 [some (.retAddr 5), some (.ref 0), some (.ref 279), some (.int x3)] [(.int s0)]))
    : lW L xs d 213 [some (.retAddr 5), some (.ref 0), some (.ref 279), some (.int x3)] [(.int s0)] (mkH hi hl sw kp) :=
  lW.run (am_in stL) 27 (And.intro (h1) (And.intro (h2) (And.intro (h3) (And.intro (h4) (And.intro (h5) (h6))))))
set_option maxRecDepth 100000 in
theorem kL_0_m {x3 : Int32} {s0 : Int32} {s1 : Int32}
    (h1 : s0 = s1 → lW L xs d 1201 [some (.retAddr 5), some (.ref 0), some (.ref 279), some (.int x3)] [] (mkH hi hl sw kp))
    (h2 : ¬ (s0 = s1) → qL (some (.int (0))) (mkH hi hl sw kp))
    : lW L xs d 242 [some (.retAddr 5), some (.ref 0), some (.ref 279), some (.int x3)] [(.int s1), (.int s0)] (mkH hi hl sw kp) :=
  lW.run (am_in stL) 3 (And.intro (fun c1 => (h1 c1)) (fun c2 => (And.intro (Or.inl rfl) (h2 c2))))
set_option maxRecDepth 100000 in
theorem kL_1 {x3 : Int32}
    (h1 : vp_in (x3 + (1)) L)
    (h2 : cL d 124 [(.ref 0), (.int (xs (x3 + (1)).toNatClampNeg))] (mkH hi hl sw kp) (am_ret (lW L xs d) 256 [some (.retAddr 5), some (.ref 0), some (.ref 279), some (.int x3)] []))
    : lW L xs d 247 [some (.retAddr 5), some (.ref 0), some (.ref 279), some (.int x3)] [] (mkH hi hl sw kp) :=
  lW.run (am_in stL) 7 (And.intro (h1) (h2))
set_option maxRecDepth 100000 in
theorem kL_1_x {x3 : Int32} {s0 : Int32}
    (h1 : vp_in (x3 + (1)) L)
    (h2 : cL d 165 [(.ref 279), (.int (xs (x3 + (1)).toNatClampNeg))] (mkH hi hl sw kp) (am_ret (lW L xs d) 265 [some (.retAddr 5), some (.ref 0), some (.ref 279), some (.int x3)] [(.int s0)]))
    : lW L xs d 256 [some (.retAddr 5), some (.ref 0), some (.ref 279), some (.int x3)] [(.int s0)] (mkH hi hl sw kp) :=
  lW.run (am_in stL) 7 (And.intro (h1) (h2))
set_option maxRecDepth 100000 in
theorem kL_1_m {x3 : Int32} {s0 : Int32} {s1 : Int32}
    (h1 : s0 = s1 → lW L xs d 1201 [some (.retAddr 5), some (.ref 0), some (.ref 279), some (.int x3)] [] (mkH hi hl sw kp))
    (h2 : ¬ (s0 = s1) → qL (some (.int (0))) (mkH hi hl sw kp))
    : lW L xs d 265 [some (.retAddr 5), some (.ref 0), some (.ref 279), some (.int x3)] [(.int s1), (.int s0)] (mkH hi hl sw kp) :=
  lW.run (am_in stL) 3 (And.intro (fun c1 => (h1 c1)) (fun c2 => (And.intro (Or.inl rfl) (h2 c2))))
set_option maxRecDepth 100000 in
theorem kL_2 {x3 : Int32}
    (h1 : cL d 125 [(.ref 0)] (mkH hi hl sw kp) (am_ret (lW L xs d) 274 [some (.retAddr 5), some (.ref 0), some (.ref 279), some (.int x3)] []))
    : lW L xs d 270 [some (.retAddr 5), some (.ref 0), some (.ref 279), some (.int x3)] [] (mkH hi hl sw kp) :=
  lW.run (am_in stL) 2 (h1)
set_option maxRecDepth 100000 in
theorem kL_2_x {x3 : Int32} {s0 : Int32}
    (h1 : cL d 205 [(.ref 279)] (mkH hi hl sw kp) (am_ret (lW L xs d) 278 [some (.retAddr 5), some (.ref 0), some (.ref 279), some (.int x3)] [(.int s0)]))
    : lW L xs d 274 [some (.retAddr 5), some (.ref 0), some (.ref 279), some (.int x3)] [(.int s0)] (mkH hi hl sw kp) :=
  lW.run (am_in stL) 2 (h1)
set_option maxRecDepth 100000 in
theorem kL_2_m {x3 : Int32} {s0 : Int32} {s1 : Int32}
    (h1 : s0 = s1 → lW L xs d 1201 [some (.retAddr 5), some (.ref 0), some (.ref 279), some (.int x3)] [] (mkH hi hl sw kp))
    (h2 : ¬ (s0 = s1) → qL (some (.int (0))) (mkH hi hl sw kp))
    : lW L xs d 278 [some (.retAddr 5), some (.ref 0), some (.ref 279), some (.int x3)] [(.int s1), (.int s0)] (mkH hi hl sw kp) :=
  lW.run (am_in stL) 3 (And.intro (fun c1 => (h1 c1)) (fun c2 => (And.intro (Or.inl rfl) (h2 c2))))
set_option maxRecDepth 100000 in
theorem kL_3 {x3 : Int32}
    (h1 : vp_in (x3 + (1)) L)
    (h2 : cL d 126 [(.ref 0), (.int (xs (x3 + (1)).toNatClampNeg))] (mkH hi hl sw kp) (am_ret (lW L xs d) 292 [some (.retAddr 5), some (.ref 0), some (.ref 279), some (.int x3)] []))
    : lW L xs d 283 [some (.retAddr 5), some (.ref 0), some (.ref 279), some (.int x3)] [] (mkH hi hl sw kp) :=
  lW.run (am_in stL) 7 (And.intro (h1) (h2))
set_option maxRecDepth 100000 in
theorem kL_3_x {x3 : Int32} {s0 : Int32}
    (h1 : vp_in (x3 + (1)) L)
    (h2 : cL d 206 [(.ref 279), (.int (xs (x3 + (1)).toNatClampNeg))] (mkH hi hl sw kp) (am_ret (lW L xs d) 301 [some (.retAddr 5), some (.ref 0), some (.ref 279), some (.int x3)] [(.int s0)]))
    : lW L xs d 292 [some (.retAddr 5), some (.ref 0), some (.ref 279), some (.int x3)] [(.int s0)] (mkH hi hl sw kp) :=
  lW.run (am_in stL) 7 (And.intro (h1) (h2))
set_option maxRecDepth 100000 in
theorem kL_3_m {x3 : Int32} {s0 : Int32} {s1 : Int32}
    (h1 : s0 = s1 → lW L xs d 1201 [some (.retAddr 5), some (.ref 0), some (.ref 279), some (.int x3)] [] (mkH hi hl sw kp))
    (h2 : ¬ (s0 = s1) → qL (some (.int (0))) (mkH hi hl sw kp))
    : lW L xs d 301 [some (.retAddr 5), some (.ref 0), some (.ref 279), some (.int x3)] [(.int s1), (.int s0)] (mkH hi hl sw kp) :=
  lW.run (am_in stL) 3 (And.intro (fun c1 => (h1 c1)) (fun c2 => (And.intro (Or.inl rfl) (h2 c2))))
set_option maxRecDepth 100000 in
theorem kL_4 {x3 : Int32}
    (h1 : vp_in (x3 + (1)) L)
    (h2 : vp_in (x3 + (2)) L)
    (h3 : cL d 127 [(.ref 0), (.int (xs (x3 + (1)).toNatClampNeg)), (.int (xs (x3 + (2)).toNatClampNeg))] (mkH hi hl sw kp) (am_ret (lW L xs d) 320 [some (.retAddr 5), some (.ref 0), some (.ref 279), some (.int x3)] []))
    : lW L xs d 306 [some (.retAddr 5), some (.ref 0), some (.ref 279), some (.int x3)] [] (mkH hi hl sw kp) :=
  lW.run (am_in stL) 12 (And.intro (h1) (And.intro (h2) (h3)))
set_option maxRecDepth 100000 in
theorem kL_4_x {x3 : Int32} {s0 : Int32}
    (h1 : vp_in (x3 + (1)) L)
    (h2 : vp_in (x3 + (2)) L)
    (h3 : cL d 219 [(.ref 279), (.int (xs (x3 + (1)).toNatClampNeg)), (.int (xs (x3 + (2)).toNatClampNeg))] (mkH hi hl sw kp) (am_ret (lW L xs d) 334 [some (.retAddr 5), some (.ref 0), some (.ref 279), some (.int x3)] [(.int s0)]))
    : lW L xs d 320 [some (.retAddr 5), some (.ref 0), some (.ref 279), some (.int x3)] [(.int s0)] (mkH hi hl sw kp) :=
  lW.run (am_in stL) 12 (And.intro (h1) (And.intro (h2) (h3)))
set_option maxRecDepth 100000 in
theorem kL_4_m {x3 : Int32} {s0 : Int32} {s1 : Int32}
    (h1 : s0 = s1 → lW L xs d 1201 [some (.retAddr 5), some (.ref 0), some (.ref 279), some (.int x3)] [] (mkH hi hl sw kp))
    (h2 : ¬ (s0 = s1) → qL (some (.int (0))) (mkH hi hl sw kp))
    : lW L xs d 334 [some (.retAddr 5), some (.ref 0), some (.ref 279), some (.int x3)] [(.int s1), (.int s0)] (mkH hi hl sw kp) :=
  lW.run (am_in stL) 3 (And.intro (fun c1 => (h1 c1)) (fun c2 => (And.intro (Or.inl rfl) (h2 c2))))
set_option maxRecDepth 100000 in
theorem kL_5 {x3 : Int32}
    (h1 : vp_in (x3 + (1)) L)
    (h2 : vp_in (x3 + (2)) L)
    (h3 : cL d 128 [(.ref 0), (.int (xs (x3 + (1)).toNatClampNeg)), (.int (xs (x3 + (2)).toNatClampNeg))] (mkH hi hl sw kp) (am_ret (lW L xs d) 353 [some (.retAddr 5), some (.ref 0), some (.ref 279), some (.int x3)] []))
    : lW L xs d 339 [some (.retAddr 5), some (.ref 0), some (.ref 279), some (.int x3)] [] (mkH hi hl sw kp) :=
  lW.run (am_in stL) 12 (And.intro (h1) (And.intro (h2) (h3)))
set_option maxRecDepth 100000 in
theorem kL_5_x {x3 : Int32} {s0 : Int32}
    (h1 : vp_in (x3 + (1)) L)
    (h2 : vp_in (x3 + (2)) L)
    (h3 : cL d 220 [(.ref 279), (.int (xs (x3 + (1)).toNatClampNeg)), (.int (xs (x3 + (2)).toNatClampNeg))] (mkH hi hl sw kp) (am_ret (lW L xs d) 367 [some (.retAddr 5), some (.ref 0), some (.ref 279), some (.int x3)] [(.int s0)]))
    : lW L xs d 353 [some (.retAddr 5), some (.ref 0), some (.ref 279), some (.int x3)] [(.int s0)] (mkH hi hl sw kp) :=
  lW.run (am_in stL) 12 (And.intro (h1) (And.intro (h2) (h3)))
set_option maxRecDepth 100000 in
theorem kL_5_m {x3 : Int32} {s0 : Int32} {s1 : Int32}
    (h1 : s0 = s1 → lW L xs d 1201 [some (.retAddr 5), some (.ref 0), some (.ref 279), some (.int x3)] [] (mkH hi hl sw kp))
    (h2 : ¬ (s0 = s1) → qL (some (.int (0))) (mkH hi hl sw kp))
    : lW L xs d 367 [some (.retAddr 5), some (.ref 0), some (.ref 279), some (.int x3)] [(.int s1), (.int s0)] (mkH hi hl sw kp) :=
  lW.run (am_in stL) 3 (And.intro (fun c1 => (h1 c1)) (fun c2 => (And.intro (Or.inl rfl) (h2 c2))))
set_option maxRecDepth 100000 in
theorem kL_6 {x3 : Int32}
    (h1 : vp_in (x3 + (1)) L)
    (h2 : vp_in (x3 + (2)) L)
    (h3 : cL d 129 [(.ref 0), (.int (xs (x3 + (1)).toNatClampNeg)), (.int (xs (x3 + (2)).toNatClampNeg))] (mkH hi hl sw kp) (am_ret (lW L xs d) 386 [some (.retAddr 5), some (.ref 0), some (.ref 279), some (.int x3)] []))
    : lW L xs d 372 [some (.retAddr 5), some (.ref 0), some (.ref 279), some (.int x3)] [] (mkH hi hl sw kp) :=
  lW.run (am_in stL) 12 (And.intro (h1) (And.intro (h2) (h3)))
set_option maxRecDepth 100000 in
theorem kL_6_x {x3 : Int32} {s0 : Int32}
    (h1 : vp_in (x3 + (1)) L)
    (h2 : vp_in (x3 + (2)) L)
    (h3 : cL d 221 [(.ref 279), (.int (xs (x3 + (1)).toNatClampNeg)), (.int (xs (x3 + (2)).toNatClampNeg))] (mkH hi hl sw kp) (am_ret (lW L xs d) 400 [some (.retAddr 5), some (.ref 0), some (.ref 279), some (.int x3)] [(.int s0)]))
    : lW L xs d 386 [some (.retAddr 5), some (.ref 0), some (.ref 279), some (.int x3)] [(.int s0)] (mkH hi hl sw kp) :=
  lW.run (am_in stL) 12 (And.intro (h1) (And.intro (h2) (h3)))
set_option maxRecDepth 100000 in
theorem kL_6_m {x3 : Int32} {s0 : Int32} {s1 : Int32}
    (h1 : s0 = s1 → lW L xs d 1201 [some (.retAddr 5), some (.ref 0), some (.ref 279), some (.int x3)] [] (mkH hi hl sw kp))
    (h2 : ¬ (s0 = s1) → qL (some (.int (0))) (mkH hi hl sw kp))
    : lW L xs d 400 [some (.retAddr 5), some (.ref 0), some (.ref 279), some (.int x3)] [(.int s1), (.int s0)] (mkH hi hl sw kp) :=
  lW.run (am_in stL) 3 (And.intro (fun c1 => (h1 c1)) (fun c2 => (And.intro (Or.inl rfl) (h2 c2))))
set_option maxRecDepth 100000 in
theorem kL_7 {x3 : Int32}
    (h1 : vp_in (x3 + (1)) L)
    (h2 : cL d 130 [(.ref 0), (.int (xs (x3 + (1)).toNatClampNeg))] (mkH hi hl sw kp) (am_ret (lW L xs d) 414 [some (.retAddr 5), some (.ref 0), some (.ref 279), some (.int x3)] []))
    : lW L xs d 405 [some (.retAddr 5), some (.ref 0), some (.ref 279), some (.int x3)] [] (mkH hi hl sw kp) :=
  lW.run (am_in stL) 7 (And.intro (h1) (h2))
set_option maxRecDepth 100000 in
theorem kL_7_x {x3 : Int32} {s0 : Int32}
    (h1 : vp_in (x3 + (1)) L)
    (h2 : cL d 222 [(.ref 279), (.int (xs (x3 + (1)).toNatClampNeg))] (mkH hi hl sw kp) (am_ret (lW L xs d) 423 [some (.retAddr 5), some (.ref 0), some (.ref 279), some (.int x3)] [(.int s0)]))
    : lW L xs d 414 [some (.retAddr 5), some (.ref 0), some (.ref 279), some (.int x3)] [(.int s0)] (mkH hi hl sw kp) :=
  lW.run (am_in stL) 7 (And.intro (h1) (h2))
set_option maxRecDepth 100000 in
theorem kL_7_m {x3 : Int32} {s0 : Int32} {s1 : Int32}
    (h1 : s0 = s1 → lW L xs d 1201 [some (.retAddr 5), some (.ref 0), some (.ref 279), some (.int x3)] [] (mkH hi hl sw kp))
    (h2 : ¬ (s0 = s1) → qL (some (.int (0))) (mkH hi hl sw kp))
    : lW L xs d 423 [some (.retAddr 5), some (.ref 0), some (.ref 279), some (.int x3)] [(.int s1), (.int s0)] (mkH hi hl sw kp) :=
  lW.run (am_in stL) 3 (And.intro (fun c1 => (h1 c1)) (fun c2 => (And.intro (Or.inl rfl) (h2 c2))))
set_option maxRecDepth 100000 in
theorem kL_8 {x3 : Int32}
    (h1 : cL d 131 [(.ref 0)] (mkH hi hl sw kp) (am_ret (lW L xs d) 432 [some (.retAddr 5), some (.ref 0), some (.ref 279), some (.int x3)] []))
    : lW L xs d 428 [some (.retAddr 5), some (.ref 0), some (.ref 279), some (.int x3)] [] (mkH hi hl sw kp) :=
  lW.run (am_in stL) 2 (h1)
set_option maxRecDepth 100000 in
theorem kL_8_x {x3 : Int32} {s0 : Int32}
    (h1 : cL d 227 [(.ref 279)] (mkH hi hl sw kp) (am_ret (lW L xs d) 436 [some (.retAddr 5), some (.ref 0), some (.ref 279), some (.int x3)] [(.int s0)]))
    : lW L xs d 432 [some (.retAddr 5), some (.ref 0), some (.ref 279), some (.int x3)] [(.int s0)] (mkH hi hl sw kp) :=
  lW.run (am_in stL) 2 (h1)
set_option maxRecDepth 100000 in
theorem kL_8_m {x3 : Int32} {s0 : Int32} {s1 : Int32}
    (h1 : s0 = s1 → lW L xs d 1201 [some (.retAddr 5), some (.ref 0), some (.ref 279), some (.int x3)] [] (mkH hi hl sw kp))
    (h2 : ¬ (s0 = s1) → qL (some (.int (0))) (mkH hi hl sw kp))
    : lW L xs d 436 [some (.retAddr 5), some (.ref 0), some (.ref 279), some (.int x3)] [(.int s1), (.int s0)] (mkH hi hl sw kp) :=
  lW.run (am_in stL) 3 (And.intro (fun c1 => (h1 c1)) (fun c2 => (And.intro (Or.inl rfl) (h2 c2))))
set_option maxRecDepth 100000 in
theorem kL_9 {x3 : Int32}
    (h1 : vp_in (x3 + (1)) L)
    (h2 : cL d 132 [(.ref 0), (.int (xs (x3 + (1)).toNatClampNeg))] (mkH hi hl sw kp) (am_ret (lW L xs d) 450 [some (.retAddr 5), some (.ref 0), some (.ref 279), some (.int x3)] []))
    : lW L xs d 441 [some (.retAddr 5), some (.ref 0), some (.ref 279), some (.int x3)] [] (mkH hi hl sw kp) :=
  lW.run (am_in stL) 7 (And.intro (h1) (h2))
set_option maxRecDepth 100000 in
theorem kL_9_x {x3 : Int32} {s0 : Int32}
    (h1 : vp_in (x3 + (1)) L)
    (h2 : cL d 228 [(.ref 279), (.int (xs (x3 + (1)).toNatClampNeg))] (mkH hi hl sw kp) (am_ret (lW L xs d) 459 [some (.retAddr 5), some (.ref 0), some (.ref 279), some (.int x3)] [(.int s0)]))
    : lW L xs d 450 [some (.retAddr 5), some (.ref 0), some (.ref 279), some (.int x3)] [(.int s0)] (mkH hi hl sw kp) :=
  lW.run (am_in stL) 7 (And.intro (h1) (h2))
set_option maxRecDepth 100000 in
theorem kL_9_m {x3 : Int32} {s0 : Int32} {s1 : Int32}
    (h1 : s0 = s1 → lW L xs d 1201 [some (.retAddr 5), some (.ref 0), some (.ref 279), some (.int x3)] [] (mkH hi hl sw kp))
    (h2 : ¬ (s0 = s1) → qL (some (.int (0))) (mkH hi hl sw kp))
    : lW L xs d 459 [some (.retAddr 5), some (.ref 0), some (.ref 279), some (.int x3)] [(.int s1), (.int s0)] (mkH hi hl sw kp) :=
  lW.run (am_in stL) 3 (And.intro (fun c1 => (h1 c1)) (fun c2 => (And.intro (Or.inl rfl) (h2 c2))))
set_option maxRecDepth 100000 in
theorem kL_10 {x3 : Int32}
    (h1 : vp_in (x3 + (1)) L)
    (h2 : cL d 133 [(.ref 0), (.int (xs (x3 + (1)).toNatClampNeg))] (mkH hi hl sw kp) (am_ret (lW L xs d) 473 [some (.retAddr 5), some (.ref 0), some (.ref 279), some (.int x3)] []))
    : lW L xs d 464 [some (.retAddr 5), some (.ref 0), some (.ref 279), some (.int x3)] [] (mkH hi hl sw kp) :=
  lW.run (am_in stL) 7 (And.intro (h1) (h2))
set_option maxRecDepth 100000 in
theorem kL_10_x {x3 : Int32} {s0 : Int32}
    (h1 : vp_in (x3 + (1)) L)
    (h2 : cL d 229 [(.ref 279), (.int (xs (x3 + (1)).toNatClampNeg))] (mkH hi hl sw kp) (am_ret (lW L xs d) 482 [some (.retAddr 5), some (.ref 0), some (.ref 279), some (.int x3)] [(.int s0)]))
    : lW L xs d 473 [some (.retAddr 5), some (.ref 0), some (.ref 279), some (.int x3)] [(.int s0)] (mkH hi hl sw kp) :=
  lW.run (am_in stL) 7 (And.intro (h1) (h2))
set_option maxRecDepth 100000 in
theorem kL_10_m {x3 : Int32} {s0 : Int32} {s1 : Int32}
    (h1 : s0 = s1 → lW L xs d 1201 [some (.retAddr 5), some (.ref 0), some (.ref 279), some (.int x3)] [] (mkH hi hl sw kp))
    (h2 : ¬ (s0 = s1) → qL (some (.int (0))) (mkH hi hl sw kp))
    : lW L xs d 482 [some (.retAddr 5), some (.ref 0), some (.ref 279), some (.int x3)] [(.int s1), (.int s0)] (mkH hi hl sw kp) :=
  lW.run (am_in stL) 3 (And.intro (fun c1 => (h1 c1)) (fun c2 => (And.intro (Or.inl rfl) (h2 c2))))
set_option maxRecDepth 100000 in
theorem kL_11 {x3 : Int32}
    (h1 : cL d 134 [(.ref 0)] (mkH hi hl sw kp) (am_ret (lW L xs d) 491 [some (.retAddr 5), some (.ref 0), some (.ref 279), some (.int x3)] []))
    : lW L xs d 487 [some (.retAddr 5), some (.ref 0), some (.ref 279), some (.int x3)] [] (mkH hi hl sw kp) :=
  lW.run (am_in stL) 2 (h1)
set_option maxRecDepth 100000 in
theorem kL_11_x {x3 : Int32} {s0 : Int32}
    (h1 : cL d 230 [(.ref 279)] (mkH hi hl sw kp) (am_ret (lW L xs d) 495 [some (.retAddr 5), some (.ref 0), some (.ref 279), some (.int x3)] [(.int s0)]))
    : lW L xs d 491 [some (.retAddr 5), some (.ref 0), some (.ref 279), some (.int x3)] [(.int s0)] (mkH hi hl sw kp) :=
  lW.run (am_in stL) 2 (h1)
set_option maxRecDepth 100000 in
theorem kL_11_m {x3 : Int32} {s0 : Int32} {s1 : Int32}
    (h1 : s0 = s1 → lW L xs d 1201 [some (.retAddr 5), some (.ref 0), some (.ref 279), some (.int x3)] [] (mkH hi hl sw kp))
    (h2 : ¬ (s0 = s1) → qL (some (.int (0))) (mkH hi hl sw kp))
    : lW L xs d 495 [some (.retAddr 5), some (.ref 0), some (.ref 279), some (.int x3)] [(.int s1), (.int s0)] (mkH hi hl sw kp) :=
  lW.run (am_in stL) 3 (And.intro (fun c1 => (h1 c1)) (fun c2 => (And.intro (Or.inl rfl) (h2 c2))))
set_option maxRecDepth 100000 in
theorem kL_12 {x3 : Int32}
    (h1 : cL d 135 [(.ref 0)] (mkH hi hl sw kp) (am_ret (lW L xs d) 504 [some (.retAddr 5), some (.ref 0), some (.ref 279), some (.int x3)] []))
    : lW L xs d 500 [some (.retAddr 5), some (.ref 0), some (.ref 279), some (.int x3)] [] (mkH hi hl sw kp) :=
  lW.run (am_in stL) 2 (h1)
set_option maxRecDepth 100000 in
theorem kL_12_x {x3 : Int32} {s0 : Int32}
    (h1 : cL d 231 [(.ref 279)] (mkH hi hl sw kp) (am_ret (lW L xs d) 508 [some (.retAddr 5), some (.ref 0), some (.ref 279), some (.int x3)] [(.int s0)]))
    : lW L xs d 504 [some (.retAddr 5), some (.ref 0), some (.ref 279), some (.int x3)] [(.int s0)] (mkH hi hl sw kp) :=
  lW.run (am_in stL) 2 (h1)
set_option maxRecDepth 100000 in
theorem kL_12_m {x3 : Int32} {s0 : Int32} {s1 : Int32}
    (h1 : s0 = s1 → lW L xs d 1201 [some (.retAddr 5), some (.ref 0), some (.ref 279), some (.int x3)] [] (mkH hi hl sw kp))
    (h2 : ¬ (s0 = s1) → qL (some (.int (0))) (mkH hi hl sw kp))
    : lW L xs d 508 [some (.retAddr 5), some (.ref 0), some (.ref 279), some (.int x3)] [(.int s1), (.int s0)] (mkH hi hl sw kp) :=
  lW.run (am_in stL) 3 (And.intro (fun c1 => (h1 c1)) (fun c2 => (And.intro (Or.inl rfl) (h2 c2))))
set_option maxRecDepth 100000 in
theorem kL_13 {x3 : Int32}
    (h1 : vp_in (x3 + (1)) L)
    (h2 : vp_in (x3 + (2)) L)
    (h3 : vp_in (x3 + (3)) L)
    (h4 : cL d 136 [(.ref 0), (.int (xs (x3 + (1)).toNatClampNeg)), (.int (xs (x3 + (2)).toNatClampNeg)), (.int (xs (x3 + (3)).toNatClampNeg))] (mkH hi hl sw kp) (am_ret (lW L xs d) 532 [some (.retAddr 5), some (.ref 0), some (.ref 279), some (.int x3)] []))
    : lW L xs d 513 [some (.retAddr 5), some (.ref 0), some (.ref 279), some (.int x3)] [] (mkH hi hl sw kp) :=
  lW.run (am_in stL) 17 (And.intro (h1) (And.intro (h2) (And.intro (h3) (h4))))
set_option maxRecDepth 100000 in
theorem kL_13_x {x3 : Int32} {s0 : Int64}
    (h1 : vp_in (x3 + (1)) L)
    (h2 : vp_in (x3 + (2)) L)
    (h3 : vp_in (x3 + (3)) L)
    (h4 : cL d 237 [(.ref 279), (.int (xs (x3 + (1)).toNatClampNeg)), (.int (xs (x3 + (2)).toNatClampNeg)), (.int (xs (x3 + (3)).toNatClampNeg))] (mkH hi hl sw kp) (am_ret (lW L xs d) 551 [some (.retAddr 5), some (.ref 0), some (.ref 279), some (.int x3)] [(.long s0)]))
    : lW L xs d 532 [some (.retAddr 5), some (.ref 0), some (.ref 279), some (.int x3)] [(.long s0)] (mkH hi hl sw kp) :=
  lW.run (am_in stL) 17 (And.intro (h1) (And.intro (h2) (And.intro (h3) (h4))))
set_option maxRecDepth 100000 in
theorem kL_13_m {x3 : Int32} {s0 : Int64} {s1 : Int64}
    (h1 : (lg_cmp s0 s1) = 0 → lW L xs d 1201 [some (.retAddr 5), some (.ref 0), some (.ref 279), some (.int x3)] [] (mkH hi hl sw kp))
    (h2 : ¬ ((lg_cmp s0 s1) = 0) → qL (some (.int (0))) (mkH hi hl sw kp))
    : lW L xs d 551 [some (.retAddr 5), some (.ref 0), some (.ref 279), some (.int x3)] [(.long s1), (.long s0)] (mkH hi hl sw kp) :=
  lW.run (am_in stL) 4 (And.intro (fun c1 => (h1 c1)) (fun c2 => (And.intro (Or.inl rfl) (h2 c2))))
set_option maxRecDepth 100000 in
theorem kL_14 {x3 : Int32}
    (h1 : vp_in (x3 + (1)) L)
    (h2 : vp_in (x3 + (2)) L)
    (h3 : vp_in (x3 + (3)) L)
    (h4 : cL d 137 [(.ref 0), (.int (xs (x3 + (1)).toNatClampNeg)), (.int (xs (x3 + (2)).toNatClampNeg)), (.int (xs (x3 + (3)).toNatClampNeg))] (mkH hi hl sw kp) (am_ret (lW L xs d) 576 [some (.retAddr 5), some (.ref 0), some (.ref 279), some (.int x3)] []))
    : lW L xs d 557 [some (.retAddr 5), some (.ref 0), some (.ref 279), some (.int x3)] [] (mkH hi hl sw kp) :=
  lW.run (am_in stL) 17 (And.intro (h1) (And.intro (h2) (And.intro (h3) (h4))))
set_option maxRecDepth 100000 in
theorem kL_14_x {x3 : Int32} {s0 : Int64}
    (h1 : vp_in (x3 + (1)) L)
    (h2 : vp_in (x3 + (2)) L)
    (h3 : vp_in (x3 + (3)) L)
    (h4 : cL d 246 [(.ref 279), (.int (xs (x3 + (1)).toNatClampNeg)), (.int (xs (x3 + (2)).toNatClampNeg)), (.int (xs (x3 + (3)).toNatClampNeg))] (mkH hi hl sw kp) (am_ret (lW L xs d) 595 [some (.retAddr 5), some (.ref 0), some (.ref 279), some (.int x3)] [(.long s0)]))
    : lW L xs d 576 [some (.retAddr 5), some (.ref 0), some (.ref 279), some (.int x3)] [(.long s0)] (mkH hi hl sw kp) :=
  lW.run (am_in stL) 17 (And.intro (h1) (And.intro (h2) (And.intro (h3) (h4))))
set_option maxRecDepth 100000 in
theorem kL_14_m {x3 : Int32} {s0 : Int64} {s1 : Int64}
    (h1 : (lg_cmp s0 s1) = 0 → lW L xs d 1201 [some (.retAddr 5), some (.ref 0), some (.ref 279), some (.int x3)] [] (mkH hi hl sw kp))
    (h2 : ¬ ((lg_cmp s0 s1) = 0) → qL (some (.int (0))) (mkH hi hl sw kp))
    : lW L xs d 595 [some (.retAddr 5), some (.ref 0), some (.ref 279), some (.int x3)] [(.long s1), (.long s0)] (mkH hi hl sw kp) :=
  lW.run (am_in stL) 4 (And.intro (fun c1 => (h1 c1)) (fun c2 => (And.intro (Or.inl rfl) (h2 c2))))
set_option maxRecDepth 100000 in
theorem kL_15 {x3 : Int32}
    (h1 : vp_in (x3 + (1)) L)
    (h2 : cL d 138 [(.ref 0), (.int (xs (x3 + (1)).toNatClampNeg))] (mkH hi hl sw kp) (am_ret (lW L xs d) 610 [some (.retAddr 5), some (.ref 0), some (.ref 279), some (.int x3)] []))
    : lW L xs d 601 [some (.retAddr 5), some (.ref 0), some (.ref 279), some (.int x3)] [] (mkH hi hl sw kp) :=
  lW.run (am_in stL) 7 (And.intro (h1) (h2))
set_option maxRecDepth 100000 in
theorem kL_15_x {x3 : Int32} {s0 : Int32}
    (h1 : vp_in (x3 + (1)) L)
    (h2 : cL d 238 [(.ref 279), (.int (xs (x3 + (1)).toNatClampNeg))] (mkH hi hl sw kp) (am_ret (lW L xs d) 619 [some (.retAddr 5), some (.ref 0), some (.ref 279), some (.int x3)] [(.int s0)]))
    : lW L xs d 610 [some (.retAddr 5), some (.ref 0), some (.ref 279), some (.int x3)] [(.int s0)] (mkH hi hl sw kp) :=
  lW.run (am_in stL) 7 (And.intro (h1) (h2))
set_option maxRecDepth 100000 in
theorem kL_15_m {x3 : Int32} {s0 : Int32} {s1 : Int32}
    (h1 : s0 = s1 → lW L xs d 1201 [some (.retAddr 5), some (.ref 0), some (.ref 279), some (.int x3)] [] (mkH hi hl sw kp))
    (h2 : ¬ (s0 = s1) → qL (some (.int (0))) (mkH hi hl sw kp))
    : lW L xs d 619 [some (.retAddr 5), some (.ref 0), some (.ref 279), some (.int x3)] [(.int s1), (.int s0)] (mkH hi hl sw kp) :=
  lW.run (am_in stL) 3 (And.intro (fun c1 => (h1 c1)) (fun c2 => (And.intro (Or.inl rfl) (h2 c2))))
set_option maxRecDepth 100000 in
theorem kL_16 {x3 : Int32}
    (h1 : vp_in (x3 + (1)) L)
    (h2 : cL d 139 [(.ref 0), (.int (xs (x3 + (1)).toNatClampNeg))] (mkH hi hl sw kp) (am_ret (lW L xs d) 633 [some (.retAddr 5), some (.ref 0), some (.ref 279), some (.int x3)] []))
    : lW L xs d 624 [some (.retAddr 5), some (.ref 0), some (.ref 279), some (.int x3)] [] (mkH hi hl sw kp) :=
  lW.run (am_in stL) 7 (And.intro (h1) (h2))
set_option maxRecDepth 100000 in
theorem kL_16_x {x3 : Int32} {s0 : Int32}
    (h1 : vp_in (x3 + (1)) L)
    (h2 : cL d 248 [(.ref 279), (.int (xs (x3 + (1)).toNatClampNeg))] (mkH hi hl sw kp) (am_ret (lW L xs d) 642 [some (.retAddr 5), some (.ref 0), some (.ref 279), some (.int x3)] [(.int s0)]))
    : lW L xs d 633 [some (.retAddr 5), some (.ref 0), some (.ref 279), some (.int x3)] [(.int s0)] (mkH hi hl sw kp) :=
  lW.run (am_in stL) 7 (And.intro (h1) (h2))
set_option maxRecDepth 100000 in
theorem kL_16_m {x3 : Int32} {s0 : Int32} {s1 : Int32}
    (h1 : s0 = s1 → lW L xs d 1201 [some (.retAddr 5), some (.ref 0), some (.ref 279), some (.int x3)] [] (mkH hi hl sw kp))
    (h2 : ¬ (s0 = s1) → qL (some (.int (0))) (mkH hi hl sw kp))
    : lW L xs d 642 [some (.retAddr 5), some (.ref 0), some (.ref 279), some (.int x3)] [(.int s1), (.int s0)] (mkH hi hl sw kp) :=
  lW.run (am_in stL) 3 (And.intro (fun c1 => (h1 c1)) (fun c2 => (And.intro (Or.inl rfl) (h2 c2))))
set_option maxRecDepth 100000 in
theorem kL_17 {x3 : Int32}
    (h1 : vp_in (x3 + (1)) L)
    (h2 : vp_in (x3 + (2)) L)
    (h3 : vp_in (x3 + (3)) L)
    (h4 : vp_in (x3 + (4)) L)
    (h5 : cL d 140 [(.ref 0), (.int (xs (x3 + (1)).toNatClampNeg)), (.int (xs (x3 + (2)).toNatClampNeg)), (.int (xs (x3 + (3)).toNatClampNeg)), (.int (xs (x3 + (4)).toNatClampNeg))] (mkH hi hl sw kp) (am_ret (lW L xs d) 671 [some (.retAddr 5), some (.ref 0), some (.ref 279), some (.int x3)] []))
    : lW L xs d 647 [some (.retAddr 5), some (.ref 0), some (.ref 279), some (.int x3)] [] (mkH hi hl sw kp) :=
  lW.run (am_in stL) 22 (And.intro (h1) (And.intro (h2) (And.intro (h3) (And.intro (h4) (h5)))))
set_option maxRecDepth 100000 in
theorem kL_17_x {x3 : Int32} {s0 : Int64}
    (h1 : vp_in (x3 + (1)) L)
    (h2 : vp_in (x3 + (2)) L)
    (h3 : vp_in (x3 + (3)) L)
    (h4 : vp_in (x3 + (4)) L)
    (h5 : cL d 254 [(.ref 279), (.int (xs (x3 + (1)).toNatClampNeg)), (.int (xs (x3 + (2)).toNatClampNeg)), (.int (xs (x3 + (3)).toNatClampNeg)), (.int (xs (x3 + (4)).toNatClampNeg))] (mkH hi hl sw kp) (am_ret (lW L xs d) 695 [some (.retAddr 5), some (.ref 0), some (.ref 279), some (.int x3)] [(.long s0)]))
    : lW L xs d 671 [some (.retAddr 5), some (.ref 0), some (.ref 279), some (.int x3)] [(.long s0)] (mkH hi hl sw kp) :=
  lW.run (am_in stL) 22 (And.intro (h1) (And.intro (h2) (And.intro (h3) (And.intro (h4) (h5)))))
set_option maxRecDepth 100000 in
theorem kL_17_m {x3 : Int32} {s0 : Int64} {s1 : Int64}
    (h1 : (lg_cmp s0 s1) = 0 → lW L xs d 1201 [some (.retAddr 5), some (.ref 0), some (.ref 279), some (.int x3)] [] (mkH hi hl sw kp))
    (h2 : ¬ ((lg_cmp s0 s1) = 0) → qL (some (.int (0))) (mkH hi hl sw kp))
    : lW L xs d 695 [some (.retAddr 5), some (.ref 0), some (.ref 279), some (.int x3)] [(.long s1), (.long s0)] (mkH hi hl sw kp) :=
  lW.run (am_in stL) 4 (And.intro (fun c1 => (h1 c1)) (fun c2 => (And.intro (Or.inl rfl) (h2 c2))))
set_option maxRecDepth 100000 in
theorem kL_18 {x3 : Int32}
    (h1 : vp_in (x3 + (1)) L)
    (h2 : vp_in (x3 + (2)) L)
    (h3 : cL d 141 [(.ref 0), (.int (xs (x3 + (1)).toNatClampNeg)), (.int (xs (x3 + (2)).toNatClampNeg))] (mkH hi hl sw kp) (am_ret (lW L xs d) 715 [some (.retAddr 5), some (.ref 0), some (.ref 279), some (.int x3)] []))
    : lW L xs d 701 [some (.retAddr 5), some (.ref 0), some (.ref 279), some (.int x3)] [] (mkH hi hl sw kp) :=
  lW.run (am_in stL) 12 (And.intro (h1) (And.intro (h2) (h3)))
set_option maxRecDepth 100000 in
theorem kL_18_x {x3 : Int32} {s0 : Int32}
    (h1 : vp_in (x3 + (1)) L)
    (h2 : vp_in (x3 + (2)) L)
    (h3 : cL d 255 [(.ref 279), (.int (xs (x3 + (1)).toNatClampNeg)), (.int (xs (x3 + (2)).toNatClampNeg))] (mkH hi hl sw kp) (am_ret (lW L xs d) 729 [some (.retAddr 5), some (.ref 0), some (.ref 279), some (.int x3)] [(.int s0)]))
    : lW L xs d 715 [some (.retAddr 5), some (.ref 0), some (.ref 279), some (.int x3)] [(.int s0)] (mkH hi hl sw kp) :=
  lW.run (am_in stL) 12 (And.intro (h1) (And.intro (h2) (h3)))
set_option maxRecDepth 100000 in
theorem kL_18_m {x3 : Int32} {s0 : Int32} {s1 : Int32}
    (h1 : s0 = s1 → lW L xs d 1201 [some (.retAddr 5), some (.ref 0), some (.ref 279), some (.int x3)] [] (mkH hi hl sw kp))
    (h2 : ¬ (s0 = s1) → qL (some (.int (0))) (mkH hi hl sw kp))
    : lW L xs d 729 [some (.retAddr 5), some (.ref 0), some (.ref 279), some (.int x3)] [(.int s1), (.int s0)] (mkH hi hl sw kp) :=
  lW.run (am_in stL) 3 (And.intro (fun c1 => (h1 c1)) (fun c2 => (And.intro (Or.inl rfl) (h2 c2))))
set_option maxRecDepth 100000 in
theorem kL_19 {x3 : Int32}
    (h1 : vp_in (x3 + (1)) L)
    (h2 : vp_in (x3 + (2)) L)
    (h3 : vp_in (x3 + (3)) L)
    (h4 : cL d 142 [(.ref 0), (.int (xs (x3 + (1)).toNatClampNeg)), (.int (xs (x3 + (2)).toNatClampNeg)), (.int (xs (x3 + (3)).toNatClampNeg))] (mkH hi hl sw kp) (am_ret (lW L xs d) 753 [some (.retAddr 5), some (.ref 0), some (.ref 279), some (.int x3)] []))
    : lW L xs d 734 [some (.retAddr 5), some (.ref 0), some (.ref 279), some (.int x3)] [] (mkH hi hl sw kp) :=
  lW.run (am_in stL) 17 (And.intro (h1) (And.intro (h2) (And.intro (h3) (h4))))
set_option maxRecDepth 100000 in
theorem kL_19_x {x3 : Int32} {s0 : Int32}
    (h1 : vp_in (x3 + (1)) L)
    (h2 : vp_in (x3 + (2)) L)
    (h3 : vp_in (x3 + (3)) L)
    (h4 : cL d 257 [(.ref 279), (.int (xs (x3 + (1)).toNatClampNeg)), (.int (xs (x3 + (2)).toNatClampNeg)), (.int (xs (x3 + (3)).toNatClampNeg))] (mkH hi hl sw kp) (am_ret (lW L xs d) 772 [some (.retAddr 5), some (.ref 0), some (.ref 279), some (.int x3)] [(.int s0)]))
    : lW L xs d 753 [some (.retAddr 5), some (.ref 0), some (.ref 279), some (.int x3)] [(.int s0)] (mkH hi hl sw kp) :=
  lW.run (am_in stL) 17 (And.intro (h1) (And.intro (h2) (And.intro (h3) (h4))))
set_option maxRecDepth 100000 in
theorem kL_19_m {x3 : Int32} {s0 : Int32} {s1 : Int32}
    (h1 : s0 = s1 → lW L xs d 1201 [some (.retAddr 5), some (.ref 0), some (.ref 279), some (.int x3)] [] (mkH hi hl sw kp))
    (h2 : ¬ (s0 = s1) → qL (some (.int (0))) (mkH hi hl sw kp))
    : lW L xs d 772 [some (.retAddr 5), some (.ref 0), some (.ref 279), some (.int x3)] [(.int s1), (.int s0)] (mkH hi hl sw kp) :=
  lW.run (am_in stL) 3 (And.intro (fun c1 => (h1 c1)) (fun c2 => (And.intro (Or.inl rfl) (h2 c2))))
set_option maxRecDepth 100000 in
theorem kL_20 {x3 : Int32}
    (h1 : vp_in (x3 + (1)) L)
    (h2 : vp_in (x3 + (2)) L)
    (h3 : cL d 143 [(.ref 0), (.int (xs (x3 + (1)).toNatClampNeg)), (.int (xs (x3 + (2)).toNatClampNeg))] (mkH hi hl sw kp) (am_ret (lW L xs d) 791 [some (.retAddr 5), some (.ref 0), some (.ref 279), some (.int x3)] []))
    : lW L xs d 777 [some (.retAddr 5), some (.ref 0), some (.ref 279), some (.int x3)] [] (mkH hi hl sw kp) :=
  lW.run (am_in stL) 12 (And.intro (h1) (And.intro (h2) (h3)))
set_option maxRecDepth 100000 in
theorem kL_20_x {x3 : Int32} {s0 : Int32}
    (h1 : vp_in (x3 + (1)) L)
    (h2 : vp_in (x3 + (2)) L)
    (h3 : cL d 258 [(.ref 279), (.int (xs (x3 + (1)).toNatClampNeg)), (.int (xs (x3 + (2)).toNatClampNeg))] (mkH hi hl sw kp) (am_ret (lW L xs d) 805 [some (.retAddr 5), some (.ref 0), some (.ref 279), some (.int x3)] [(.int s0)]))
    : lW L xs d 791 [some (.retAddr 5), some (.ref 0), some (.ref 279), some (.int x3)] [(.int s0)] (mkH hi hl sw kp) :=
  lW.run (am_in stL) 12 (And.intro (h1) (And.intro (h2) (h3)))
set_option maxRecDepth 100000 in
theorem kL_20_m {x3 : Int32} {s0 : Int32} {s1 : Int32}
    (h1 : s0 = s1 → lW L xs d 1201 [some (.retAddr 5), some (.ref 0), some (.ref 279), some (.int x3)] [] (mkH hi hl sw kp))
    (h2 : ¬ (s0 = s1) → qL (some (.int (0))) (mkH hi hl sw kp))
    : lW L xs d 805 [some (.retAddr 5), some (.ref 0), some (.ref 279), some (.int x3)] [(.int s1), (.int s0)] (mkH hi hl sw kp) :=
  lW.run (am_in stL) 3 (And.intro (fun c1 => (h1 c1)) (fun c2 => (And.intro (Or.inl rfl) (h2 c2))))
set_option maxRecDepth 100000 in
theorem kL_21 {x3 : Int32}
    (h1 : cL d 144 [(.ref 0)] (mkH hi hl sw kp) (am_ret (lW L xs d) 814 [some (.retAddr 5), some (.ref 0), some (.ref 279), some (.int x3)] []))
    : lW L xs d 810 [some (.retAddr 5), some (.ref 0), some (.ref 279), some (.int x3)] [] (mkH hi hl sw kp) :=
  lW.run (am_in stL) 2 (h1)
set_option maxRecDepth 100000 in
theorem kL_21_x {x3 : Int32} {s0 : Int32}
    (h1 : cL d 259 [(.ref 279)] (mkH hi hl sw kp) (am_ret (lW L xs d) 818 [some (.retAddr 5), some (.ref 0), some (.ref 279), some (.int x3)] [(.int s0)]))
    : lW L xs d 814 [some (.retAddr 5), some (.ref 0), some (.ref 279), some (.int x3)] [(.int s0)] (mkH hi hl sw kp) :=
  lW.run (am_in stL) 2 (h1)
set_option maxRecDepth 100000 in
theorem kL_21_m {x3 : Int32} {s0 : Int32} {s1 : Int32}
    (h1 : s0 = s1 → lW L xs d 1201 [some (.retAddr 5), some (.ref 0), some (.ref 279), some (.int x3)] [] (mkH hi hl sw kp))
    (h2 : ¬ (s0 = s1) → qL (some (.int (0))) (mkH hi hl sw kp))
    : lW L xs d 818 [some (.retAddr 5), some (.ref 0), some (.ref 279), some (.int x3)] [(.int s1), (.int s0)] (mkH hi hl sw kp) :=
  lW.run (am_in stL) 3 (And.intro (fun c1 => (h1 c1)) (fun c2 => (And.intro (Or.inl rfl) (h2 c2))))
set_option maxRecDepth 100000 in
theorem kL_22 {x3 : Int32}
    (h1 : vp_in (x3 + (1)) L)
    (h2 : cL d 145 [(.ref 0), (.int (xs (x3 + (1)).toNatClampNeg))] (mkH hi hl sw kp) (am_ret (lW L xs d) 832 [some (.retAddr 5), some (.ref 0), some (.ref 279), some (.int x3)] []))
    : lW L xs d 823 [some (.retAddr 5), some (.ref 0), some (.ref 279), some (.int x3)] [] (mkH hi hl sw kp) :=
  lW.run (am_in stL) 7 (And.intro (h1) (h2))
set_option maxRecDepth 100000 in
theorem kL_22_x {x3 : Int32} {s0 : Int32}
    (h1 : vp_in (x3 + (1)) L)
    (h2 : cL d 261 [(.ref 279), (.int (xs (x3 + (1)).toNatClampNeg))] (mkH hi hl sw kp) (am_ret (lW L xs d) 841 [some (.retAddr 5), some (.ref 0), some (.ref 279), some (.int x3)] [(.int s0)]))
    : lW L xs d 832 [some (.retAddr 5), some (.ref 0), some (.ref 279), some (.int x3)] [(.int s0)] (mkH hi hl sw kp) :=
  lW.run (am_in stL) 7 (And.intro (h1) (h2))
set_option maxRecDepth 100000 in
theorem kL_22_m {x3 : Int32} {s0 : Int32} {s1 : Int32}
    (h1 : s0 = s1 → lW L xs d 1201 [some (.retAddr 5), some (.ref 0), some (.ref 279), some (.int x3)] [] (mkH hi hl sw kp))
    (h2 : ¬ (s0 = s1) → qL (some (.int (0))) (mkH hi hl sw kp))
    : lW L xs d 841 [some (.retAddr 5), some (.ref 0), some (.ref 279), some (.int x3)] [(.int s1), (.int s0)] (mkH hi hl sw kp) :=
  lW.run (am_in stL) 3 (And.intro (fun c1 => (h1 c1)) (fun c2 => (And.intro (Or.inl rfl) (h2 c2))))
set_option maxRecDepth 100000 in
theorem kL_23 {x3 : Int32}
    (h1 : vp_in (x3 + (1)) L)
    (h2 : cL d 146 [(.ref 0), (.int (xs (x3 + (1)).toNatClampNeg))] (mkH hi hl sw kp) (am_ret (lW L xs d) 855 [some (.retAddr 5), some (.ref 0), some (.ref 279), some (.int x3)] []))
    : lW L xs d 846 [some (.retAddr 5), some (.ref 0), some (.ref 279), some (.int x3)] [] (mkH hi hl sw kp) :=
  lW.run (am_in stL) 7 (And.intro (h1) (h2))
set_option maxRecDepth 100000 in
theorem kL_23_x {x3 : Int32} {s0 : Int32}
    (h1 : vp_in (x3 + (1)) L)
    (h2 : cL d 263 [(.ref 279), (.int (xs (x3 + (1)).toNatClampNeg))] (mkH hi hl sw kp) (am_ret (lW L xs d) 864 [some (.retAddr 5), some (.ref 0), some (.ref 279), some (.int x3)] [(.int s0)]))
    : lW L xs d 855 [some (.retAddr 5), some (.ref 0), some (.ref 279), some (.int x3)] [(.int s0)] (mkH hi hl sw kp) :=
  lW.run (am_in stL) 7 (And.intro (h1) (h2))
set_option maxRecDepth 100000 in
theorem kL_23_m {x3 : Int32} {s0 : Int32} {s1 : Int32}
    (h1 : s0 = s1 → lW L xs d 1201 [some (.retAddr 5), some (.ref 0), some (.ref 279), some (.int x3)] [] (mkH hi hl sw kp))
    (h2 : ¬ (s0 = s1) → qL (some (.int (0))) (mkH hi hl sw kp))
    : lW L xs d 864 [some (.retAddr 5), some (.ref 0), some (.ref 279), some (.int x3)] [(.int s1), (.int s0)] (mkH hi hl sw kp) :=
  lW.run (am_in stL) 3 (And.intro (fun c1 => (h1 c1)) (fun c2 => (And.intro (Or.inl rfl) (h2 c2))))
set_option maxRecDepth 100000 in
theorem kL_24 {x3 : Int32}
    (h1 : vp_in (x3 + (1)) L)
    (h2 : cL d 147 [(.ref 0), (.int (xs (x3 + (1)).toNatClampNeg))] (mkH hi hl sw kp) (am_ret (lW L xs d) 878 [some (.retAddr 5), some (.ref 0), some (.ref 279), some (.int x3)] []))
    : lW L xs d 869 [some (.retAddr 5), some (.ref 0), some (.ref 279), some (.int x3)] [] (mkH hi hl sw kp) :=
  lW.run (am_in stL) 7 (And.intro (h1) (h2))
set_option maxRecDepth 100000 in
theorem kL_24_x {x3 : Int32} {s0 : Int32}
    (h1 : vp_in (x3 + (1)) L)
    (h2 : cL d 264 [(.ref 279), (.int (xs (x3 + (1)).toNatClampNeg))] (mkH hi hl sw kp) (am_ret (lW L xs d) 887 [some (.retAddr 5), some (.ref 0), some (.ref 279), some (.int x3)] [(.int s0)]))
    : lW L xs d 878 [some (.retAddr 5), some (.ref 0), some (.ref 279), some (.int x3)] [(.int s0)] (mkH hi hl sw kp) :=
  lW.run (am_in stL) 7 (And.intro (h1) (h2))
set_option maxRecDepth 100000 in
theorem kL_24_m {x3 : Int32} {s0 : Int32} {s1 : Int32}
    (h1 : s0 = s1 → lW L xs d 1201 [some (.retAddr 5), some (.ref 0), some (.ref 279), some (.int x3)] [] (mkH hi hl sw kp))
    (h2 : ¬ (s0 = s1) → qL (some (.int (0))) (mkH hi hl sw kp))
    : lW L xs d 887 [some (.retAddr 5), some (.ref 0), some (.ref 279), some (.int x3)] [(.int s1), (.int s0)] (mkH hi hl sw kp) :=
  lW.run (am_in stL) 3 (And.intro (fun c1 => (h1 c1)) (fun c2 => (And.intro (Or.inl rfl) (h2 c2))))
set_option maxRecDepth 100000 in
theorem kL_25 {x3 : Int32}
    (h1 : vp_in (x3 + (1)) L)
    (h2 : vp_in (x3 + (2)) L)
    (h3 : vp_in (x3 + (3)) L)
    (h4 : vp_in (x3 + (4)) L)
    (h5 : vp_in (x3 + (5)) L)
    (h6 : vp_in (x3 + (6)) L)
    (h7 : cL d 148 [(.ref 0), (.int (xs (x3 + (1)).toNatClampNeg)), (.int (xs (x3 + (2)).toNatClampNeg)), (.int (xs (x3 + (3)).toNatClampNeg)), (.int (xs (x3 + (4)).toNatClampNeg)), (.int (xs (x3 + (5)).toNatClampNeg)), (.int (xs (x3 + (6)).toNatClampNeg))] (mkH hi hl sw kp) (am_ret (lW L xs d) 927 [some (.retAddr 5), some (.ref 0), some (.ref 279), some (.int x3)] []))
    : lW L xs d 892 [some (.retAddr 5), some (.ref 0), some (.ref 279), some (.int x3)] [] (mkH hi hl sw kp) :=
  lW.run (am_in stL) 32 (And.intro (h1) (And.intro (h2) (And.intro (h3) (And.intro (h4) (And.intro (h5) (And.intro (h6) (h7)))))))
set_option maxRecDepth 100000 in
theorem kL_25_x {x3 : Int32} {s0 : Int32}
    (h1 : vp_in (x3 + (1)) L)
    (h2 : vp_in (x3 + (2)) L)
    (h3 : vp_in (x3 + (3)) L)
    (h4 : vp_in (x3 + (4)) L)
    (h5 : vp_in (x3 + (5)) L)
    (h6 : vp_in (x3 + (6)) L)
    (h7 : cL d 265 [(.ref 279), (.int (xs (x3 + (1)).toNatClampNeg)), (.int (xs (x3 + (2)).toNatClampNeg)), (.int (xs (x3 + (3)).toNatClampNeg)), (.int (xs (x3 + (4)).toNatClampNeg)), (.int (xs (x3 + (5)).toNatClampNeg)), (.int (xs (x3 + (6)).toNatClampNeg))] (mkH hi hl sw kp) (am_ret (lW L xs d) 962 [some (.retAddr 5), some (.ref 0), some (.ref 279), some (.int x3)] [(.int s0)]))
    : lW L xs d 927 [some (.retAddr 5), some (.ref 0), some (.ref 279), some (.int x3)] [(.int s0)] (mkH hi hl sw kp) :=
  lW.run (am_in stL) 32 (And.intro (h1) (And.intro (h2) (And.intro (h3) (And.intro (h4) (And.intro (h5) (And.intro (h6) (h7)))))))
set_option maxRecDepth 100000 in
theorem kL_25_m {x3 : Int32} {s0 : Int32} {s1 : Int32}
    (h1 : s0 = s1 → lW L xs d 1201 [some (.retAddr 5), some (.ref 0), some (.ref 279), some (.int x3)] [] (mkH hi hl sw kp))
    (h2 : ¬ (s0 = s1) → qL (some (.int (0))) (mkH hi hl sw kp))
    : lW L xs d 962 [some (.retAddr 5), some (.ref 0), some (.ref 279), some (.int x3)] [(.int s1), (.int s0)] (mkH hi hl sw kp) :=
  lW.run (am_in stL) 3 (And.intro (fun c1 => (h1 c1)) (fun c2 => (And.intro (Or.inl rfl) (h2 c2))))
set_option maxRecDepth 100000 in
theorem kL_26 {x3 : Int32}
    (h1 : vp_in (x3 + (1)) L)
    (h2 : cL d 149 [(.ref 0), (.int (xs (x3 + (1)).toNatClampNeg))] (mkH hi hl sw kp) (am_ret (lW L xs d) 976 [some (.retAddr 5), some (.ref 0), some (.ref 279), some (.int x3)] []))
    : lW L xs d 967 [some (.retAddr 5), some (.ref 0), some (.ref 279), some (.int x3)] [] (mkH hi hl sw kp) :=
  lW.run (am_in stL) 7 (And.intro (h1) (h2))
set_option maxRecDepth 100000 in
theorem kL_26_x {x3 : Int32} {s0 : Int32}
    (h1 : vp_in (x3 + (1)) L)
    (h2 : cL d 266 [(.ref 279), (.int (xs (x3 + (1)).toNatClampNeg))] (mkH hi hl sw kp) (am_ret (lW L xs d) 985 [some (.retAddr 5), some (.ref 0), some (.ref 279), some (.int x3)] [(.int s0)]))
    : lW L xs d 976 [some (.retAddr 5), some (.ref 0), some (.ref 279), some (.int x3)] [(.int s0)] (mkH hi hl sw kp) :=
  lW.run (am_in stL) 7 (And.intro (h1) (h2))
set_option maxRecDepth 100000 in
theorem kL_26_m {x3 : Int32} {s0 : Int32} {s1 : Int32}
    (h1 : s0 = s1 → lW L xs d 1201 [some (.retAddr 5), some (.ref 0), some (.ref 279), some (.int x3)] [] (mkH hi hl sw kp))
    (h2 : ¬ (s0 = s1) → qL (some (.int (0))) (mkH hi hl sw kp))
    : lW L xs d 985 [some (.retAddr 5), some (.ref 0), some (.ref 279), some (.int x3)] [(.int s1), (.int s0)] (mkH hi hl sw kp) :=
  lW.run (am_in stL) 3 (And.intro (fun c1 => (h1 c1)) (fun c2 => (And.intro (Or.inl rfl) (h2 c2))))
set_option maxRecDepth 100000 in
theorem kL_27 {x3 : Int32}
    (h1 : vp_in (x3 + (1)) L)
    (h2 : cL d 150 [(.ref 0), (.int (xs (x3 + (1)).toNatClampNeg))] (mkH hi hl sw kp) (am_ret (lW L xs d) 999 [some (.retAddr 5), some (.ref 0), some (.ref 279), some (.int x3)] []))
    : lW L xs d 990 [some (.retAddr 5), some (.ref 0), some (.ref 279), some (.int x3)] [] (mkH hi hl sw kp) :=
  lW.run (am_in stL) 7 (And.intro (h1) (h2))
set_option maxRecDepth 100000 in
theorem kL_27_x {x3 : Int32} {s0 : Int32}
    (h1 : vp_in (x3 + (1)) L)
    (h2 : cL d 267 [(.ref 279), (.int (xs (x3 + (1)).toNatClampNeg))] (mkH hi hl sw kp) (am_ret (lW L xs d) 1008 [some (.retAddr 5), some (.ref 0), some (.ref 279), some (.int x3)] [(.int s0)]))
    : lW L xs d 999 [some (.retAddr 5), some (.ref 0), some (.ref 279), some (.int x3)] [(.int s0)] (mkH hi hl sw kp) :=
  lW.run (am_in stL) 7 (And.intro (h1) (h2))
set_option maxRecDepth 100000 in
theorem kL_27_m {x3 : Int32} {s0 : Int32} {s1 : Int32}
    (h1 : s0 = s1 → lW L xs d 1201 [some (.retAddr 5), some (.ref 0), some (.ref 279), some (.int x3)] [] (mkH hi hl sw kp))
    (h2 : ¬ (s0 = s1) → qL (some (.int (0))) (mkH hi hl sw kp))
    : lW L xs d 1008 [some (.retAddr 5), some (.ref 0), some (.ref 279), some (.int x3)] [(.int s1), (.int s0)] (mkH hi hl sw kp) :=
  lW.run (am_in stL) 3 (And.intro (fun c1 => (h1 c1)) (fun c2 => (And.intro (Or.inl rfl) (h2 c2))))
set_option maxRecDepth 100000 in
theorem kL_28 {x3 : Int32}
    (h1 : vp_in (x3 + (1)) L)
    (h2 : vp_in (x3 + (2)) L)
    (h3 : cL d 151 [(.ref 0), (.int (xs (x3 + (1)).toNatClampNeg)), (.int (xs (x3 + (2)).toNatClampNeg))] (mkH hi hl sw kp) (am_ret (lW L xs d) 1027 [some (.retAddr 5), some (.ref 0), some (.ref 279), some (.int x3)] []))
    : lW L xs d 1013 [some (.retAddr 5), some (.ref 0), some (.ref 279), some (.int x3)] [] (mkH hi hl sw kp) :=
  lW.run (am_in stL) 12 (And.intro (h1) (And.intro (h2) (h3)))
set_option maxRecDepth 100000 in
theorem kL_28_x {x3 : Int32} {s0 : Int32}
    (h1 : vp_in (x3 + (1)) L)
    (h2 : vp_in (x3 + (2)) L)
    (h3 : cL d 270 [(.ref 279), (.int (xs (x3 + (1)).toNatClampNeg)), (.int (xs (x3 + (2)).toNatClampNeg))] (mkH hi hl sw kp) (am_ret (lW L xs d) 1041 [some (.retAddr 5), some (.ref 0), some (.ref 279), some (.int x3)] [(.int s0)]))
    : lW L xs d 1027 [some (.retAddr 5), some (.ref 0), some (.ref 279), some (.int x3)] [(.int s0)] (mkH hi hl sw kp) :=
  lW.run (am_in stL) 12 (And.intro (h1) (And.intro (h2) (h3)))
set_option maxRecDepth 100000 in
theorem kL_28_m {x3 : Int32} {s0 : Int32} {s1 : Int32}
    (h1 : s0 = s1 → lW L xs d 1201 [some (.retAddr 5), some (.ref 0), some (.ref 279), some (.int x3)] [] (mkH hi hl sw kp))
    (h2 : ¬ (s0 = s1) → qL (some (.int (0))) (mkH hi hl sw kp))
    : lW L xs d 1041 [some (.retAddr 5), some (.ref 0), some (.ref 279), some (.int x3)] [(.int s1), (.int s0)] (mkH hi hl sw kp) :=
  lW.run (am_in stL) 3 (And.intro (fun c1 => (h1 c1)) (fun c2 => (And.intro (Or.inl rfl) (h2 c2))))
set_option maxRecDepth 100000 in
theorem kL_29 {x3 : Int32}
    (h1 : vp_in (x3 + (1)) L)
    (h2 : vp_in (x3 + (2)) L)
    (h3 : vp_in (x3 + (3)) L)
    (h4 : cL d 152 [(.ref 0), (.int (xs (x3 + (1)).toNatClampNeg)), (.int (xs (x3 + (2)).toNatClampNeg)), (.int (xs (x3 + (3)).toNatClampNeg))] (mkH hi hl sw kp) (am_ret (lW L xs d) 1065 [some (.retAddr 5), some (.ref 0), some (.ref 279), some (.int x3)] []))
    : lW L xs d 1046 [some (.retAddr 5), some (.ref 0), some (.ref 279), some (.int x3)] [] (mkH hi hl sw kp) :=
  lW.run (am_in stL) 17 (And.intro (h1) (And.intro (h2) (And.intro (h3) (h4))))
set_option maxRecDepth 100000 in
theorem kL_29_x {x3 : Int32} {s0 : Int32}
    (h1 : vp_in (x3 + (1)) L)
    (h2 : vp_in (x3 + (2)) L)
    (h3 : vp_in (x3 + (3)) L)
    (h4 : cL d 271 [(.ref 279), (.int (xs (x3 + (1)).toNatClampNeg)), (.int (xs (x3 + (2)).toNatClampNeg)), (.int (xs (x3 + (3)).toNatClampNeg))] (mkH hi hl sw kp) (am_ret (lW L xs d) 1084 [some (.retAddr 5), some (.ref 0), some (.ref 279), some (.int x3)] [(.int s0)]))
    : lW L xs d 1065 [some (.retAddr 5), some (.ref 0), some (.ref 279), some (.int x3)] [(.int s0)] (mkH hi hl sw kp) :=
  lW.run (am_in stL) 17 (And.intro (h1) (And.intro (h2) (And.intro (h3) (h4))))
set_option maxRecDepth 100000 in
theorem kL_29_m {x3 : Int32} {s0 : Int32} {s1 : Int32}
    (h1 : s0 = s1 → lW L xs d 1201 [some (.retAddr 5), some (.ref 0), some (.ref 279), some (.int x3)] [] (mkH hi hl sw kp))
    (h2 : ¬ (s0 = s1) → qL (some (.int (0))) (mkH hi hl sw kp))
    : lW L xs d 1084 [some (.retAddr 5), some (.ref 0), some (.ref 279), some (.int x3)] [(.int s1), (.int s0)] (mkH hi hl sw kp) :=
  lW.run (am_in stL) 3 (And.intro (fun c1 => (h1 c1)) (fun c2 => (And.intro (Or.inl rfl) (h2 c2))))
set_option maxRecDepth 100000 in
theorem kL_30 {x3 : Int32}
    (h1 : vp_in (x3 + (1)) L)
    (h2 : vp_in (x3 + (2)) L)
    (h3 : vp_in (x3 + (3)) L)
    (h4 : cL d 153 [(.ref 0), (.int (xs (x3 + (1)).toNatClampNeg)), (.int (xs (x3 + (2)).toNatClampNeg)), (.int (xs (x3 + (3)).toNatClampNeg))] (mkH hi hl sw kp) (am_ret (lW L xs d) 1108 [some (.retAddr 5), some (.ref 0), some (.ref 279), some (.int x3)] []))
    : lW L xs d 1089 [some (.retAddr 5), some (.ref 0), some (.ref 279), some (.int x3)] [] (mkH hi hl sw kp) :=
  lW.run (am_in stL) 17 (And.intro (h1) (And.intro (h2) (And.intro (h3) (h4))))
set_option maxRecDepth 100000 in
theorem kL_30_x {x3 : Int32} {s0 : Int32}
    (h1 : vp_in (x3 + (1)) L)
    (h2 : vp_in (x3 + (2)) L)
    (h3 : vp_in (x3 + (3)) L)
    (h4 : cL d 273 [(.ref 279), (.int (xs (x3 + (1)).toNatClampNeg)), (.int (xs (x3 + (2)).toNatClampNeg)), (.int (xs (x3 + (3)).toNatClampNeg))] (mkH hi hl sw kp) (am_ret (lW L xs d) 1127 [some (.retAddr 5), some (.ref 0), some (.ref 279), some (.int x3)] [(.int s0)]))
    : lW L xs d 1108 [some (.retAddr 5), some (.ref 0), some (.ref 279), some (.int x3)] [(.int s0)] (mkH hi hl sw kp) :=
  lW.run (am_in stL) 17 (And.intro (h1) (And.intro (h2) (And.intro (h3) (h4))))
set_option maxRecDepth 100000 in
theorem kL_30_m {x3 : Int32} {s0 : Int32} {s1 : Int32}
    (h1 : s0 = s1 → lW L xs d 1201 [some (.retAddr 5), some (.ref 0), some (.ref 279), some (.int x3)] [] (mkH hi hl sw kp))
    (h2 : ¬ (s0 = s1) → qL (some (.int (0))) (mkH hi hl sw kp))
    : lW L xs d 1127 [some (.retAddr 5), some (.ref 0), some (.ref 279), some (.int x3)] [(.int s1), (.int s0)] (mkH hi hl sw kp) :=
  lW.run (am_in stL) 3 (And.intro (fun c1 => (h1 c1)) (fun c2 => (And.intro (Or.inl rfl) (h2 c2))))
set_option maxRecDepth 100000 in
theorem kL_31 {x3 : Int32}
    (h1 : vp_in (x3 + (1)) L)
    (h2 : cL d 154 [(.ref 0), (.int (xs (x3 + (1)).toNatClampNeg))] (mkH hi hl sw kp) (am_ret (lW L xs d) 1141 [some (.retAddr 5), some (.ref 0), some (.ref 279), some (.int x3)] []))
    : lW L xs d 1132 [some (.retAddr 5), some (.ref 0), some (.ref 279), some (.int x3)] [] (mkH hi hl sw kp) :=
  lW.run (am_in stL) 7 (And.intro (h1) (h2))
set_option maxRecDepth 100000 in
theorem kL_31_x {x3 : Int32} {s0 : Int32}
    (h1 : vp_in (x3 + (1)) L)
    (h2 : cL d 275 [(.ref 279), (.int (xs (x3 + (1)).toNatClampNeg))] (mkH hi hl sw kp) (am_ret (lW L xs d) 1150 [some (.retAddr 5), some (.ref 0), some (.ref 279), some (.int x3)] [(.int s0)]))
    : lW L xs d 1141 [some (.retAddr 5), some (.ref 0), some (.ref 279), some (.int x3)] [(.int s0)] (mkH hi hl sw kp) :=
  lW.run (am_in stL) 7 (And.intro (h1) (h2))
set_option maxRecDepth 100000 in
theorem kL_31_m {x3 : Int32} {s0 : Int32} {s1 : Int32}
    (h1 : s0 = s1 → lW L xs d 1201 [some (.retAddr 5), some (.ref 0), some (.ref 279), some (.int x3)] [] (mkH hi hl sw kp))
    (h2 : ¬ (s0 = s1) → qL (some (.int (0))) (mkH hi hl sw kp))
    : lW L xs d 1150 [some (.retAddr 5), some (.ref 0), some (.ref 279), some (.int x3)] [(.int s1), (.int s0)] (mkH hi hl sw kp) :=
  lW.run (am_in stL) 3 (And.intro (fun c1 => (h1 c1)) (fun c2 => (And.intro (Or.inl rfl) (h2 c2))))
set_option maxRecDepth 100000 in
theorem kL_32 {x3 : Int32}
    (h1 : vp_in (x3 + (1)) L)
    (h2 : cL d 155 [(.ref 0), (.int (xs (x3 + (1)).toNatClampNeg))] (mkH hi hl sw kp) (am_ret (lW L xs d) 1164 [some (.retAddr 5), some (.ref 0), some (.ref 279), some (.int x3)] []))
    : lW L xs d 1155 [some (.retAddr 5), some (.ref 0), some (.ref 279), some (.int x3)] [] (mkH hi hl sw kp) :=
  lW.run (am_in stL) 7 (And.intro (h1) (h2))
set_option maxRecDepth 100000 in
theorem kL_32_x {x3 : Int32} {s0 : Int32}
    (h1 : vp_in (x3 + (1)) L)
    (h2 : cL d 276 [(.ref 279), (.int (xs (x3 + (1)).toNatClampNeg))] (mkH hi hl sw kp) (am_ret (lW L xs d) 1173 [some (.retAddr 5), some (.ref 0), some (.ref 279), some (.int x3)] [(.int s0)]))
    : lW L xs d 1164 [some (.retAddr 5), some (.ref 0), some (.ref 279), some (.int x3)] [(.int s0)] (mkH hi hl sw kp) :=
  lW.run (am_in stL) 7 (And.intro (h1) (h2))
set_option maxRecDepth 100000 in
theorem kL_32_m {x3 : Int32} {s0 : Int32} {s1 : Int32}
    (h1 : s0 = s1 → lW L xs d 1201 [some (.retAddr 5), some (.ref 0), some (.ref 279), some (.int x3)] [] (mkH hi hl sw kp))
    (h2 : ¬ (s0 = s1) → qL (some (.int (0))) (mkH hi hl sw kp))
    : lW L xs d 1173 [some (.retAddr 5), some (.ref 0), some (.ref 279), some (.int x3)] [(.int s1), (.int s0)] (mkH hi hl sw kp) :=
  lW.run (am_in stL) 3 (And.intro (fun c1 => (h1 c1)) (fun c2 => (And.intro (Or.inl rfl) (h2 c2))))
set_option maxRecDepth 100000 in
theorem kL_33 {x3 : Int32}
    (h1 : vp_in (x3 + (1)) L)
    (h2 : cL d 156 [(.ref 0), (.int (xs (x3 + (1)).toNatClampNeg))] (mkH hi hl sw kp) (am_ret (lW L xs d) 1187 [some (.retAddr 5), some (.ref 0), some (.ref 279), some (.int x3)] []))
    : lW L xs d 1178 [some (.retAddr 5), some (.ref 0), some (.ref 279), some (.int x3)] [] (mkH hi hl sw kp) :=
  lW.run (am_in stL) 7 (And.intro (h1) (h2))
set_option maxRecDepth 100000 in
theorem kL_33_x {x3 : Int32} {s0 : Int32}
    (h1 : vp_in (x3 + (1)) L)
    (h2 : cL d 278 [(.ref 279), (.int (xs (x3 + (1)).toNatClampNeg))] (mkH hi hl sw kp) (am_ret (lW L xs d) 1196 [some (.retAddr 5), some (.ref 0), some (.ref 279), some (.int x3)] [(.int s0)]))
    : lW L xs d 1187 [some (.retAddr 5), some (.ref 0), some (.ref 279), some (.int x3)] [(.int s0)] (mkH hi hl sw kp) :=
  lW.run (am_in stL) 7 (And.intro (h1) (h2))
set_option maxRecDepth 100000 in
theorem kL_33_m {x3 : Int32} {s0 : Int32} {s1 : Int32}
    (h1 : s0 = s1 → lW L xs d 1201 [some (.retAddr 5), some (.ref 0), some (.ref 279), some (.int x3)] [] (mkH hi hl sw kp))
    (h2 : ¬ (s0 = s1) → qL (some (.int (0))) (mkH hi hl sw kp))
    : lW L xs d 1196 [some (.retAddr 5), some (.ref 0), some (.ref 279), some (.int x3)] [(.int s1), (.int s0)] (mkH hi hl sw kp) :=
  lW.run (am_in stL) 3 (And.intro (fun c1 => (h1 c1)) (fun c2 => (And.intro (Or.inl rfl) (h2 c2))))
end LAWBLK
