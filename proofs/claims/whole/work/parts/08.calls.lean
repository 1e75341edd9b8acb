/-! ===== steps: calls, answers; the machine's methods meet what the abstract ones do ===== -/
theorem am_pl1 : plainName "java/util/Arrays" = true := by decide +kernel
theorem am_pl2 : plainName "java/lang/Integer" = true := by decide +kernel
theorem am_pl3 : plainName "java/lang/String" = true := by decide +kernel
theorem am_pl4 : plainName "java/lang/StringLatin1" = true := by decide +kernel
def am_pop : Nat → List Value → List Value → Option (List Value × List Value)
  | 0, st, acc => some (acc, st)
  | n + 1, v :: st, acc => am_pop n st (v :: acc)
  | _ + 1, [], _ => none
theorem am_pop_ok : ∀ {n : Nat} {st acc As rest : List Value}, am_pop n st acc = some (As, rest) → ∃ P : List Value, As = P ++ acc ∧ P.length = n ∧ st = P.reverse ++ rest
  | 0, st, acc, As, rest, h => by
    cases h
    exact ⟨[], rfl, rfl, rfl⟩
  | n + 1, v :: st, acc, As, rest, h => by
    obtain ⟨P, h1, h2, h3⟩ := am_pop_ok (n := n) h
    exact ⟨P ++ [v], by simp [h1], by simp [h2], by simp [h3]⟩
  | n + 1, [], acc, As, rest, h => by cases h
def am_cs : List Value → Nat
  | [] => 0
  | v :: l => (match v with
    | .long _ => 2
    | .double _ => 2
    | _ => 1) + am_cs l
theorem am_cs_ok {b0 : Nat} {ro : Nat → Nat} : ∀ (l : List Value), ((l.map (am_con b0 ro)).map fun v => v.category).sum = am_cs l
  | [] => rfl
  | v :: l => by
    simp only [List.map_cons, List.sum_cons, am_cs_ok l, am_cs, am_cat]
    cases v <;> rfl
def am_ret (K : am_K) (nx : Nat) (ls : am_Ls) (rest : List Value) : am_Q := fun r h' => match r with
  | some v => K nx ls (v :: rest) h'
  | none => K nx ls rest h'
def tm_callV (nx mi' ci np : Nat) : am_T := fun _ K C _ ls st h => match am_pop np st [] with
  | some (As, .ref a :: rest) => bif am_is h a ci && Nat.ble (am_cs rest) 8 then C mi' (.ref a :: As) h (am_ret K nx ls rest) else False
  | _ => False
def tm_callI (nx mi' np : Nat) : am_T := fun _ K C _ ls st h => match am_pop np st [] with
  | some (As, .ref a :: rest) => bif Nat.ble (am_cs rest) 8 then C mi' (.ref a :: As) h (am_ret K nx ls rest) else False
  | _ => False
def tm_callS (nx mi' np : Nat) : am_T := fun _ K C _ ls st h => match am_pop np st [] with
  | some (As, rest) => bif Nat.ble (am_cs rest) 8 then C mi' As h (am_ret K nx ls rest) else False
  | _ => False
def tm_obj (nx : Nat) : am_T := fun _ K _ _ ls st h => match st with
  | .ref _ :: rest => bif Nat.ble (am_cs rest) 8 then K nx ls rest h else False
  | _ => False
def tm_cpy (nx : Nat) : am_T := fun _ K _ _ ls st h => match st with
  | .int n :: .int dp :: .ref a :: .int sp :: .ref a0 :: rest => bif am_is h a 100 && am_is h a0 100 && Nat.ble (am_cs rest) 8 then (¬ sp < 0 ∧ ¬ dp < 0 ∧ ¬ n < 0 ∧ sp.toNatClampNeg + n.toNatClampNeg ≤ (hS h a0).2 ∧ dp.toNatClampNeg + n.toNatClampNeg ≤ (hS h a).2) ∧ K nx ls rest (sI h (uR (hI h) a (va_cpy (hI h a0) (hI h a) sp.toNatClampNeg dp.toNatClampNeg n.toNatClampNeg))) else False
  | _ => False
def tm_max (nx : Nat) : am_T := fun B K _ _ ls st h => match st with
  | .int y :: .int x :: rest => bif Nat.ble (hN h) B.1 && Nat.ble (hZ h) B.2 && Nat.ble (am_cs rest) 8 then K nx ls (.int (if x < y then y else x) :: rest) h else False
  | _ => False
def tm_min (nx : Nat) : am_T := fun B K _ _ ls st h => match st with
  | .int y :: .int x :: rest => bif Nat.ble (hN h) B.1 && Nat.ble (hZ h) B.2 && Nat.ble (am_cs rest) 8 then K nx ls (.int (if y < x then y else x) :: rest) h else False
  | _ => False
def tm_iret : am_T := fun _ _ _ Q _ st h => match st with
  | [.int x] => Q (some (.int x)) h
  | _ => False
def tm_zret : am_T := fun _ _ _ Q _ st h => match st with
  | [.int x] => (x = 0 ∨ x = 1) ∧ Q (some (.int x)) h
  | _ => False
def tm_lret : am_T := fun _ _ _ Q _ st h => match st with
  | [.long x] => Q (some (.long x)) h
  | _ => False
def tm_vret : am_T := fun _ _ _ Q _ st h => match st with
  | [] => Q none h
  | _ => False
/-- what is known of a method's head: its words, its locals, its arguments -/
def am_hd (pr : am_P) (mi np : Nat) : Prop := Cond.code (pr mi).1 (pr mi).2.1 (pr mi).2.2.1 (pr mi).2.2.2.1 ∈ tblG ∧ Cond.initialized (pr mi).1.cls ∈ tblG ∧ ((pr mi).1.cls ≠ "java/lang/invoke/MethodHandle" ∧ (pr mi).1.cls ≠ "java/lang/invoke/VarHandle") ∧ (pr mi).2.2.1 ≤ 41 ∧ (parseMethodDescriptor (pr mi).1.desc).map (fun d => d.parameters.length) = some np
section CALLS
variable {pr : am_P} {mi pc : Nat}
theorem ns_iret (hr : (pr mi).2.2.2.1 = some .int) (hd : decode (pr mi).2.1 pc = .ok (.ireturn, 1)) : am_Snd pr mi pc tm_iret := by
  intro b0 ro ca D p l e R s m args below meth c Qm n0 z0 d B K C Q cx hB HK HC HQ ls st h x
  unfold tm_iret at x
  split at x
  · exact HQ _ _ pc ls x (by rw [hr]; trivial) hd
  · exact x.elim
theorem ns_zret (hr : (pr mi).2.2.2.1 = some .boolean) (hd : decode (pr mi).2.1 pc = .ok (.ireturn, 1)) : am_Snd pr mi pc tm_zret := by
  intro b0 ro ca D p l e R s m args below meth c Qm n0 z0 d B K C Q cx hB HK HC HQ ls st h x
  unfold tm_zret at x
  split at x
  · exact HQ _ _ pc ls x.2 (by rw [hr]; rcases x.1 with q | q <;> rw [q] <;> rfl) hd
  · exact x.elim
theorem ns_lret (hr : (pr mi).2.2.2.1 = some .long) (hd : decode (pr mi).2.1 pc = .ok (.lreturn, 1)) : am_Snd pr mi pc tm_lret := by
  intro b0 ro ca D p l e R s m args below meth c Qm n0 z0 d B K C Q cx hB HK HC HQ ls st h x
  unfold tm_lret at x
  split at x
  · exact HQ _ _ pc ls x (by rw [hr]; trivial) hd
  · exact x.elim
theorem ns_vret (hr : (pr mi).2.2.2.1 = none) (hd : decode (pr mi).2.1 pc = .ok (.return_, 1)) : am_Snd pr mi pc tm_vret := by
  intro b0 ro ca D p l e R s m args below meth c Qm n0 z0 d B K C Q cx hB HK HC HQ ls st h x
  unfold tm_vret at x
  split at x
  · exact HQ _ _ pc ls x (by rw [hr]; trivial) hd
  · exact x.elim
theorem ns_max {index : Nat} (hl : Cond.methodLink (pr mi).1.cls index Lib.Math.max.name ∈ tblG) (hs : Cond.static Lib.Math.max.name ∈ tblG) (hi : Cond.initialized "java/lang/Math" ∈ tblG) (hc : Cond.code Lib.Math.max.name Lib.Math.max.code 2 (some .int) ∈ tblG) (hd : decode (pr mi).2.1 pc = .ok (.invokestatic index, 3)) : am_Snd pr mi pc (tm_max (pc + 3)) := by
  intro b0 ro ca D p l e R s m args below meth c Qm n0 z0 d B K C Q cx hB HK HC HQ ls st h x H locs LS rR rS rL rn rz
  unfold tm_max at x
  split at x
  · rename_i y x0 rest
    obtain ⟨x1, x2⟩ := am_bif x
    simp only [Bool.and_eq_true] at x1
    have y1 := Nat.le_of_ble_eq_true x1.1.1
    have y2 := Nat.le_of_ble_eq_true x1.1.2
    have x1 := Nat.le_of_ble_eq_true x1.2
    exact va_mmax cx.1 cx.2.1 rL.1.symm cx.2.2.1 (cx.2.2.2.1 _ hl) (cx.2.2.2.1 _ hs) (cx.2.2.2.1 _ hi) (cx.2.2.2.1 _ hc) (by omega) (by rw [am_cs_ok]; omega) (by omega) (by omega) hd (HK _ _ _ _ x2 H locs LS rR rS rL rn rz)
  · exact x.elim
theorem ns_min {index : Nat} (hl : Cond.methodLink (pr mi).1.cls index Lib.Math.min.name ∈ tblG) (hs : Cond.static Lib.Math.min.name ∈ tblG) (hi : Cond.initialized "java/lang/Math" ∈ tblG) (hc : Cond.code Lib.Math.min.name Lib.Math.min.code 2 (some .int) ∈ tblG) (hd : decode (pr mi).2.1 pc = .ok (.invokestatic index, 3)) : am_Snd pr mi pc (tm_min (pc + 3)) := by
  intro b0 ro ca D p l e R s m args below meth c Qm n0 z0 d B K C Q cx hB HK HC HQ ls st h x H locs LS rR rS rL rn rz
  unfold tm_min at x
  split at x
  · rename_i y x0 rest
    obtain ⟨x1, x2⟩ := am_bif x
    simp only [Bool.and_eq_true] at x1
    have y1 := Nat.le_of_ble_eq_true x1.1.1
    have y2 := Nat.le_of_ble_eq_true x1.1.2
    have x1 := Nat.le_of_ble_eq_true x1.2
    exact va_mmin cx.1 cx.2.1 rL.1.symm cx.2.2.1 (cx.2.2.2.1 _ hl) (cx.2.2.2.1 _ hs) (cx.2.2.2.1 _ hi) (cx.2.2.2.1 _ hc) (by omega) (by rw [am_cs_ok]; omega) (by omega) (by omega) hd (HK _ _ _ _ x2 H locs LS rR rS rL rn rz)
  · exact x.elim
theorem ns_obj {index : Nat} (hl : Cond.methodLink (pr mi).1.cls index objectInit ∈ tblG) (hi : Cond.instanceMethod objectInit ∈ tblG) (hc : Cond.code objectInit ⟨#[0xb1]⟩ 1 none ∈ tblG) (hd : decode (pr mi).2.1 pc = .ok (.invokespecial index, 3)) : am_Snd pr mi pc (tm_obj (pc + 3)) := by
  intro b0 ro ca D p l e R s m args below meth c Qm n0 z0 d B K C Q cx hB HK HC HQ ls st h x H locs LS rR rS rL rn rz
  unfold tm_obj at x
  split at x
  · rename_i a rest
    obtain ⟨x1, x2⟩ := am_bif x
    have x1 := Nat.le_of_ble_eq_true x1
    refine W.objInit cx.1 cx.2.1 cx.2.2.1 (cx.2.2.2.1 _ hl) (cx.2.2.2.1 _ hi) (cx.2.2.2.1 _ hc) rfl rL.1 rfl hd (by omega) ?_ (HK _ _ _ _ x2 H locs LS rR rS rL rn rz)
    show 2 * 0 + ((rest.map (am_con b0 ro)).map fun v => v.category).sum + 12 ≤ R.locals
    rw [am_cs_ok]
    omega
  · exact x.elim
theorem ns_cpy {index : Nat} (hl : Cond.methodLink (pr mi).1.cls index arraycopyName ∈ tblG) (hn : Cond.native arraycopyName ∈ tblG) (hs : Cond.static arraycopyName ∈ tblG) (hi : Cond.initialized "java/lang/System" ∈ tblG) (hd : decode (pr mi).2.1 pc = .ok (.invokestatic index, 3)) : am_Snd pr mi pc (tm_cpy (pc + 3)) := by
  intro b0 ro ca D p l e R s m args below meth c Qm n0 z0 d B K C Q cx hB HK HC HQ ls st h x H locs LS rR rS rL rn rz
  unfold tm_cpy at x
  split at x
  · rename_i n dp a sp a0 rest
    obtain ⟨x1, ⟨y1, y2, y3, y4, y5⟩, x2⟩ := am_bif x
    simp only [Bool.and_eq_true] at x1
    obtain ⟨⟨g0, g0'⟩, x1⟩ := x1
    have x1 := Nat.le_of_ble_eq_true x1
    obtain ⟨g1, g2⟩ := am_is_ok g0
    obtain ⟨g3, g4⟩ := am_is_ok g0'
    have he := am_ws_get (b0 := b0) (ca := ca) g1
    rw [am_cell_100 g2] at he
    have he0 := am_ws_get (b0 := b0) (ca := ca) g3
    rw [am_cell_100 g4] at he0
    refine va_copyi cx.1 cx.2.1 rL.1.symm cx.2.2.1 (cx.2.2.2.1 _ hl) (cx.2.2.2.1 _ hn) (cx.2.2.2.1 _ hs) (cx.2.2.2.1 _ hi) cx.2.2.2.2.2.1 rR am_D rS a0 a 0 0 he0 he (ty := .int) rfl rfl rfl y1 y2 y3 y4 y5 (fun _ _ => rfl) (by omega) ?_ hd (fun H1 locs1 hP1 hD1 hS1 => ?_)
    · rw [am_cs_ok]
      have e9 : nativeFrameWords "java/lang/System" "arraycopy" 5 = 7 := by decide
      rw [e9]
      omega
    · have hE : am_cell b0 ca (sI h (uR (hI h) a (va_cpy (hI h a0) (hI h a) sp.toNatClampNeg dp.toNatClampNeg n.toNatClampNeg))) a = _ := am_cell_100 (h := sI h (uR (hI h) a (va_cpy (hI h a0) (hI h a) sp.toNatClampNeg dp.toNatClampNeg n.toNatClampNeg))) g2
      rw [show hI (sI h (uR (hI h) a (va_cpy (hI h a0) (hI h a) sp.toNatClampNeg dp.toNatClampNeg n.toNatClampNeg))) a = va_cpy (hI h a0) (hI h a) sp.toNatClampNeg dp.toNatClampNeg n.toNatClampNeg from uR_at _ _ _] at hE
      have hW := am_ws_set (b0 := b0) (ca := ca) (h := h) (h' := sI h (uR (hI h) a (va_cpy (hI h a0) (hI h a) sp.toNatClampNeg dp.toNatClampNeg n.toNatClampNeg))) (i := a) rfl (fun j hj => am_row_i (fun b hb => uR_ne hb) hj)
      rw [hE] at hW
      refine HK _ _ _ _ x2 H1 locs1 LS ?_ hS1 rL rn rz
      unfold am_Rel
      rw [← hW]
      exact hP1
  · exact x.elim
/-- behind a call -/
theorem am_go {b0 n z mc ms pc : Nat} {ro : Nat → Nat} {ca : Nat → ClassId} {D : va_G} {p : Program} {l : Launch} {e : Env} {R : Room} {s : State} {m : MethodId} {args : Array Value} {below : List Frame} {meth : Method} {c : Code} {H : Heap} {locs : List Loc} {cells slots : Nat} {Qm : State → Prop} {LS : Array Slot} {st0 rest : List Value} {Q' : am_Q} {a : Array Value}
    (hr : va_Run p l e R s m args below meth c H locs cells slots mc ms (F0 m pc LS st0) rest (am_Post b0 ro ca D n z Q' a) (fun q => b0 ≤ q)) (rS : va_S (fun q => b0 ≤ q) s.heap H locs)
    (kk : ∀ (r : Option Value) (h2 : am_Hp) (H1 : Heap) (locs1 : List Loc), Q' r h2 → hN h2 = n → hZ h2 = z → am_Rel b0 ca D h2 H1 → va_S (fun q => b0 ≤ q) s.heap H1 locs1 → W p l e R s m args below meth c H1 locs1 (cells + mc) (slots + ms) Qm (F0 m (pc + 3) LS ((r.map (am_con b0 ro)).toList ++ rest))) : W p l e R s m args below meth c H locs cells slots Qm (F0 m pc LS st0) := by
  intro T hT X
  obtain ⟨v, st₀, t, T', L, h0, X', hL', e1, e2, ⟨⟨r, h2, hv, hq, hn2, hz2, hrel⟩, hz, hk⟩, st⟩ := hr T hT X
  cases hv
  rw [h0] at hz hk
  obtain ⟨t2, a1, b1⟩ := kk r h2 T'.heap (locs ++ L) hq hn2 hz2 (by rw [e1]; exact hrel)
    ⟨Nat.le_trans rS.1 (by rw [e1]; exact hz), fun q h1 h3 => by rw [e1, hk q (Nat.lt_of_lt_of_le h1 rS.1) h3]; exact rS.2.1 q h1 h3, fun q hq => by
      rcases List.mem_append.mp hq with h | h
      · exact rS.2.2 q h
      · exact hL' q h⟩ T' rfl X'
  exact ⟨t2, st t2 a1, b1⟩
theorem am_blind {b0 : Nat} {ro : Nat → Nat} {ca : Nat → ClassId} {D : va_G} {h : am_Hp} {av : List Value} : FrameBlind (va_Pc av (am_Pre b0 ro ca D h)) := by
  intro a U g mk q
  obtain ⟨q0, q1, q2, q3, q4, q5, q6, q7, q8, q9, q10, q11, q12⟩ := q
  exact ⟨q0, q1, q2, va_K.moved (u := U) (U := U.calling g mk a) (Vm.Alike.refl U.vm) q3, va_Z.moved (u := U) (U := U.calling g mk a) (Vm.Alike.refl U.vm) q4, va_T.moved (u := U) (U := U.calling g mk a) (Vm.Alike.refl U.vm) q5, vk_R.same rfl q6, vk_S.moved (u := U) (U := U.calling g mk a) (Vm.Alike.refl U.vm) q7, va_Z.moved (u := U) (U := U.calling g mk a) (Vm.Alike.refl U.vm) q8, fun w hw => va_Nw.same rfl rfl (q9 w hw), va_Nw.same rfl rfl q10, va_AO.moved (u := U) (U := U.calling g mk a) (Vm.Alike.refl U.vm) q11, va_Z.moved (u := U) (U := U.calling g mk a) (Vm.Alike.refl U.vm) q12⟩
theorem am_pre {b0 n0 : Nat} {ro : Nat → Nat} {ca : Nat → ClassId} {D : va_G} {p : Program} {s U : State} {m : MethodId} {args : Array Value} {meth : Method} {c : Code} {H : Heap} {locs : List Loc} {h : am_Hp} {av : List Value} (cx : am_Cx pr b0 ro ca D mi p s m args meth c n0) (rR : am_Rel b0 ca D h H) (rS : va_S (fun q => b0 ≤ q) s.heap H locs) (hs : H.size = b0 + hN h) (hU : U.heap = H) (hW : s.WarmedH U.vm) : va_Pc av (am_Pre b0 ro ca D h) av.toArray U :=
  ⟨rfl, by rw [hU]; exact rR, by rw [hU]; exact hs, va_K.moved hW.alike cx.2.2.2.2.2.1, cx.2.2.2.2.2.2.1.next rS hU hW⟩
theorem am_cb {b0 n0 d mc ms np index : Nat} {ro : Nat → Nat} {ca : Nat → ClassId} {D : va_G} {p : Program} {R : Room} {s : State} {m : MethodId} {args : Array Value} {meth : Method} {c : Code} {mi' : Nat} (cx : am_Cx pr b0 ro ca D mi p s m args meth c n0) (hR : d + 1 ≤ R.frames ∧ 60 * (d + 1) ≤ R.locals) (hh : am_hd pr mi' np) (hl : Cond.methodLink (pr mi).1.cls index (pr mi').1 ∈ tblG) :
    CallB R s args (pr mi).1.cls index (pr mi').1 (pr mi').2.1 (pr mi').2.2.1 (pr mi').2.2.2.1 (am_words pr mi') (am_room d mc ms) mc ms np := by
  obtain ⟨h1, h2, h3, h4, h5⟩ := hh
  refine ⟨rfl, rfl, hR.1, ?_, pay_in cx.2.2.2.1 ?_, List.mem_cons_self, cx.2.2.2.1 _ h1, cx.2.2.2.1 _ h2, h3, fun sig hsig => ?_, cx.2.2.2.1 _ hl⟩
  · show 8 + ((pr mi').2.2.1 + 11) + 60 * d ≤ R.locals
    omega
  · intro w hw
    rcases List.mem_cons.mp hw with rfl | hw
    · exact ⟨h1, good_of_word (tblG_good _ h1)⟩
    · exact ⟨hw, good_of_word (tblG_good _ hw)⟩
  · rw [hsig] at h5
    exact (Option.some.inj h5).symm
theorem am_cn {b0 n0 d mc ms np index : Nat} {ro : Nat → Nat} {ca : Nat → ClassId} {D : va_G} {p : Program} {R : Room} {s : State} {m : MethodId} {args : Array Value} {meth : Method} {c : Code} {mi' : Nat} (cx : am_Cx pr b0 ro ca D mi p s m args meth c n0) (hR : d + 1 ≤ R.frames ∧ 60 * (d + 1) ≤ R.locals) (hh : am_hd pr mi' np) (hl : ((pr mi).1.cls, index, (pr mi').1) ∈ am_nestM) :
    va_CN R s args (pr mi).1.cls index (pr mi').1 "DogDecrees" (pr mi').2.1 (pr mi').2.2.1 (pr mi').2.2.2.1 (am_words pr mi') (am_room d mc ms) mc ms np := by
  obtain ⟨h1, h2, h3, h4, h5⟩ := hh
  refine ⟨⟨rfl, rfl, hR.1, ?_, pay_in cx.2.2.2.1 ?_, List.mem_cons_self⟩, cx.2.2.2.1 _ h1, cx.2.2.2.1 _ h2, h3, fun sig hsig => ?_, va_Nw.use rfl (cx.2.2.2.2.2.2.1.2.2.2.2.2.1 _ hl)⟩
  · show 8 + ((pr mi').2.2.1 + 11) + 60 * d ≤ R.locals
    omega
  · intro w hw
    rcases List.mem_cons.mp hw with rfl | hw
    · exact ⟨h1, good_of_word (tblG_good _ h1)⟩
    · exact ⟨hw, good_of_word (tblG_good _ hw)⟩
  · rw [hsig] at h5
    exact (Option.some.inj h5).symm
theorem am_K_ret {b0 n0 z0 : Nat} {ro : Nat → Nat} {ca : Nat → ClassId} {D : va_G} {p : Program} {l : Launch} {e : Env} {R : Room} {s : State} {m : MethodId} {args : Array Value} {below : List Frame} {meth : Method} {c : Code} {Qm : State → Prop} {K : am_K} {nx : Nat} {ls : am_Ls} {rest : List Value} {r : Option Value} {h2 : am_Hp}
    (HK : ∀ (pc : Nat) (ls : am_Ls) (st : List Value) (h : am_Hp), K pc ls st h → am_St b0 ro ca D p l e R s m args below meth c Qm n0 z0 pc ls st h) (hq : am_ret K nx ls rest r h2) : am_St b0 ro ca D p l e R s m args below meth c Qm n0 z0 nx ls (r.toList ++ rest) h2 := by
  cases r with
  | none => exact HK _ _ _ _ hq
  | some v => exact HK _ _ _ _ hq
theorem am_map_toList {α β : Type} (f : α → β) (r : Option α) (l : List α) : (r.map f).toList ++ l.map f = (r.toList ++ l).map f := by cases r <;> rfl
theorem ns_callV {mi' ci np index N : Nat} {T : u_T} (hh : am_hd pr mi' np) (hv : vwCl[ci]? = some ((pr mi').1.cls, T, N)) (hci : ci < 100) (hl : Cond.methodLink (pr mi).1.cls index (pr mi').1 ∈ tblG) (hi : Cond.instanceMethod (pr mi').1 ∈ tblG) (hs : Cond.selects (pr mi').1.cls (pr mi').1 (pr mi').1 ∈ tblG) (hd : decode (pr mi).2.1 pc = .ok (.invokevirtual index, 3)) : am_Snd pr mi pc (tm_callV (pc + 3) mi' ci np) := by
  intro b0 ro ca D p l e R s m args below meth c Qm n0 z0 d B K C Q cx hB HK HC HQ ls st h x H locs LS rR rS rL rn rz
  unfold tm_callV at x
  split at x
  · rename_i As a rest hp
    obtain ⟨P, e1, e2, e3⟩ := am_pop_ok hp
    rw [List.append_nil] at e1
    subst e1
    obtain ⟨x1, x2⟩ := am_bif x
    rw [Bool.and_eq_true] at x1
    obtain ⟨g1, g2⟩ := am_is_ok x1.1
    have x1 := Nat.le_of_ble_eq_true x1.2
    obtain ⟨mc, ms, m1, m2, hM⟩ := HC _ _ _ _ x2
    refine am_size rR rS cx.2.2.2.2.2.2.2 rn fun hs2 => ?_
    have he := am_ws_get (b0 := b0) (ca := ca) g1
    rw [am_cell_obj g2 hci] at he
    have hrecv := va_recv cx.2.2.2.2.2.1 rR hv he
    refine am_go (va_runV (As := As.map (am_con b0 ro)) (rest := rest.map (am_con b0 ro)) (b := b0 + a) ⟨cx.1, cx.2.1, rfl, cx.2.2.1, cx.2.2.2.1⟩ hM ⟨am_cb cx hB.2.2 hh hl, cx.2.2.2.1 _ hi, cx.2.2.2.1 _ hs⟩ ⟨am_blind, hrecv, fun U hU hW => am_pre cx rR rS hs2 hU hW⟩ rfl (by rw [List.length_map]; exact e2) rL.1 (by rw [e3]; simp [am_con]) (by rw [am_cs_ok]; show 2 * 0 + _ ≤ 8; omega) hd (by omega)) rS (fun r h2 H1 locs1 hq hn2 hz2 rR2 rS2 => ?_)
    have k1 := am_K_ret HK hq H1 locs1 LS rR2 rS2 rL (by omega) (by omega)
    rw [am_map_toList]
    exact W.cs (by omega) (by omega) k1
  · exact x.elim
theorem ns_callVN {mi' ci np index N : Nat} {T : u_T} (hh : am_hd pr mi' np) (hv : vwCl[ci]? = some ((pr mi').1.cls, T, N)) (hci : ci < 100) (hl : ((pr mi).1.cls, index, (pr mi').1) ∈ am_nestM) (hi : Cond.instanceMethod (pr mi').1 ∈ tblG) (hs : Cond.selects (pr mi').1.cls (pr mi').1 (pr mi').1 ∈ tblG) (hd : decode (pr mi).2.1 pc = .ok (.invokevirtual index, 3)) : am_Snd pr mi pc (tm_callV (pc + 3) mi' ci np) := by
  intro b0 ro ca D p l e R s m args below meth c Qm n0 z0 d B K C Q cx hB HK HC HQ ls st h x H locs LS rR rS rL rn rz
  unfold tm_callV at x
  split at x
  · rename_i As a rest hp
    obtain ⟨P, e1, e2, e3⟩ := am_pop_ok hp
    rw [List.append_nil] at e1
    subst e1
    obtain ⟨x1, x2⟩ := am_bif x
    rw [Bool.and_eq_true] at x1
    obtain ⟨g1, g2⟩ := am_is_ok x1.1
    have x1 := Nat.le_of_ble_eq_true x1.2
    obtain ⟨mc, ms, m1, m2, hM⟩ := HC _ _ _ _ x2
    refine am_size rR rS cx.2.2.2.2.2.2.2 rn fun hs2 => ?_
    have he := am_ws_get (b0 := b0) (ca := ca) g1
    rw [am_cell_obj g2 hci] at he
    have hrecv := va_recv cx.2.2.2.2.2.1 rR hv he
    refine am_go (va_runVN (As := As.map (am_con b0 ro)) (rest := rest.map (am_con b0 ro)) (b := b0 + a) ⟨cx.1, cx.2.1, rfl, cx.2.2.1, cx.2.2.2.1⟩ hM ⟨am_cn cx hB.2.2 hh hl, cx.2.2.2.1 _ hi, cx.2.2.2.1 _ hs⟩ ⟨am_blind, hrecv, fun U hU hW => am_pre cx rR rS hs2 hU hW⟩ rfl (by rw [List.length_map]; exact e2) rL.1 (by rw [e3]; simp [am_con]) (by rw [am_cs_ok]; show 2 * 0 + _ ≤ 8; omega) hd (by omega)) rS (fun r h2 H1 locs1 hq hn2 hz2 rR2 rS2 => ?_)
    have k1 := am_K_ret HK hq H1 locs1 LS rR2 rS2 rL (by omega) (by omega)
    rw [am_map_toList]
    exact W.cs (by omega) (by omega) k1
  · exact x.elim
theorem ns_callI {mi' np index : Nat} (hh : am_hd pr mi' np) (hr : (pr mi').2.2.2.1 = none) (hn : (pr mi').1.name = "<init>") (hl : Cond.methodLink (pr mi).1.cls index (pr mi').1 ∈ tblG) (hi : Cond.instanceMethod (pr mi').1 ∈ tblG) (hd : decode (pr mi).2.1 pc = .ok (.invokespecial index, 3)) : am_Snd pr mi pc (tm_callI (pc + 3) mi' np) := by
  intro b0 ro ca D p l e R s m args below meth c Qm n0 z0 d B K C Q cx hB HK HC HQ ls st h x H locs LS rR rS rL rn rz
  unfold tm_callI at x
  split at x
  · rename_i As a rest hp
    obtain ⟨P, e1, e2, e3⟩ := am_pop_ok hp
    rw [List.append_nil] at e1
    subst e1
    obtain ⟨x1, x2⟩ := am_bif x
    have x1 := Nat.le_of_ble_eq_true x1
    obtain ⟨mc, ms, m1, m2, hM⟩ := HC _ _ _ _ x2
    refine am_size rR rS cx.2.2.2.2.2.2.2 rn fun hs2 => ?_
    have hcb := am_cb (d := d) (mc := mc) (ms := ms) cx hB.2.2 hh hl
    rw [hr] at hcb
    refine am_go (va_runI (As := As.map (am_con b0 ro)) (rest := rest.map (am_con b0 ro)) (b := b0 + a) ⟨cx.1, cx.2.1, rfl, cx.2.2.1, cx.2.2.2.1⟩ hM ⟨hcb, hn, cx.2.2.2.1 _ hi⟩ ⟨am_blind, fun U hU hW => am_pre cx rR rS hs2 hU hW⟩ rfl (by rw [List.length_map]; exact e2) rL.1 (by rw [e3]; simp [am_con]) (by rw [am_cs_ok]; show 2 * 0 + _ ≤ 8; omega) hd (by omega)) rS (fun r h2 H1 locs1 hq hn2 hz2 rR2 rS2 => ?_)
    have k1 := am_K_ret HK hq H1 locs1 LS rR2 rS2 rL (by omega) (by omega)
    rw [am_map_toList]
    exact W.cs (by omega) (by omega) k1
  · exact x.elim
theorem ns_callIN {mi' np index : Nat} (hh : am_hd pr mi' np) (hr : (pr mi').2.2.2.1 = none) (hn : (pr mi').1.name = "<init>") (hl : ((pr mi).1.cls, index, (pr mi').1) ∈ am_nestM) (hi : Cond.instanceMethod (pr mi').1 ∈ tblG) (hd : decode (pr mi).2.1 pc = .ok (.invokespecial index, 3)) : am_Snd pr mi pc (tm_callI (pc + 3) mi' np) := by
  intro b0 ro ca D p l e R s m args below meth c Qm n0 z0 d B K C Q cx hB HK HC HQ ls st h x H locs LS rR rS rL rn rz
  unfold tm_callI at x
  split at x
  · rename_i As a rest hp
    obtain ⟨P, e1, e2, e3⟩ := am_pop_ok hp
    rw [List.append_nil] at e1
    subst e1
    obtain ⟨x1, x2⟩ := am_bif x
    have x1 := Nat.le_of_ble_eq_true x1
    obtain ⟨mc, ms, m1, m2, hM⟩ := HC _ _ _ _ x2
    refine am_size rR rS cx.2.2.2.2.2.2.2 rn fun hs2 => ?_
    have hcb := am_cn (d := d) (mc := mc) (ms := ms) cx hB.2.2 hh hl
    rw [hr] at hcb
    refine am_go (va_runIN (As := As.map (am_con b0 ro)) (rest := rest.map (am_con b0 ro)) (b := b0 + a) ⟨cx.1, cx.2.1, rfl, cx.2.2.1, cx.2.2.2.1⟩ hM ⟨hcb, hn, cx.2.2.2.1 _ hi⟩ ⟨am_blind, fun U hU hW => am_pre cx rR rS hs2 hU hW⟩ rfl (by rw [List.length_map]; exact e2) rL.1 (by rw [e3]; simp [am_con]) (by rw [am_cs_ok]; show 2 * 0 + _ ≤ 8; omega) hd (by omega)) rS (fun r h2 H1 locs1 hq hn2 hz2 rR2 rS2 => ?_)
    have k1 := am_K_ret HK hq H1 locs1 LS rR2 rS2 rL (by omega) (by omega)
    rw [am_map_toList]
    exact W.cs (by omega) (by omega) k1
  · exact x.elim
theorem ns_callS {mi' np index : Nat} (hh : am_hd pr mi' np) (hl : Cond.methodLink (pr mi).1.cls index (pr mi').1 ∈ tblG) (hi : Cond.static (pr mi').1 ∈ tblG) (hd : decode (pr mi).2.1 pc = .ok (.invokestatic index, 3)) : am_Snd pr mi pc (tm_callS (pc + 3) mi' np) := by
  intro b0 ro ca D p l e R s m args below meth c Qm n0 z0 d B K C Q cx hB HK HC HQ ls st h x H locs LS rR rS rL rn rz
  unfold tm_callS at x
  split at x
  · rename_i As rest hp
    obtain ⟨P, e1, e2, e3⟩ := am_pop_ok hp
    rw [List.append_nil] at e1
    subst e1
    obtain ⟨x1, x2⟩ := am_bif x
    have x1 := Nat.le_of_ble_eq_true x1
    obtain ⟨mc, ms, m1, m2, hM⟩ := HC _ _ _ _ x2
    refine am_size rR rS cx.2.2.2.2.2.2.2 rn fun hs2 => ?_
    refine am_go (va_runS (As := As.map (am_con b0 ro)) (rest := rest.map (am_con b0 ro)) ⟨cx.1, cx.2.1, rfl, cx.2.2.1, cx.2.2.2.1⟩ hM ⟨am_cb cx hB.2.2 hh hl, cx.2.2.2.1 _ hi⟩ ⟨am_blind, fun U hU hW => am_pre cx rR rS hs2 hU hW⟩ rfl (by rw [List.length_map]; exact e2) rL.1 (by rw [e3]; simp) (by rw [am_cs_ok]; show 2 * 0 + _ ≤ 8; omega) hd (by omega)) rS (fun r h2 H1 locs1 hq hn2 hz2 rR2 rS2 => ?_)
    have k1 := am_K_ret HK hq H1 locs1 LS rR2 rS2 rL (by omega) (by omega)
    rw [am_map_toList]
    exact W.cs (by omega) (by omega) k1
  · exact x.elim
theorem ns_callSN {mi' np index : Nat} (hh : am_hd pr mi' np) (hl : ((pr mi).1.cls, index, (pr mi').1) ∈ am_nestM) (hi : Cond.static (pr mi').1 ∈ tblG) (hd : decode (pr mi).2.1 pc = .ok (.invokestatic index, 3)) : am_Snd pr mi pc (tm_callS (pc + 3) mi' np) := by
  intro b0 ro ca D p l e R s m args below meth c Qm n0 z0 d B K C Q cx hB HK HC HQ ls st h x H locs LS rR rS rL rn rz
  unfold tm_callS at x
  split at x
  · rename_i As rest hp
    obtain ⟨P, e1, e2, e3⟩ := am_pop_ok hp
    rw [List.append_nil] at e1
    subst e1
    obtain ⟨x1, x2⟩ := am_bif x
    have x1 := Nat.le_of_ble_eq_true x1
    obtain ⟨mc, ms, m1, m2, hM⟩ := HC _ _ _ _ x2
    refine am_size rR rS cx.2.2.2.2.2.2.2 rn fun hs2 => ?_
    refine am_go (va_runSN (As := As.map (am_con b0 ro)) (rest := rest.map (am_con b0 ro)) ⟨cx.1, cx.2.1, rfl, cx.2.2.1, cx.2.2.2.1⟩ hM ⟨am_cn cx hB.2.2 hh hl, cx.2.2.2.1 _ hi, trivial⟩ ⟨am_blind, fun U hU hW => am_pre cx rR rS hs2 hU hW⟩ rfl (by rw [List.length_map]; exact e2) rL.1 (by rw [e3]; simp) (by rw [am_cs_ok]; show 2 * 0 + _ ≤ 8; omega) hd (by omega)) rS (fun r h2 H1 locs1 hq hn2 hz2 rR2 rS2 => ?_)
    have k1 := am_K_ret HK hq H1 locs1 LS rR2 rS2 rL (by omega) (by omega)
    rw [am_map_toList]
    exact W.cs (by omega) (by omega) k1
  · exact x.elim
end CALLS
