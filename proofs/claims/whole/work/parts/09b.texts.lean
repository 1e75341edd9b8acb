/-! ===== steps of the one text constant ===== -/
def tm_str (nx : Nat) : am_T := fun _ K _ _ ls st h => K nx ls (.retAddr 1 :: st) h
def tm_fmt (nx : Nat) : am_T := fun _ K _ _ ls st h => K nx ls (.retAddr 3 :: st) h
def tm_strv (nx : Nat) : am_T := fun _ K _ _ ls st h => match st with
  | .retAddr 1 :: st' => K nx ls (.retAddr 2 :: st') h
  | _ => False
def tm_strc (nx : Nat) : am_T := fun _ K _ _ ls st h => match st with
  | .retAddr 1 :: st' => K nx ls (.int 0 :: st') h
  | _ => False
def tm_strl (nx : Nat) : am_T := fun _ K _ _ ls st h => match st with
  | .retAddr 2 :: st' => K nx ls (.int (Int32.ofNat am_strN) :: st') h
  | _ => False
def tm_strb (nx : Nat) : am_T := fun _ K _ _ ls st h => match st with
  | .int i :: .retAddr 2 :: st' => vp_in i am_strN ∧ K nx ls (.int (am_bytes.getD i.toNatClampNeg 0) :: st') h
  | _ => False
def tm_callT (nx mi' np : Nat) : am_T := fun _ K C _ ls st h => match am_pop np st [] with
  | some (As, .retAddr 1 :: rest) => bif Nat.ble (am_cs rest) 8 then C mi' (.retAddr 1 :: As) h (am_ret K nx ls rest) else False
  | _ => False
def tm_cret (ty : FieldType) : am_T := fun _ _ _ Q _ st h => match st with
  | [.int x] => narrow ty (.int x) = .int x ∧ Q (some (.int x)) h
  | _ => False
section TEXTS
variable {pr : am_P} {mi pc : Nat}
theorem ns_str (hm : (pr mi).1.cls = am_strO) (hd : decode (pr mi).2.1 pc = .ok (.ldc am_strI, 2)) : am_Snd pr mi pc (tm_str (pc + 2)) := by
  intro b0 ro ca D p l e R s m args below meth c Qm n0 z0 d B K C Q cx hB HK HC HQ ls st h x H locs LS rR rS rL rn rz
  exact va_ldcS cx.1 cx.2.1 (hm ▸ cx.2.2.1) cx.2.2.2.2.2.2.1.2.2.1 hd (HK _ _ _ _ x H locs LS rR rS rL rn rz)
theorem ns_fmt {index : Nat} (hw : Cond.fieldLink (pr mi).1.cls index "jdk/internal/util/Preconditions" "SIOOBE_FORMATTER" "Ljava/util/function/BiFunction;" ∈ tblG) (hd : decode (pr mi).2.1 pc = .ok (.getstatic index, 3)) : am_Snd pr mi pc (tm_fmt (pc + 3)) := by
  intro b0 ro ca D p l e R s m args below meth c Qm n0 z0 d B K C Q cx hB HK HC HQ ls st h x H locs LS rR rS rL rn rz
  exact va_gets cx.1 cx.2.1 cx.2.2.2.2.2.2.1.2.2.2.2.2.2.2.2 rS cx.2.2.1 (cx.2.2.2.1 _ hw) (fun _ q => q) hd (HK _ _ _ _ x H locs LS rR rS rL rn rz)
theorem ns_comp {index : Nat} (hw : Cond.fieldLink (pr mi).1.cls index "java/lang/String" "COMPACT_STRINGS" "Z" ∈ tblG) (hd : decode (pr mi).2.1 pc = .ok (.getstatic index, 3)) : am_Snd pr mi pc (tm_push (pc + 3) (.int 1)) := by
  intro b0 ro ca D p l e R s m args below meth c Qm n0 z0 d B K C Q cx hB HK HC HQ ls st h x H locs LS rR rS rL rn rz
  exact va_gets cx.1 cx.2.1 cx.2.2.2.2.2.2.1.2.2.2.2.1 rS cx.2.2.1 (cx.2.2.2.1 _ hw) (fun _ q => q) hd (HK _ _ _ _ x H locs LS rR rS rL rn rz)
theorem ns_strv {index : Nat} (hw : Cond.fieldLink (pr mi).1.cls index "java/lang/String" "value" "[B" ∈ tblG) (hd : decode (pr mi).2.1 pc = .ok (.getfield index, 3)) : am_Snd pr mi pc (tm_strv (pc + 3)) := by
  intro b0 ro ca D p l e R s m args below meth c Qm n0 z0 d B K C Q cx hB HK HC HQ ls st h x H locs LS rR rS rL rn rz
  unfold tm_strv at x
  split at x
  · exact vk_getf cx.1 cx.2.1 (cx.2.2.2.2.2.2.1.2.2.2.1.1 0 (by decide)).2.2.1 rS cx.2.2.1 (cx.2.2.2.1 _ hw) (fun _ q => q) hd (HK _ _ _ _ x H locs LS rR rS rL rn rz)
  · exact x.elim
theorem ns_strc {index : Nat} (hw : Cond.fieldLink (pr mi).1.cls index "java/lang/String" "coder" "B" ∈ tblG) (hd : decode (pr mi).2.1 pc = .ok (.getfield index, 3)) : am_Snd pr mi pc (tm_strc (pc + 3)) := by
  intro b0 ro ca D p l e R s m args below meth c Qm n0 z0 d B K C Q cx hB HK HC HQ ls st h x H locs LS rR rS rL rn rz
  unfold tm_strc at x
  split at x
  · exact vk_getf cx.1 cx.2.1 (cx.2.2.2.2.2.2.1.2.2.2.1.1 0 (by decide)).2.1 rS cx.2.2.1 (cx.2.2.2.1 _ hw) (fun _ q => q) hd (HK _ _ _ _ x H locs LS rR rS rL rn rz)
  · exact x.elim
theorem ns_strl (hd : decode (pr mi).2.1 pc = .ok (.arraylength, 1)) : am_Snd pr mi pc (tm_strl (pc + 1)) := by
  intro b0 ro ca D p l e R s m args below meth c Qm n0 z0 d B K C Q cx hB HK HC HQ ls st h x H locs LS rR rS rL rn rz
  unfold tm_strl at x
  split at x
  · exact va_tlen cx.1 cx.2.1 (cx.2.2.2.2.2.2.1.2.2.2.1.1 0 (by decide)).2.2.2 rS rfl hd (HK _ _ _ _ x H locs LS rR rS rL rn rz)
  · exact x.elim
theorem ns_strb (hd : decode (pr mi).2.1 pc = .ok (.baload, 1)) : am_Snd pr mi pc (tm_strb (pc + 1)) := by
  intro b0 ro ca D p l e R s m args below meth c Qm n0 z0 d B K C Q cx hB HK HC HQ ls st h x H locs LS rR rS rL rn rz
  unfold tm_strb at x
  split at x
  · exact va_tb cx.1 cx.2.1 (cx.2.2.2.2.2.2.1.2.2.2.1.1 0 (by decide)).2.2.2 rS x.1 rfl hd (HK _ _ _ _ x.2 H locs LS rR rS rL rn rz)
  · exact x.elim
theorem ns_i2c (hd : decode (pr mi).2.1 pc = .ok (.i2c, 1)) : am_Snd pr mi pc (tm_i1 (pc + 1) (fun x => (x.toUInt32 % 65536).toInt32)) := by
  intro b0 ro ca D p l e R s m args below meth c Qm n0 z0 d B K C Q cx hB HK HC HQ ls st h x H locs LS rR rS rL rn rz
  unfold tm_i1 at x
  split at x
  · exact lv_i2c cx.1 cx.2.1 hd rfl (HK _ _ _ _ x H locs LS rR rS rL rn rz)
  · exact x.elim
theorem ns_cret {ty : FieldType} (hr : (pr mi).2.2.2.1 = some ty) (ht : ty = .char ∨ ty = .byte) (hd : decode (pr mi).2.1 pc = .ok (.ireturn, 1)) : am_Snd pr mi pc (tm_cret ty) := by
  intro b0 ro ca D p l e R s m args below meth c Qm n0 z0 d B K C Q cx hB HK HC HQ ls st h x
  unfold tm_cret at x
  split at x
  · exact HQ _ _ pc ls x.2 (by rw [hr]; rcases ht with rfl | rfl <;> exact x.1) hd
  · exact x.elim
theorem ns_callT {mi' np index : Nat} (hh : am_hd pr mi' np) (hcl : (pr mi').1.cls = "java/lang/String") (hl : Cond.methodLink (pr mi).1.cls index (pr mi').1 ∈ tblG) (hi : Cond.instanceMethod (pr mi').1 ∈ tblG) (hs : Cond.selects (pr mi').1.cls (pr mi').1 (pr mi').1 ∈ tblG) (hd : decode (pr mi).2.1 pc = .ok (.invokevirtual index, 3)) : am_Snd pr mi pc (tm_callT (pc + 3) mi' np) := by
  intro b0 ro ca D p l e R s m args below meth c Qm n0 z0 d B K C Q cx hB HK HC HQ ls st h x H locs LS rR rS rL rn rz
  unfold tm_callT at x
  split at x
  · rename_i As rest hp
    obtain ⟨P, e1, e2, e3⟩ := am_pop_ok hp
    rw [List.append_nil] at e1
    subst e1
    obtain ⟨x1, x2⟩ := am_bif x
    have x1 := Nat.le_of_ble_eq_true x1
    obtain ⟨mc, ms, m1, m2, hM⟩ := HC _ _ _ _ x2
    refine am_size rR rS cx.2.2.2.2.2.2.2 rn fun hs2 => ?_
    have hrecv := vk_recv cx.2.2.2.2.2.2.1.2.2.2.1 (i := 0) (by decide) rS
    rw [← hcl] at hrecv
    refine am_go (va_runV (As := As.map (am_con b0 ro)) (rest := rest.map (am_con b0 ro)) (b := ro 1) ⟨cx.1, cx.2.1, rfl, cx.2.2.1, cx.2.2.2.1⟩ hM ⟨am_cb cx hB.2.2 hh hl, cx.2.2.2.1 _ hi, cx.2.2.2.1 _ hs⟩ ⟨am_blind, hrecv, fun U hU hW => am_pre cx rR rS hs2 hU hW⟩ rfl (by rw [List.length_map]; exact e2) rL.1 (by rw [e3]; simp [am_con_ro (show Nat.blt 1 3 = true from rfl)]) (by rw [am_cs_ok]; show 2 * 0 + _ ≤ 8; omega) hd (by omega)) rS (fun r h2 H1 locs1 hq hn2 hz2 rR2 rS2 => ?_)
    have k1 := am_K_ret HK hq H1 locs1 LS rR2 rS2 rL (by omega) (by omega)
    rw [am_map_toList]
    exact W.cs (by omega) (by omega) k1
  · exact x.elim
end TEXTS
