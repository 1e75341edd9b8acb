/-! ===== the skeleton's words ===== -/
def R_law : String := "DogDecreesLaw"
def lw_P (b : Addr) (xs : List Int32) (args : Array Value) (s : State) : Prop := args = #[.ref b] ∧ s.IntsAt b xs ∧ xs.length ≤ 3584 ∧ (Jvm.Cond.and given_1 narrow_1).before args s = true
def lw_Q (_ : Array Value) (s : State) (o : Outcome) (t : State) : Prop := o = .returned (some (.int 1)) ∧ Framed s o t [] 600000 7302250
def lw_Z (below : List Frame) (a : Array Value) (s : State) : State → Prop := fun t => ∃ o, t.status = .running ∧ Ended t below o ∧ lw_Q a s o t
/-- the law's own end, with 1 on the stack, nothing written that was there before, its room as the claim has it -/
theorem lw_ret {p : Program} {l : Launch} {e : Env} {s : State} {m : MethodId} {below : List Frame} {meth : Method} {c : Code} {b : Nat} (hx : p.tables.exec = Jvm.exec) (hb : c.code = code) (hr : meth.sig.returnType = ret) (hlocks : meth.locks = false) {pc : Nat} {H : Heap} {ls : Array Slot} (hdg : decode code pc = .ok (.ireturn, 1)) : W p l e room_1 s m #[Value.ref b] below meth c H [] 600000 7302250 (lw_Z below #[Value.ref b] s) (F0 m pc ls [.int 1]) := by
  intro T hT X
  obtain ⟨fs, hret, hrun, hended, hW, hframe⟩ := X.leave (v := some (.int 1)) (hlocks := hlocks) (fun h => by rw [hr] at h; cases h)
  have hmeth' : T.vm.method? m = some meth := X.method'
  refine ⟨T.setFrames fs, ?_, .returned (some (.int 1)), hrun, hended, rfl, ⟨_, rfl⟩, hW, hframe⟩
  jvm_step X.here [X.here.top, hx, hb, hdg, hmeth', hr, ret, narrow_b1]
  (try refine ⟨rfl, ?_⟩); (try refine ⟨rfl, ?_⟩)
  first | (intro acts; rw [hret _ acts rfl rfl rfl]) | rw [hret _ _ rfl rfl rfl]
  exact Steps.refl _
/-- what holds at the law's entry: the machine, the code, the tables' words (any of lw_tbl by 'hts w (by decide +kernel)'), the script of L ints xs at the cell b, what the Statement gives of the start (any of its parts by flat_of_before) -/
def lw_At (p : Program) (s : State) (m : MethodId) (meth : Method) (c : Code) (b L : Nat) (xs : Nat → Int32) : Prop :=
  p.tables.exec = Jvm.exec ∧ c.code = code ∧ meth.sig.returnType = ret ∧ c.maxLocals = 4 ∧ s.vm.findClass R_law = some m.cls ∧ (∀ w ∈ lw_tbl, w.before #[Value.ref b] s = true) ∧ va_X b L xs s s.heap ∧ b < s.heap.size ∧ meth.locks = false ∧ (Jvm.Cond.and given_1 narrow_1).before #[Value.ref b] s = true
/-! ===== from a run of the abstract law to the law's walk ===== -/
theorem al_1 {P : Nat → Prop} {a : Nat} (h : P a) : ∀ m, a ≤ m → m ≤ a → P m := fun m h1 h2 => by
  have e : m = a := by omega
  rw [e]
  exact h
theorem al_2 {P : Nat → Prop} {k a b : Nat} (l : ∀ m, a ≤ m → m ≤ k → P m) (r : ∀ m, k + 1 ≤ m → m ≤ b → P m) : ∀ m, a ≤ m → m ≤ b → P m := fun m h1 h2 => by
  rcases Nat.lt_or_ge k m with h | h
  · exact r m h h2
  · exact l m h1 h
theorem PR_big {mi : Nat} (h : 287 < mi) : PR mi = PR 287 := by
  have h0 : Nat.ble mi 143 = false := ble_f (by omega)
  have h1 : Nat.ble mi 215 = false := ble_f (by omega)
  have h2 : Nat.ble mi 251 = false := ble_f (by omega)
  have h3 : Nat.ble mi 269 = false := ble_f (by omega)
  have h4 : Nat.ble mi 278 = false := ble_f (by omega)
  have h5 : Nat.ble mi 282 = false := ble_f (by omega)
  have h6 : Nat.ble mi 284 = false := ble_f (by omega)
  have h7 : Nat.ble mi 285 = false := ble_f (by omega)
  have h8 : Nat.ble mi 286 = false := ble_f (by omega)
  show (bif Nat.ble mi 143 then _ else (bif Nat.ble mi 215 then _ else (bif Nat.ble mi 251 then _ else (bif Nat.ble mi 269 then _ else (bif Nat.ble mi 278 then _ else (bif Nat.ble mi 282 then _ else (bif Nat.ble mi 284 then _ else (bif Nat.ble mi 285 then _ else (bif Nat.ble mi 286 then _ else _))))))))) = _
  rw [h0, h1, h2, h3, h4, h5, h6, h7, h8]
  rfl
theorem OK_le : ∀ m, 0 ≤ m → m ≤ 287 → am_OK PR m := al_2 (k := 143) (al_2 (k := 71) (al_2 (k := 35) (al_2 (k := 17) (al_2 (k := 8) (al_2 (k := 3) (al_2 (k := 1) (al_2 (k := 0) (al_1 sd_0) (al_1 sd_1)) (al_2 (k := 2) (al_1 sd_2) (al_1 sd_3))) (al_2 (k := 5) (al_2 (k := 4) (al_1 sd_4) (al_1 sd_5)) (al_2 (k := 6) (al_1 sd_6) (al_2 (k := 7) (al_1 sd_7) (al_1 sd_8))))) (al_2 (k := 12) (al_2 (k := 10) (al_2 (k := 9) (al_1 sd_9) (al_1 sd_10)) (al_2 (k := 11) (al_1 sd_11) (al_1 sd_12))) (al_2 (k := 14) (al_2 (k := 13) (al_1 sd_13) (al_1 sd_14)) (al_2 (k := 15) (al_1 sd_15) (al_2 (k := 16) (al_1 sd_16) (al_1 sd_17)))))) (al_2 (k := 26) (al_2 (k := 21) (al_2 (k := 19) (al_2 (k := 18) (al_1 sd_18) (al_1 sd_19)) (al_2 (k := 20) (al_1 sd_20) (al_1 sd_21))) (al_2 (k := 23) (al_2 (k := 22) (al_1 sd_22) (al_1 sd_23)) (al_2 (k := 24) (al_1 sd_24) (al_2 (k := 25) (al_1 sd_25) (al_1 sd_26))))) (al_2 (k := 30) (al_2 (k := 28) (al_2 (k := 27) (al_1 sd_27) (al_1 sd_28)) (al_2 (k := 29) (al_1 sd_29) (al_1 sd_30))) (al_2 (k := 32) (al_2 (k := 31) (al_1 sd_31) (al_1 sd_32)) (al_2 (k := 33) (al_1 sd_33) (al_2 (k := 34) (al_1 sd_34) (al_1 sd_35))))))) (al_2 (k := 53) (al_2 (k := 44) (al_2 (k := 39) (al_2 (k := 37) (al_2 (k := 36) (al_1 sd_36) (al_1 sd_37)) (al_2 (k := 38) (al_1 sd_38) (al_1 sd_39))) (al_2 (k := 41) (al_2 (k := 40) (al_1 sd_40) (al_1 sd_41)) (al_2 (k := 42) (al_1 sd_42) (al_2 (k := 43) (al_1 sd_43) (al_1 sd_44))))) (al_2 (k := 48) (al_2 (k := 46) (al_2 (k := 45) (al_1 sd_45) (al_1 sd_46)) (al_2 (k := 47) (al_1 sd_47) (al_1 sd_48))) (al_2 (k := 50) (al_2 (k := 49) (al_1 sd_49) (al_1 sd_50)) (al_2 (k := 51) (al_1 sd_51) (al_2 (k := 52) (al_1 sd_52) (al_1 sd_53)))))) (al_2 (k := 62) (al_2 (k := 57) (al_2 (k := 55) (al_2 (k := 54) (al_1 sd_54) (al_1 sd_55)) (al_2 (k := 56) (al_1 sd_56) (al_1 sd_57))) (al_2 (k := 59) (al_2 (k := 58) (al_1 sd_58) (al_1 sd_59)) (al_2 (k := 60) (al_1 sd_60) (al_2 (k := 61) (al_1 sd_61) (al_1 sd_62))))) (al_2 (k := 66) (al_2 (k := 64) (al_2 (k := 63) (al_1 sd_63) (al_1 sd_64)) (al_2 (k := 65) (al_1 sd_65) (al_1 sd_66))) (al_2 (k := 68) (al_2 (k := 67) (al_1 sd_67) (al_1 sd_68)) (al_2 (k := 69) (al_1 sd_69) (al_2 (k := 70) (al_1 sd_70) (al_1 sd_71)))))))) (al_2 (k := 107) (al_2 (k := 89) (al_2 (k := 80) (al_2 (k := 75) (al_2 (k := 73) (al_2 (k := 72) (al_1 sd_72) (al_1 sd_73)) (al_2 (k := 74) (al_1 sd_74) (al_1 sd_75))) (al_2 (k := 77) (al_2 (k := 76) (al_1 sd_76) (al_1 sd_77)) (al_2 (k := 78) (al_1 sd_78) (al_2 (k := 79) (al_1 sd_79) (al_1 sd_80))))) (al_2 (k := 84) (al_2 (k := 82) (al_2 (k := 81) (al_1 sd_81) (al_1 sd_82)) (al_2 (k := 83) (al_1 sd_83) (al_1 sd_84))) (al_2 (k := 86) (al_2 (k := 85) (al_1 sd_85) (al_1 sd_86)) (al_2 (k := 87) (al_1 sd_87) (al_2 (k := 88) (al_1 sd_88) (al_1 sd_89)))))) (al_2 (k := 98) (al_2 (k := 93) (al_2 (k := 91) (al_2 (k := 90) (al_1 sd_90) (al_1 sd_91)) (al_2 (k := 92) (al_1 sd_92) (al_1 sd_93))) (al_2 (k := 95) (al_2 (k := 94) (al_1 sd_94) (al_1 sd_95)) (al_2 (k := 96) (al_1 sd_96) (al_2 (k := 97) (al_1 sd_97) (al_1 sd_98))))) (al_2 (k := 102) (al_2 (k := 100) (al_2 (k := 99) (al_1 sd_99) (al_1 sd_100)) (al_2 (k := 101) (al_1 sd_101) (al_1 sd_102))) (al_2 (k := 104) (al_2 (k := 103) (al_1 sd_103) (al_1 sd_104)) (al_2 (k := 105) (al_1 sd_105) (al_2 (k := 106) (al_1 sd_106) (al_1 sd_107))))))) (al_2 (k := 125) (al_2 (k := 116) (al_2 (k := 111) (al_2 (k := 109) (al_2 (k := 108) (al_1 sd_108) (al_1 sd_109)) (al_2 (k := 110) (al_1 sd_110) (al_1 sd_111))) (al_2 (k := 113) (al_2 (k := 112) (al_1 sd_112) (al_1 sd_113)) (al_2 (k := 114) (al_1 sd_114) (al_2 (k := 115) (al_1 sd_115) (al_1 sd_116))))) (al_2 (k := 120) (al_2 (k := 118) (al_2 (k := 117) (al_1 sd_117) (al_1 sd_118)) (al_2 (k := 119) (al_1 sd_119) (al_1 sd_120))) (al_2 (k := 122) (al_2 (k := 121) (al_1 sd_121) (al_1 sd_122)) (al_2 (k := 123) (al_1 sd_123) (al_2 (k := 124) (al_1 sd_124) (al_1 sd_125)))))) (al_2 (k := 134) (al_2 (k := 129) (al_2 (k := 127) (al_2 (k := 126) (al_1 sd_126) (al_1 sd_127)) (al_2 (k := 128) (al_1 sd_128) (al_1 sd_129))) (al_2 (k := 131) (al_2 (k := 130) (al_1 sd_130) (al_1 sd_131)) (al_2 (k := 132) (al_1 sd_132) (al_2 (k := 133) (al_1 sd_133) (al_1 sd_134))))) (al_2 (k := 138) (al_2 (k := 136) (al_2 (k := 135) (al_1 sd_135) (al_1 sd_136)) (al_2 (k := 137) (al_1 sd_137) (al_1 sd_138))) (al_2 (k := 140) (al_2 (k := 139) (al_1 sd_139) (al_1 sd_140)) (al_2 (k := 141) (al_1 sd_141) (al_2 (k := 142) (al_1 sd_142) (al_1 sd_143))))))))) (al_2 (k := 215) (al_2 (k := 179) (al_2 (k := 161) (al_2 (k := 152) (al_2 (k := 147) (al_2 (k := 145) (al_2 (k := 144) (al_1 sd_144) (al_1 sd_145)) (al_2 (k := 146) (al_1 sd_146) (al_1 sd_147))) (al_2 (k := 149) (al_2 (k := 148) (al_1 sd_148) (al_1 sd_149)) (al_2 (k := 150) (al_1 sd_150) (al_2 (k := 151) (al_1 sd_151) (al_1 sd_152))))) (al_2 (k := 156) (al_2 (k := 154) (al_2 (k := 153) (al_1 sd_153) (al_1 sd_154)) (al_2 (k := 155) (al_1 sd_155) (al_1 sd_156))) (al_2 (k := 158) (al_2 (k := 157) (al_1 sd_157) (al_1 sd_158)) (al_2 (k := 159) (al_1 sd_159) (al_2 (k := 160) (al_1 sd_160) (al_1 sd_161)))))) (al_2 (k := 170) (al_2 (k := 165) (al_2 (k := 163) (al_2 (k := 162) (al_1 sd_162) (al_1 sd_163)) (al_2 (k := 164) (al_1 sd_164) (al_1 sd_165))) (al_2 (k := 167) (al_2 (k := 166) (al_1 sd_166) (al_1 sd_167)) (al_2 (k := 168) (al_1 sd_168) (al_2 (k := 169) (al_1 sd_169) (al_1 sd_170))))) (al_2 (k := 174) (al_2 (k := 172) (al_2 (k := 171) (al_1 sd_171) (al_1 sd_172)) (al_2 (k := 173) (al_1 sd_173) (al_1 sd_174))) (al_2 (k := 176) (al_2 (k := 175) (al_1 sd_175) (al_1 sd_176)) (al_2 (k := 177) (al_1 sd_177) (al_2 (k := 178) (al_1 sd_178) (al_1 sd_179))))))) (al_2 (k := 197) (al_2 (k := 188) (al_2 (k := 183) (al_2 (k := 181) (al_2 (k := 180) (al_1 sd_180) (al_1 sd_181)) (al_2 (k := 182) (al_1 sd_182) (al_1 sd_183))) (al_2 (k := 185) (al_2 (k := 184) (al_1 sd_184) (al_1 sd_185)) (al_2 (k := 186) (al_1 sd_186) (al_2 (k := 187) (al_1 sd_187) (al_1 sd_188))))) (al_2 (k := 192) (al_2 (k := 190) (al_2 (k := 189) (al_1 sd_189) (al_1 sd_190)) (al_2 (k := 191) (al_1 sd_191) (al_1 sd_192))) (al_2 (k := 194) (al_2 (k := 193) (al_1 sd_193) (al_1 sd_194)) (al_2 (k := 195) (al_1 sd_195) (al_2 (k := 196) (al_1 sd_196) (al_1 sd_197)))))) (al_2 (k := 206) (al_2 (k := 201) (al_2 (k := 199) (al_2 (k := 198) (al_1 sd_198) (al_1 sd_199)) (al_2 (k := 200) (al_1 sd_200) (al_1 sd_201))) (al_2 (k := 203) (al_2 (k := 202) (al_1 sd_202) (al_1 sd_203)) (al_2 (k := 204) (al_1 sd_204) (al_2 (k := 205) (al_1 sd_205) (al_1 sd_206))))) (al_2 (k := 210) (al_2 (k := 208) (al_2 (k := 207) (al_1 sd_207) (al_1 sd_208)) (al_2 (k := 209) (al_1 sd_209) (al_1 sd_210))) (al_2 (k := 212) (al_2 (k := 211) (al_1 sd_211) (al_1 sd_212)) (al_2 (k := 213) (al_1 sd_213) (al_2 (k := 214) (al_1 sd_214) (al_1 sd_215)))))))) (al_2 (k := 251) (al_2 (k := 233) (al_2 (k := 224) (al_2 (k := 219) (al_2 (k := 217) (al_2 (k := 216) (al_1 sd_216) (al_1 sd_217)) (al_2 (k := 218) (al_1 sd_218) (al_1 sd_219))) (al_2 (k := 221) (al_2 (k := 220) (al_1 sd_220) (al_1 sd_221)) (al_2 (k := 222) (al_1 sd_222) (al_2 (k := 223) (al_1 sd_223) (al_1 sd_224))))) (al_2 (k := 228) (al_2 (k := 226) (al_2 (k := 225) (al_1 sd_225) (al_1 sd_226)) (al_2 (k := 227) (al_1 sd_227) (al_1 sd_228))) (al_2 (k := 230) (al_2 (k := 229) (al_1 sd_229) (al_1 sd_230)) (al_2 (k := 231) (al_1 sd_231) (al_2 (k := 232) (al_1 sd_232) (al_1 sd_233)))))) (al_2 (k := 242) (al_2 (k := 237) (al_2 (k := 235) (al_2 (k := 234) (al_1 sd_234) (al_1 sd_235)) (al_2 (k := 236) (al_1 sd_236) (al_1 sd_237))) (al_2 (k := 239) (al_2 (k := 238) (al_1 sd_238) (al_1 sd_239)) (al_2 (k := 240) (al_1 sd_240) (al_2 (k := 241) (al_1 sd_241) (al_1 sd_242))))) (al_2 (k := 246) (al_2 (k := 244) (al_2 (k := 243) (al_1 sd_243) (al_1 sd_244)) (al_2 (k := 245) (al_1 sd_245) (al_1 sd_246))) (al_2 (k := 248) (al_2 (k := 247) (al_1 sd_247) (al_1 sd_248)) (al_2 (k := 249) (al_1 sd_249) (al_2 (k := 250) (al_1 sd_250) (al_1 sd_251))))))) (al_2 (k := 269) (al_2 (k := 260) (al_2 (k := 255) (al_2 (k := 253) (al_2 (k := 252) (al_1 sd_252) (al_1 sd_253)) (al_2 (k := 254) (al_1 sd_254) (al_1 sd_255))) (al_2 (k := 257) (al_2 (k := 256) (al_1 sd_256) (al_1 sd_257)) (al_2 (k := 258) (al_1 sd_258) (al_2 (k := 259) (al_1 sd_259) (al_1 sd_260))))) (al_2 (k := 264) (al_2 (k := 262) (al_2 (k := 261) (al_1 sd_261) (al_1 sd_262)) (al_2 (k := 263) (al_1 sd_263) (al_1 sd_264))) (al_2 (k := 266) (al_2 (k := 265) (al_1 sd_265) (al_1 sd_266)) (al_2 (k := 267) (al_1 sd_267) (al_2 (k := 268) (al_1 sd_268) (al_1 sd_269)))))) (al_2 (k := 278) (al_2 (k := 273) (al_2 (k := 271) (al_2 (k := 270) (al_1 sd_270) (al_1 sd_271)) (al_2 (k := 272) (al_1 sd_272) (al_1 sd_273))) (al_2 (k := 275) (al_2 (k := 274) (al_1 sd_274) (al_1 sd_275)) (al_2 (k := 276) (al_1 sd_276) (al_2 (k := 277) (al_1 sd_277) (al_1 sd_278))))) (al_2 (k := 282) (al_2 (k := 280) (al_2 (k := 279) (al_1 sd_279) (al_1 sd_280)) (al_2 (k := 281) (al_1 sd_281) (al_1 sd_282))) (al_2 (k := 284) (al_2 (k := 283) (al_1 sd_283) (al_1 sd_284)) (al_2 (k := 285) (al_1 sd_285) (al_2 (k := 286) (al_1 sd_286) (al_1 sd_287)))))))))
theorem OK_all (mi : Nat) : am_OK PR mi := by
  rcases Nat.lt_or_ge 287 mi with h | h
  · have e := PR_big h
    have k := OK_le 287 (Nat.zero_le _) (Nat.le_refl _)
    unfold am_OK am_Snd am_Cx at k ⊢
    rw [e]
    exact k
  · exact OK_le mi (Nat.zero_le _) h
def h0 : am_Hp := (0, 0, fun _ => (0, 0), fun _ _ => 0, fun _ _ => 0, fun _ _ => none)
/-- what the law may call -/
def cL (d : Nat) : am_C := fun mi' a h Q' => mi' < 1000 ∧ ∃ B' : Nat × Nat, hN h ≤ B'.1 ∧ B'.1 ≤ BB.1 ∧ hZ h ≤ B'.2 ∧ B'.2 ≤ BB.2 ∧ am_Spec PR d mi' B' a h Q'
def qL : am_Q := fun r h => r = some (.int 1) ∧ hN h ≤ BB.1 ∧ hZ h ≤ BB.2
/-- heaps with the same picture -/
def am_eqH (h h2 : am_Hp) : Prop := hN h = hN h2 ∧ hZ h = hZ h2 ∧ ∀ (b0 : Nat) (ca : Nat → ClassId) (D : va_G) (H : Heap) (i : Nat), i < hN h2 → va_at D vwCl (b0 + i, am_cell b0 ca h i) H → va_at D vwCl (b0 + i, am_cell b0 ca h2 i) H
/-- the same as am_WP, but a heap may be taken for one with the same picture -/
def am_WPe (cd : Nat → am_T) (B : Nat × Nat) (C : am_C) (Q : am_Q) (pc : Nat) (ls : am_Ls) (st : List Value) (h : am_Hp) : Prop :=
  ∀ P : am_K, (∀ (K : am_K) (pc : Nat) (ls : am_Ls) (st : List Value) (h : am_Hp), (∀ (pc : Nat) (ls : am_Ls) (st : List Value) (h : am_Hp), K pc ls st h → P pc ls st h) → cd pc B K C Q ls st h → P pc ls st h) → (∀ (pc : Nat) (ls : am_Ls) (st : List Value) (h h2 : am_Hp), am_eqH h h2 → P pc ls st h2 → P pc ls st h) → P pc ls st h
theorem am_WP.e {cd : Nat → am_T} {B : Nat × Nat} {C : am_C} {Q : am_Q} {pc : Nat} {ls : am_Ls} {st : List Value} {h : am_Hp} (w : am_WP cd B C Q pc ls st h) : am_WPe cd B C Q pc ls st h := fun P h1 _ => w P h1
theorem am_WPe.eq {cd : Nat → am_T} {B : Nat × Nat} {C : am_C} {Q : am_Q} {pc : Nat} {ls : am_Ls} {st : List Value} {h h2 : am_Hp} (e : am_eqH h h2) (w : am_WPe cd B C Q pc ls st h2) : am_WPe cd B C Q pc ls st h := fun P h1 h2' => h2' _ _ _ _ _ e (w P h1 h2')
theorem am_WPe.run {cd : Nat → am_T} {B : Nat × Nat} {C : am_C} {Q : am_Q} (stop : Nat → Bool) : ∀ (n : Nat) {pc : Nat} {ls : am_Ls} {st : List Value} {h : am_Hp}, am_run cd B C Q stop (am_WPe cd B C Q) n pc ls st h → am_WPe cd B C Q pc ls st h
  | 0, _, _, _, _, x => x
  | n + 1, pc, ls, st, h, x => fun P hP hE => hP _ pc ls st h (fun pc' ls' st' h' w => by
      have w' : am_WPe cd B C Q pc' ls' st' h' := by
        cases hs : stop pc' with
        | true => rw [hs] at w; exact w
        | false => rw [hs] at w; exact am_WPe.run stop n w
      exact w' P hP hE) x
set_option maxRecDepth 100000 in
set_option maxHeartbeats 4000000 in
theorem whole_of {p : Program} {e : Env} {s : State} {m : MethodId} {below : List Frame} {meth : Method} {c : Code} (l : Launch) {b L : Nat} {xs : Nat → Int32} (C0 : lw_At p s m meth c b L xs) (d : Nat) (hd : d ≤ 1000)
    (hw : am_WPe (cdL L xs) BB (cL d) qL 0 [some (.retAddr 5), none, none, none] [] h0) : W p l e room_1 s m #[Value.ref b] below meth c s.heap [] 0 0 (lw_Z below #[Value.ref b] s) (entryFrame m ([Value.ref b] : List Value).toArray 4) := by
  obtain ⟨hx, hb, hr, hml, hown, hts, hX, hbl, hlocks, hgv⟩ := C0
  obtain ⟨ro, ca, D, hro, hK, hRo⟩ := am_start b hts hgv
  have cx : am_Cx (PRL meth.name) s.heap.size ro ca D 1000 p s m #[Value.ref b] meth c 0 := ⟨hx, hb, hown, fun w hw => hts w (tblG_in w hw), rfl, hK, hRo, rfl⟩
  have key := hw (am_St s.heap.size ro ca D p l e room_1 s m #[Value.ref b] below meth c (lw_Z below #[Value.ref b] s) 0 0) ?_ ?_
  · have en := am_entry (b0 := s.heap.size) (ro := ro) (n := 4) (args := [.retAddr 5]) (by decide)
    have e1 : ([.retAddr 5] : List Value).map (am_con s.heap.size ro) = [Value.ref b] := by
      show [am_con s.heap.size ro (.retAddr 5)] = _
      rw [am_con_5, hro]
    rw [e1] at en
    rw [lg_entry_eq]
    unfold am_St at key
    rw [hml] at key
    exact key s.heap [] _ (fun k q hq => absurd (am_ws_some hq).1 (Nat.not_lt_zero k)) va_S.rf en (Nat.le_refl _) (Nat.le_refl _)
  · intro K pc ls st h' HK x
    refine sdL meth.name L xs pc s.heap.size ro ca D p l e room_1 s m _ below meth c _ 0 0 d BB K _ _ cx ⟨by rw [hro]; exact hX, by rw [hro]; exact hbl, by rw [hro]; exact hbl⟩ ⟨by decide, by decide, ?_, ?_⟩ HK ?_ ?_ ls st h' x
    · show d + 1 ≤ 2048
      omega
    · show 60 * (d + 1) ≤ 84000
      omega
    · rintro mi' a h1 Q' ⟨hmi, B', c1, c2, c3, c4, hsp⟩
      have hM := am_sound PR OK_all d mi' B' a h1 Q' c1 c3 hsp l s.heap.size ro ca D
      have e2 : PRL meth.name mi' = PR mi' := by
        show (bif Nat.beq mi' 1000 then _ else _) = _
        rw [am_beq (Nat.ne_of_lt hmi)]
        rfl
      refine ⟨B'.1 - hN h1, B'.2 - hZ h1, by omega, by omega, ?_⟩
      unfold am_Met am_words at hM ⊢
      rw [e2]
      exact hM
    · rintro r h1 pc ls ⟨rfl, q1, q2⟩ hro' hdc H locs LS rR rS rL rn rz
      refine va_forget (fun q hq => rS.2.2 q hq) ?_
      refine W.widen (k := 600000) (n := 7302250) (Nat.le_trans (Nat.sub_le _ _) (Nat.le_trans q1 (by decide))) (Nat.le_trans (Nat.sub_le _ _) (Nat.le_trans q2 (by decide))) ?_
      exact lw_ret hx hb hr hlocks hdc
  · intro pc ls st h h2 he kk H locs LS rR rS rL rn rz
    obtain ⟨e1, e2, e3⟩ := he
    rw [e1, e2]
    refine kk H locs LS (fun k q hq => ?_) rS rL (Nat.zero_le _) (Nat.zero_le _)
    obtain ⟨hk, rfl⟩ := am_ws_some hq
    exact e3 _ _ _ _ _ hk (rR k _ (am_ws_get (by rw [e1]; exact hk)))
