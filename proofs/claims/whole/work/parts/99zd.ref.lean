theorem k_1545 : Cond.methodLink RX14 1 Lib.objectInit ∈ mtb := mk_s6 212 rfl rfl
/-! ===== the reference's constructor ===== -/
section AF
variable {sh : Int → Nat × Nat} {z : Mz} {n : Nat} {p : Program} {l : Launch} {e : Env} {R : Room} {s : State} {m : MethodId} {args : Array Value} {below : List Frame} {meth : Method} {c : Code} {cc : ByteArray} {nL : Nat} {own : String} {Q : State → Prop} {cells slots pc : Nat} {lo : List (Nat × Mv)} {st : List Mv} {h : Mh}
theorem a_fillC (C : aC sh z n p l e R s m args below meth c cc nL own) {a len pc1 pc2 pc3 pc4 : Nat} {i v : Int} (hi : r32 i) (hv : r32 v) (hv8 : (Int8.ofInt v).toInt32 = Int32.ofInt v) (ha : a < n) (hsh : sh a = (14, len)) (h0 : 0 ≤ i) (h1 : i < len) (d1 : decode cc pc = .ok (.dup, 1)) (d2 : decode cc pc1 = .ok (.iconst i, 1)) (d3 : decode cc pc2 = .ok (.bipush v, 2)) (d4 : decode cc pc3 = .ok (.iastore, 1)) (q1 : pc + 1 = pc1) (q2 : pc1 + 1 = pc2) (q3 : pc2 + 2 = pc3) (q4 : pc3 + 1 = pc4) (k : ∀ h1 : Mh, h1 = up h a i v → aG sh z n p l e R s m args below meth c nL Q cells slots pc4 lo ((2, (a : Int)) :: st) h1) : aG sh z n p l e R s m args below meth c nL Q cells slots pc lo ((2, (a : Int)) :: st) h := by
  refine a_dup C (show ¬ (2 : Nat) = 1 by decide) d1 ?_
  rw [q1]
  refine a_iconst C hi d2 ?_
  rw [q2]
  refine a_bipush C hv hv8 d3 ?_
  rw [q3]
  refine a_iastoreE C d4 ha hsh h0 h1 (fun g e => ?_)
  rw [q4]
  exact k g e
theorem a_fillB (C : aC sh z n p l e R s m args below meth c cc nL own) {a len pc1 pc2 pc3 pc4 : Nat} {i v : Int} (hi : r32 i) (hi8 : (Int8.ofInt i).toInt32 = Int32.ofInt i) (hv : r32 v) (hv8 : (Int8.ofInt v).toInt32 = Int32.ofInt v) (ha : a < n) (hsh : sh a = (14, len)) (h0 : 0 ≤ i) (h1 : i < len) (d1 : decode cc pc = .ok (.dup, 1)) (d2 : decode cc pc1 = .ok (.bipush i, 2)) (d3 : decode cc pc2 = .ok (.bipush v, 2)) (d4 : decode cc pc3 = .ok (.iastore, 1)) (q1 : pc + 1 = pc1) (q2 : pc1 + 2 = pc2) (q3 : pc2 + 2 = pc3) (q4 : pc3 + 1 = pc4) (k : ∀ h1 : Mh, h1 = up h a i v → aG sh z n p l e R s m args below meth c nL Q cells slots pc4 lo ((2, (a : Int)) :: st) h1) : aG sh z n p l e R s m args below meth c nL Q cells slots pc lo ((2, (a : Int)) :: st) h := by
  refine a_dup C (show ¬ (2 : Nat) = 1 by decide) d1 ?_
  rw [q1]
  refine a_bipush C hi hi8 d2 ?_
  rw [q2]
  refine a_bipush C hv hv8 d3 ?_
  rw [q3]
  refine a_iastoreE C d4 ha hsh h0 h1 (fun g e => ?_)
  rw [q4]
  exact k g e
def a_wordsAL : List (Int × Int × Int) := [(((2 : Nat) : Int), 0, 112), (((2 : Nat) : Int), 1, 111), (((2 : Nat) : Int), 2, 110), (((2 : Nat) : Int), 3, 100), (((2 : Nat) : Int), 4, 32), (((2 : Nat) : Int), 5, 108), (((2 : Nat) : Int), 6, 97), (((2 : Nat) : Int), 7, 110), (((2 : Nat) : Int), 8, 100), (((2 : Nat) : Int), 9, 32), (((2 : Nat) : Int), 10, 114), (((2 : Nat) : Int), 11, 101), (((2 : Nat) : Int), 12, 101), (((2 : Nat) : Int), 13, 100), (((2 : Nat) : Int), 14, 32), (((2 : Nat) : Int), 15, 115), (((2 : Nat) : Int), 16, 104), (((2 : Nat) : Int), 17, 111), (((2 : Nat) : Int), 18, 114), (((2 : Nat) : Int), 19, 101), (((2 : Nat) : Int), 20, 32), (((2 : Nat) : Int), 21, 107), (((2 : Nat) : Int), 22, 105), (((2 : Nat) : Int), 23, 110), (((2 : Nat) : Int), 24, 100), (((2 : Nat) : Int), 25, 32), (((2 : Nat) : Int), 26, 99), (((2 : Nat) : Int), 27, 111), (((2 : Nat) : Int), 28, 114), (((2 : Nat) : Int), 29, 107), (((2 : Nat) : Int), 30, 32), (((2 : Nat) : Int), 31, 115), (((2 : Nat) : Int), 32, 107), (((2 : Nat) : Int), 33, 97), (((2 : Nat) : Int), 34, 116), (((2 : Nat) : Int), 35, 101), (((2 : Nat) : Int), 36, 114), (((2 : Nat) : Int), 37, 32), (((2 : Nat) : Int), 38, 100), (((2 : Nat) : Int), 39, 114), (((2 : Nat) : Int), 40, 111), (((2 : Nat) : Int), 41, 112), (((2 : Nat) : Int), 42, 32), (((2 : Nat) : Int), 43, 108), (((2 : Nat) : Int), 44, 111), (((2 : Nat) : Int), 45, 115), (((2 : Nat) : Int), 46, 115), (((2 : Nat) : Int), 47, 32), (((2 : Nat) : Int), 48, 116), (((2 : Nat) : Int), 49, 104), (((2 : Nat) : Int), 50, 105), (((2 : Nat) : Int), 51, 99), (((2 : Nat) : Int), 52, 107), (((2 : Nat) : Int), 53, 32)]
theorem a_wordsA (C : aC sh z n p l e R s m args below meth c cX14_init nL own) (ha : 2 < n) (hsh : sh ((2 : Nat) : Int) = (14, 108)) (k : ∀ h1 : Mh, h1 = ups a_wordsAL h → aG sh z n p l e R s m args below meth c nL Q cells slots 336 lo ((2, ((2 : Nat) : Int)) :: st) h1) : aG sh z n p l e R s m args below meth c nL Q cells slots 18 lo ((2, ((2 : Nat) : Int)) :: st) h := by
  refine a_fillC C (pc4 := 23) ⟨by decide, by decide⟩ ⟨by decide, by decide⟩ (by decide) ha hsh (by decide) (by decide) dX14_init_18 dX14_init_19 dX14_init_20 dX14_init_22 rfl rfl rfl rfl (fun g0 e0 => ?_)
  refine a_fillC C (pc4 := 28) ⟨by decide, by decide⟩ ⟨by decide, by decide⟩ (by decide) ha hsh (by decide) (by decide) dX14_init_23 dX14_init_24 dX14_init_25 dX14_init_27 rfl rfl rfl rfl (fun g1 e1 => ?_)
  refine a_fillC C (pc4 := 33) ⟨by decide, by decide⟩ ⟨by decide, by decide⟩ (by decide) ha hsh (by decide) (by decide) dX14_init_28 dX14_init_29 dX14_init_30 dX14_init_32 rfl rfl rfl rfl (fun g2 e2 => ?_)
  refine a_fillC C (pc4 := 38) ⟨by decide, by decide⟩ ⟨by decide, by decide⟩ (by decide) ha hsh (by decide) (by decide) dX14_init_33 dX14_init_34 dX14_init_35 dX14_init_37 rfl rfl rfl rfl (fun g3 e3 => ?_)
  refine a_fillC C (pc4 := 43) ⟨by decide, by decide⟩ ⟨by decide, by decide⟩ (by decide) ha hsh (by decide) (by decide) dX14_init_38 dX14_init_39 dX14_init_40 dX14_init_42 rfl rfl rfl rfl (fun g4 e4 => ?_)
  refine a_fillC C (pc4 := 48) ⟨by decide, by decide⟩ ⟨by decide, by decide⟩ (by decide) ha hsh (by decide) (by decide) dX14_init_43 dX14_init_44 dX14_init_45 dX14_init_47 rfl rfl rfl rfl (fun g5 e5 => ?_)
  refine a_fillB C (pc4 := 54) ⟨by decide, by decide⟩ (by decide) ⟨by decide, by decide⟩ (by decide) ha hsh (by decide) (by decide) dX14_init_48 dX14_init_49 dX14_init_51 dX14_init_53 rfl rfl rfl rfl (fun g6 e6 => ?_)
  refine a_fillB C (pc4 := 60) ⟨by decide, by decide⟩ (by decide) ⟨by decide, by decide⟩ (by decide) ha hsh (by decide) (by decide) dX14_init_54 dX14_init_55 dX14_init_57 dX14_init_59 rfl rfl rfl rfl (fun g7 e7 => ?_)
  refine a_fillB C (pc4 := 66) ⟨by decide, by decide⟩ (by decide) ⟨by decide, by decide⟩ (by decide) ha hsh (by decide) (by decide) dX14_init_60 dX14_init_61 dX14_init_63 dX14_init_65 rfl rfl rfl rfl (fun g8 e8 => ?_)
  refine a_fillB C (pc4 := 72) ⟨by decide, by decide⟩ (by decide) ⟨by decide, by decide⟩ (by decide) ha hsh (by decide) (by decide) dX14_init_66 dX14_init_67 dX14_init_69 dX14_init_71 rfl rfl rfl rfl (fun g9 e9 => ?_)
  refine a_fillB C (pc4 := 78) ⟨by decide, by decide⟩ (by decide) ⟨by decide, by decide⟩ (by decide) ha hsh (by decide) (by decide) dX14_init_72 dX14_init_73 dX14_init_75 dX14_init_77 rfl rfl rfl rfl (fun g10 e10 => ?_)
  refine a_fillB C (pc4 := 84) ⟨by decide, by decide⟩ (by decide) ⟨by decide, by decide⟩ (by decide) ha hsh (by decide) (by decide) dX14_init_78 dX14_init_79 dX14_init_81 dX14_init_83 rfl rfl rfl rfl (fun g11 e11 => ?_)
  refine a_fillB C (pc4 := 90) ⟨by decide, by decide⟩ (by decide) ⟨by decide, by decide⟩ (by decide) ha hsh (by decide) (by decide) dX14_init_84 dX14_init_85 dX14_init_87 dX14_init_89 rfl rfl rfl rfl (fun g12 e12 => ?_)
  refine a_fillB C (pc4 := 96) ⟨by decide, by decide⟩ (by decide) ⟨by decide, by decide⟩ (by decide) ha hsh (by decide) (by decide) dX14_init_90 dX14_init_91 dX14_init_93 dX14_init_95 rfl rfl rfl rfl (fun g13 e13 => ?_)
  refine a_fillB C (pc4 := 102) ⟨by decide, by decide⟩ (by decide) ⟨by decide, by decide⟩ (by decide) ha hsh (by decide) (by decide) dX14_init_96 dX14_init_97 dX14_init_99 dX14_init_101 rfl rfl rfl rfl (fun g14 e14 => ?_)
  refine a_fillB C (pc4 := 108) ⟨by decide, by decide⟩ (by decide) ⟨by decide, by decide⟩ (by decide) ha hsh (by decide) (by decide) dX14_init_102 dX14_init_103 dX14_init_105 dX14_init_107 rfl rfl rfl rfl (fun g15 e15 => ?_)
  refine a_fillB C (pc4 := 114) ⟨by decide, by decide⟩ (by decide) ⟨by decide, by decide⟩ (by decide) ha hsh (by decide) (by decide) dX14_init_108 dX14_init_109 dX14_init_111 dX14_init_113 rfl rfl rfl rfl (fun g16 e16 => ?_)
  refine a_fillB C (pc4 := 120) ⟨by decide, by decide⟩ (by decide) ⟨by decide, by decide⟩ (by decide) ha hsh (by decide) (by decide) dX14_init_114 dX14_init_115 dX14_init_117 dX14_init_119 rfl rfl rfl rfl (fun g17 e17 => ?_)
  refine a_fillB C (pc4 := 126) ⟨by decide, by decide⟩ (by decide) ⟨by decide, by decide⟩ (by decide) ha hsh (by decide) (by decide) dX14_init_120 dX14_init_121 dX14_init_123 dX14_init_125 rfl rfl rfl rfl (fun g18 e18 => ?_)
  refine a_fillB C (pc4 := 132) ⟨by decide, by decide⟩ (by decide) ⟨by decide, by decide⟩ (by decide) ha hsh (by decide) (by decide) dX14_init_126 dX14_init_127 dX14_init_129 dX14_init_131 rfl rfl rfl rfl (fun g19 e19 => ?_)
  refine a_fillB C (pc4 := 138) ⟨by decide, by decide⟩ (by decide) ⟨by decide, by decide⟩ (by decide) ha hsh (by decide) (by decide) dX14_init_132 dX14_init_133 dX14_init_135 dX14_init_137 rfl rfl rfl rfl (fun g20 e20 => ?_)
  refine a_fillB C (pc4 := 144) ⟨by decide, by decide⟩ (by decide) ⟨by decide, by decide⟩ (by decide) ha hsh (by decide) (by decide) dX14_init_138 dX14_init_139 dX14_init_141 dX14_init_143 rfl rfl rfl rfl (fun g21 e21 => ?_)
  refine a_fillB C (pc4 := 150) ⟨by decide, by decide⟩ (by decide) ⟨by decide, by decide⟩ (by decide) ha hsh (by decide) (by decide) dX14_init_144 dX14_init_145 dX14_init_147 dX14_init_149 rfl rfl rfl rfl (fun g22 e22 => ?_)
  refine a_fillB C (pc4 := 156) ⟨by decide, by decide⟩ (by decide) ⟨by decide, by decide⟩ (by decide) ha hsh (by decide) (by decide) dX14_init_150 dX14_init_151 dX14_init_153 dX14_init_155 rfl rfl rfl rfl (fun g23 e23 => ?_)
  refine a_fillB C (pc4 := 162) ⟨by decide, by decide⟩ (by decide) ⟨by decide, by decide⟩ (by decide) ha hsh (by decide) (by decide) dX14_init_156 dX14_init_157 dX14_init_159 dX14_init_161 rfl rfl rfl rfl (fun g24 e24 => ?_)
  refine a_fillB C (pc4 := 168) ⟨by decide, by decide⟩ (by decide) ⟨by decide, by decide⟩ (by decide) ha hsh (by decide) (by decide) dX14_init_162 dX14_init_163 dX14_init_165 dX14_init_167 rfl rfl rfl rfl (fun g25 e25 => ?_)
  refine a_fillB C (pc4 := 174) ⟨by decide, by decide⟩ (by decide) ⟨by decide, by decide⟩ (by decide) ha hsh (by decide) (by decide) dX14_init_168 dX14_init_169 dX14_init_171 dX14_init_173 rfl rfl rfl rfl (fun g26 e26 => ?_)
  refine a_fillB C (pc4 := 180) ⟨by decide, by decide⟩ (by decide) ⟨by decide, by decide⟩ (by decide) ha hsh (by decide) (by decide) dX14_init_174 dX14_init_175 dX14_init_177 dX14_init_179 rfl rfl rfl rfl (fun g27 e27 => ?_)
  refine a_fillB C (pc4 := 186) ⟨by decide, by decide⟩ (by decide) ⟨by decide, by decide⟩ (by decide) ha hsh (by decide) (by decide) dX14_init_180 dX14_init_181 dX14_init_183 dX14_init_185 rfl rfl rfl rfl (fun g28 e28 => ?_)
  refine a_fillB C (pc4 := 192) ⟨by decide, by decide⟩ (by decide) ⟨by decide, by decide⟩ (by decide) ha hsh (by decide) (by decide) dX14_init_186 dX14_init_187 dX14_init_189 dX14_init_191 rfl rfl rfl rfl (fun g29 e29 => ?_)
  refine a_fillB C (pc4 := 198) ⟨by decide, by decide⟩ (by decide) ⟨by decide, by decide⟩ (by decide) ha hsh (by decide) (by decide) dX14_init_192 dX14_init_193 dX14_init_195 dX14_init_197 rfl rfl rfl rfl (fun g30 e30 => ?_)
  refine a_fillB C (pc4 := 204) ⟨by decide, by decide⟩ (by decide) ⟨by decide, by decide⟩ (by decide) ha hsh (by decide) (by decide) dX14_init_198 dX14_init_199 dX14_init_201 dX14_init_203 rfl rfl rfl rfl (fun g31 e31 => ?_)
  refine a_fillB C (pc4 := 210) ⟨by decide, by decide⟩ (by decide) ⟨by decide, by decide⟩ (by decide) ha hsh (by decide) (by decide) dX14_init_204 dX14_init_205 dX14_init_207 dX14_init_209 rfl rfl rfl rfl (fun g32 e32 => ?_)
  refine a_fillB C (pc4 := 216) ⟨by decide, by decide⟩ (by decide) ⟨by decide, by decide⟩ (by decide) ha hsh (by decide) (by decide) dX14_init_210 dX14_init_211 dX14_init_213 dX14_init_215 rfl rfl rfl rfl (fun g33 e33 => ?_)
  refine a_fillB C (pc4 := 222) ⟨by decide, by decide⟩ (by decide) ⟨by decide, by decide⟩ (by decide) ha hsh (by decide) (by decide) dX14_init_216 dX14_init_217 dX14_init_219 dX14_init_221 rfl rfl rfl rfl (fun g34 e34 => ?_)
  refine a_fillB C (pc4 := 228) ⟨by decide, by decide⟩ (by decide) ⟨by decide, by decide⟩ (by decide) ha hsh (by decide) (by decide) dX14_init_222 dX14_init_223 dX14_init_225 dX14_init_227 rfl rfl rfl rfl (fun g35 e35 => ?_)
  refine a_fillB C (pc4 := 234) ⟨by decide, by decide⟩ (by decide) ⟨by decide, by decide⟩ (by decide) ha hsh (by decide) (by decide) dX14_init_228 dX14_init_229 dX14_init_231 dX14_init_233 rfl rfl rfl rfl (fun g36 e36 => ?_)
  refine a_fillB C (pc4 := 240) ⟨by decide, by decide⟩ (by decide) ⟨by decide, by decide⟩ (by decide) ha hsh (by decide) (by decide) dX14_init_234 dX14_init_235 dX14_init_237 dX14_init_239 rfl rfl rfl rfl (fun g37 e37 => ?_)
  refine a_fillB C (pc4 := 246) ⟨by decide, by decide⟩ (by decide) ⟨by decide, by decide⟩ (by decide) ha hsh (by decide) (by decide) dX14_init_240 dX14_init_241 dX14_init_243 dX14_init_245 rfl rfl rfl rfl (fun g38 e38 => ?_)
  refine a_fillB C (pc4 := 252) ⟨by decide, by decide⟩ (by decide) ⟨by decide, by decide⟩ (by decide) ha hsh (by decide) (by decide) dX14_init_246 dX14_init_247 dX14_init_249 dX14_init_251 rfl rfl rfl rfl (fun g39 e39 => ?_)
  refine a_fillB C (pc4 := 258) ⟨by decide, by decide⟩ (by decide) ⟨by decide, by decide⟩ (by decide) ha hsh (by decide) (by decide) dX14_init_252 dX14_init_253 dX14_init_255 dX14_init_257 rfl rfl rfl rfl (fun g40 e40 => ?_)
  refine a_fillB C (pc4 := 264) ⟨by decide, by decide⟩ (by decide) ⟨by decide, by decide⟩ (by decide) ha hsh (by decide) (by decide) dX14_init_258 dX14_init_259 dX14_init_261 dX14_init_263 rfl rfl rfl rfl (fun g41 e41 => ?_)
  refine a_fillB C (pc4 := 270) ⟨by decide, by decide⟩ (by decide) ⟨by decide, by decide⟩ (by decide) ha hsh (by decide) (by decide) dX14_init_264 dX14_init_265 dX14_init_267 dX14_init_269 rfl rfl rfl rfl (fun g42 e42 => ?_)
  refine a_fillB C (pc4 := 276) ⟨by decide, by decide⟩ (by decide) ⟨by decide, by decide⟩ (by decide) ha hsh (by decide) (by decide) dX14_init_270 dX14_init_271 dX14_init_273 dX14_init_275 rfl rfl rfl rfl (fun g43 e43 => ?_)
  refine a_fillB C (pc4 := 282) ⟨by decide, by decide⟩ (by decide) ⟨by decide, by decide⟩ (by decide) ha hsh (by decide) (by decide) dX14_init_276 dX14_init_277 dX14_init_279 dX14_init_281 rfl rfl rfl rfl (fun g44 e44 => ?_)
  refine a_fillB C (pc4 := 288) ⟨by decide, by decide⟩ (by decide) ⟨by decide, by decide⟩ (by decide) ha hsh (by decide) (by decide) dX14_init_282 dX14_init_283 dX14_init_285 dX14_init_287 rfl rfl rfl rfl (fun g45 e45 => ?_)
  refine a_fillB C (pc4 := 294) ⟨by decide, by decide⟩ (by decide) ⟨by decide, by decide⟩ (by decide) ha hsh (by decide) (by decide) dX14_init_288 dX14_init_289 dX14_init_291 dX14_init_293 rfl rfl rfl rfl (fun g46 e46 => ?_)
  refine a_fillB C (pc4 := 300) ⟨by decide, by decide⟩ (by decide) ⟨by decide, by decide⟩ (by decide) ha hsh (by decide) (by decide) dX14_init_294 dX14_init_295 dX14_init_297 dX14_init_299 rfl rfl rfl rfl (fun g47 e47 => ?_)
  refine a_fillB C (pc4 := 306) ⟨by decide, by decide⟩ (by decide) ⟨by decide, by decide⟩ (by decide) ha hsh (by decide) (by decide) dX14_init_300 dX14_init_301 dX14_init_303 dX14_init_305 rfl rfl rfl rfl (fun g48 e48 => ?_)
  refine a_fillB C (pc4 := 312) ⟨by decide, by decide⟩ (by decide) ⟨by decide, by decide⟩ (by decide) ha hsh (by decide) (by decide) dX14_init_306 dX14_init_307 dX14_init_309 dX14_init_311 rfl rfl rfl rfl (fun g49 e49 => ?_)
  refine a_fillB C (pc4 := 318) ⟨by decide, by decide⟩ (by decide) ⟨by decide, by decide⟩ (by decide) ha hsh (by decide) (by decide) dX14_init_312 dX14_init_313 dX14_init_315 dX14_init_317 rfl rfl rfl rfl (fun g50 e50 => ?_)
  refine a_fillB C (pc4 := 324) ⟨by decide, by decide⟩ (by decide) ⟨by decide, by decide⟩ (by decide) ha hsh (by decide) (by decide) dX14_init_318 dX14_init_319 dX14_init_321 dX14_init_323 rfl rfl rfl rfl (fun g51 e51 => ?_)
  refine a_fillB C (pc4 := 330) ⟨by decide, by decide⟩ (by decide) ⟨by decide, by decide⟩ (by decide) ha hsh (by decide) (by decide) dX14_init_324 dX14_init_325 dX14_init_327 dX14_init_329 rfl rfl rfl rfl (fun g52 e52 => ?_)
  refine a_fillB C (pc4 := 336) ⟨by decide, by decide⟩ (by decide) ⟨by decide, by decide⟩ (by decide) ha hsh (by decide) (by decide) dX14_init_330 dX14_init_331 dX14_init_333 dX14_init_335 rfl rfl rfl rfl (fun g53 e53 => ?_)
  exact k _ (by rw [e53, e52, e51, e50, e49, e48, e47, e46, e45, e44, e43, e42, e41, e40, e39, e38, e37, e36, e35, e34, e33, e32, e31, e30, e29, e28, e27, e26, e25, e24, e23, e22, e21, e20, e19, e18, e17, e16, e15, e14, e13, e12, e11, e10, e9, e8, e7, e6, e5, e4, e3, e2, e1, e0]; rfl)
def a_wordsBL : List (Int × Int × Int) := [(((2 : Nat) : Int), 54, 115), (((2 : Nat) : Int), 55, 101), (((2 : Nat) : Int), 56, 110), (((2 : Nat) : Int), 57, 116), (((2 : Nat) : Int), 58, 32), (((2 : Nat) : Int), 59, 108), (((2 : Nat) : Int), 60, 97), (((2 : Nat) : Int), 61, 119), (((2 : Nat) : Int), 62, 32), (((2 : Nat) : Int), 63, 109), (((2 : Nat) : Int), 64, 97), (((2 : Nat) : Int), 65, 121), (((2 : Nat) : Int), 66, 32), (((2 : Nat) : Int), 67, 111), (((2 : Nat) : Int), 68, 100), (((2 : Nat) : Int), 69, 100), (((2 : Nat) : Int), 70, 115), (((2 : Nat) : Int), 71, 32), (((2 : Nat) : Int), 72, 97), (((2 : Nat) : Int), 73, 110), (((2 : Nat) : Int), 74, 100), (((2 : Nat) : Int), 75, 32), (((2 : Nat) : Int), 76, 111), (((2 : Nat) : Int), 77, 114), (((2 : Nat) : Int), 78, 32), (((2 : Nat) : Int), 79, 110), (((2 : Nat) : Int), 80, 111), (((2 : Nat) : Int), 81, 116), (((2 : Nat) : Int), 82, 32), (((2 : Nat) : Int), 83, 114), (((2 : Nat) : Int), 84, 105), (((2 : Nat) : Int), 85, 115), (((2 : Nat) : Int), 86, 101), (((2 : Nat) : Int), 87, 32), (((2 : Nat) : Int), 88, 104), (((2 : Nat) : Int), 89, 101), (((2 : Nat) : Int), 90, 114), (((2 : Nat) : Int), 91, 101), (((2 : Nat) : Int), 92, 32), (((2 : Nat) : Int), 93, 114), (((2 : Nat) : Int), 94, 101), (((2 : Nat) : Int), 95, 101), (((2 : Nat) : Int), 96, 100), (((2 : Nat) : Int), 97, 115), (((2 : Nat) : Int), 98, 32), (((2 : Nat) : Int), 99, 119), (((2 : Nat) : Int), 100, 97), (((2 : Nat) : Int), 101, 121), (((2 : Nat) : Int), 102, 32), (((2 : Nat) : Int), 103, 115), (((2 : Nat) : Int), 104, 116), (((2 : Nat) : Int), 105, 101), (((2 : Nat) : Int), 106, 112), (((2 : Nat) : Int), 107, 32)]
theorem a_wordsB (C : aC sh z n p l e R s m args below meth c cX14_init nL own) (ha : 2 < n) (hsh : sh ((2 : Nat) : Int) = (14, 108)) (k : ∀ h1 : Mh, h1 = ups a_wordsBL h → aG sh z n p l e R s m args below meth c nL Q cells slots 660 lo ((2, ((2 : Nat) : Int)) :: st) h1) : aG sh z n p l e R s m args below meth c nL Q cells slots 336 lo ((2, ((2 : Nat) : Int)) :: st) h := by
  refine a_fillB C (pc4 := 342) ⟨by decide, by decide⟩ (by decide) ⟨by decide, by decide⟩ (by decide) ha hsh (by decide) (by decide) dX14_init_336 dX14_init_337 dX14_init_339 dX14_init_341 rfl rfl rfl rfl (fun g54 e54 => ?_)
  refine a_fillB C (pc4 := 348) ⟨by decide, by decide⟩ (by decide) ⟨by decide, by decide⟩ (by decide) ha hsh (by decide) (by decide) dX14_init_342 dX14_init_343 dX14_init_345 dX14_init_347 rfl rfl rfl rfl (fun g55 e55 => ?_)
  refine a_fillB C (pc4 := 354) ⟨by decide, by decide⟩ (by decide) ⟨by decide, by decide⟩ (by decide) ha hsh (by decide) (by decide) dX14_init_348 dX14_init_349 dX14_init_351 dX14_init_353 rfl rfl rfl rfl (fun g56 e56 => ?_)
  refine a_fillB C (pc4 := 360) ⟨by decide, by decide⟩ (by decide) ⟨by decide, by decide⟩ (by decide) ha hsh (by decide) (by decide) dX14_init_354 dX14_init_355 dX14_init_357 dX14_init_359 rfl rfl rfl rfl (fun g57 e57 => ?_)
  refine a_fillB C (pc4 := 366) ⟨by decide, by decide⟩ (by decide) ⟨by decide, by decide⟩ (by decide) ha hsh (by decide) (by decide) dX14_init_360 dX14_init_361 dX14_init_363 dX14_init_365 rfl rfl rfl rfl (fun g58 e58 => ?_)
  refine a_fillB C (pc4 := 372) ⟨by decide, by decide⟩ (by decide) ⟨by decide, by decide⟩ (by decide) ha hsh (by decide) (by decide) dX14_init_366 dX14_init_367 dX14_init_369 dX14_init_371 rfl rfl rfl rfl (fun g59 e59 => ?_)
  refine a_fillB C (pc4 := 378) ⟨by decide, by decide⟩ (by decide) ⟨by decide, by decide⟩ (by decide) ha hsh (by decide) (by decide) dX14_init_372 dX14_init_373 dX14_init_375 dX14_init_377 rfl rfl rfl rfl (fun g60 e60 => ?_)
  refine a_fillB C (pc4 := 384) ⟨by decide, by decide⟩ (by decide) ⟨by decide, by decide⟩ (by decide) ha hsh (by decide) (by decide) dX14_init_378 dX14_init_379 dX14_init_381 dX14_init_383 rfl rfl rfl rfl (fun g61 e61 => ?_)
  refine a_fillB C (pc4 := 390) ⟨by decide, by decide⟩ (by decide) ⟨by decide, by decide⟩ (by decide) ha hsh (by decide) (by decide) dX14_init_384 dX14_init_385 dX14_init_387 dX14_init_389 rfl rfl rfl rfl (fun g62 e62 => ?_)
  refine a_fillB C (pc4 := 396) ⟨by decide, by decide⟩ (by decide) ⟨by decide, by decide⟩ (by decide) ha hsh (by decide) (by decide) dX14_init_390 dX14_init_391 dX14_init_393 dX14_init_395 rfl rfl rfl rfl (fun g63 e63 => ?_)
  refine a_fillB C (pc4 := 402) ⟨by decide, by decide⟩ (by decide) ⟨by decide, by decide⟩ (by decide) ha hsh (by decide) (by decide) dX14_init_396 dX14_init_397 dX14_init_399 dX14_init_401 rfl rfl rfl rfl (fun g64 e64 => ?_)
  refine a_fillB C (pc4 := 408) ⟨by decide, by decide⟩ (by decide) ⟨by decide, by decide⟩ (by decide) ha hsh (by decide) (by decide) dX14_init_402 dX14_init_403 dX14_init_405 dX14_init_407 rfl rfl rfl rfl (fun g65 e65 => ?_)
  refine a_fillB C (pc4 := 414) ⟨by decide, by decide⟩ (by decide) ⟨by decide, by decide⟩ (by decide) ha hsh (by decide) (by decide) dX14_init_408 dX14_init_409 dX14_init_411 dX14_init_413 rfl rfl rfl rfl (fun g66 e66 => ?_)
  refine a_fillB C (pc4 := 420) ⟨by decide, by decide⟩ (by decide) ⟨by decide, by decide⟩ (by decide) ha hsh (by decide) (by decide) dX14_init_414 dX14_init_415 dX14_init_417 dX14_init_419 rfl rfl rfl rfl (fun g67 e67 => ?_)
  refine a_fillB C (pc4 := 426) ⟨by decide, by decide⟩ (by decide) ⟨by decide, by decide⟩ (by decide) ha hsh (by decide) (by decide) dX14_init_420 dX14_init_421 dX14_init_423 dX14_init_425 rfl rfl rfl rfl (fun g68 e68 => ?_)
  refine a_fillB C (pc4 := 432) ⟨by decide, by decide⟩ (by decide) ⟨by decide, by decide⟩ (by decide) ha hsh (by decide) (by decide) dX14_init_426 dX14_init_427 dX14_init_429 dX14_init_431 rfl rfl rfl rfl (fun g69 e69 => ?_)
  refine a_fillB C (pc4 := 438) ⟨by decide, by decide⟩ (by decide) ⟨by decide, by decide⟩ (by decide) ha hsh (by decide) (by decide) dX14_init_432 dX14_init_433 dX14_init_435 dX14_init_437 rfl rfl rfl rfl (fun g70 e70 => ?_)
  refine a_fillB C (pc4 := 444) ⟨by decide, by decide⟩ (by decide) ⟨by decide, by decide⟩ (by decide) ha hsh (by decide) (by decide) dX14_init_438 dX14_init_439 dX14_init_441 dX14_init_443 rfl rfl rfl rfl (fun g71 e71 => ?_)
  refine a_fillB C (pc4 := 450) ⟨by decide, by decide⟩ (by decide) ⟨by decide, by decide⟩ (by decide) ha hsh (by decide) (by decide) dX14_init_444 dX14_init_445 dX14_init_447 dX14_init_449 rfl rfl rfl rfl (fun g72 e72 => ?_)
  refine a_fillB C (pc4 := 456) ⟨by decide, by decide⟩ (by decide) ⟨by decide, by decide⟩ (by decide) ha hsh (by decide) (by decide) dX14_init_450 dX14_init_451 dX14_init_453 dX14_init_455 rfl rfl rfl rfl (fun g73 e73 => ?_)
  refine a_fillB C (pc4 := 462) ⟨by decide, by decide⟩ (by decide) ⟨by decide, by decide⟩ (by decide) ha hsh (by decide) (by decide) dX14_init_456 dX14_init_457 dX14_init_459 dX14_init_461 rfl rfl rfl rfl (fun g74 e74 => ?_)
  refine a_fillB C (pc4 := 468) ⟨by decide, by decide⟩ (by decide) ⟨by decide, by decide⟩ (by decide) ha hsh (by decide) (by decide) dX14_init_462 dX14_init_463 dX14_init_465 dX14_init_467 rfl rfl rfl rfl (fun g75 e75 => ?_)
  refine a_fillB C (pc4 := 474) ⟨by decide, by decide⟩ (by decide) ⟨by decide, by decide⟩ (by decide) ha hsh (by decide) (by decide) dX14_init_468 dX14_init_469 dX14_init_471 dX14_init_473 rfl rfl rfl rfl (fun g76 e76 => ?_)
  refine a_fillB C (pc4 := 480) ⟨by decide, by decide⟩ (by decide) ⟨by decide, by decide⟩ (by decide) ha hsh (by decide) (by decide) dX14_init_474 dX14_init_475 dX14_init_477 dX14_init_479 rfl rfl rfl rfl (fun g77 e77 => ?_)
  refine a_fillB C (pc4 := 486) ⟨by decide, by decide⟩ (by decide) ⟨by decide, by decide⟩ (by decide) ha hsh (by decide) (by decide) dX14_init_480 dX14_init_481 dX14_init_483 dX14_init_485 rfl rfl rfl rfl (fun g78 e78 => ?_)
  refine a_fillB C (pc4 := 492) ⟨by decide, by decide⟩ (by decide) ⟨by decide, by decide⟩ (by decide) ha hsh (by decide) (by decide) dX14_init_486 dX14_init_487 dX14_init_489 dX14_init_491 rfl rfl rfl rfl (fun g79 e79 => ?_)
  refine a_fillB C (pc4 := 498) ⟨by decide, by decide⟩ (by decide) ⟨by decide, by decide⟩ (by decide) ha hsh (by decide) (by decide) dX14_init_492 dX14_init_493 dX14_init_495 dX14_init_497 rfl rfl rfl rfl (fun g80 e80 => ?_)
  refine a_fillB C (pc4 := 504) ⟨by decide, by decide⟩ (by decide) ⟨by decide, by decide⟩ (by decide) ha hsh (by decide) (by decide) dX14_init_498 dX14_init_499 dX14_init_501 dX14_init_503 rfl rfl rfl rfl (fun g81 e81 => ?_)
  refine a_fillB C (pc4 := 510) ⟨by decide, by decide⟩ (by decide) ⟨by decide, by decide⟩ (by decide) ha hsh (by decide) (by decide) dX14_init_504 dX14_init_505 dX14_init_507 dX14_init_509 rfl rfl rfl rfl (fun g82 e82 => ?_)
  refine a_fillB C (pc4 := 516) ⟨by decide, by decide⟩ (by decide) ⟨by decide, by decide⟩ (by decide) ha hsh (by decide) (by decide) dX14_init_510 dX14_init_511 dX14_init_513 dX14_init_515 rfl rfl rfl rfl (fun g83 e83 => ?_)
  refine a_fillB C (pc4 := 522) ⟨by decide, by decide⟩ (by decide) ⟨by decide, by decide⟩ (by decide) ha hsh (by decide) (by decide) dX14_init_516 dX14_init_517 dX14_init_519 dX14_init_521 rfl rfl rfl rfl (fun g84 e84 => ?_)
  refine a_fillB C (pc4 := 528) ⟨by decide, by decide⟩ (by decide) ⟨by decide, by decide⟩ (by decide) ha hsh (by decide) (by decide) dX14_init_522 dX14_init_523 dX14_init_525 dX14_init_527 rfl rfl rfl rfl (fun g85 e85 => ?_)
  refine a_fillB C (pc4 := 534) ⟨by decide, by decide⟩ (by decide) ⟨by decide, by decide⟩ (by decide) ha hsh (by decide) (by decide) dX14_init_528 dX14_init_529 dX14_init_531 dX14_init_533 rfl rfl rfl rfl (fun g86 e86 => ?_)
  refine a_fillB C (pc4 := 540) ⟨by decide, by decide⟩ (by decide) ⟨by decide, by decide⟩ (by decide) ha hsh (by decide) (by decide) dX14_init_534 dX14_init_535 dX14_init_537 dX14_init_539 rfl rfl rfl rfl (fun g87 e87 => ?_)
  refine a_fillB C (pc4 := 546) ⟨by decide, by decide⟩ (by decide) ⟨by decide, by decide⟩ (by decide) ha hsh (by decide) (by decide) dX14_init_540 dX14_init_541 dX14_init_543 dX14_init_545 rfl rfl rfl rfl (fun g88 e88 => ?_)
  refine a_fillB C (pc4 := 552) ⟨by decide, by decide⟩ (by decide) ⟨by decide, by decide⟩ (by decide) ha hsh (by decide) (by decide) dX14_init_546 dX14_init_547 dX14_init_549 dX14_init_551 rfl rfl rfl rfl (fun g89 e89 => ?_)
  refine a_fillB C (pc4 := 558) ⟨by decide, by decide⟩ (by decide) ⟨by decide, by decide⟩ (by decide) ha hsh (by decide) (by decide) dX14_init_552 dX14_init_553 dX14_init_555 dX14_init_557 rfl rfl rfl rfl (fun g90 e90 => ?_)
  refine a_fillB C (pc4 := 564) ⟨by decide, by decide⟩ (by decide) ⟨by decide, by decide⟩ (by decide) ha hsh (by decide) (by decide) dX14_init_558 dX14_init_559 dX14_init_561 dX14_init_563 rfl rfl rfl rfl (fun g91 e91 => ?_)
  refine a_fillB C (pc4 := 570) ⟨by decide, by decide⟩ (by decide) ⟨by decide, by decide⟩ (by decide) ha hsh (by decide) (by decide) dX14_init_564 dX14_init_565 dX14_init_567 dX14_init_569 rfl rfl rfl rfl (fun g92 e92 => ?_)
  refine a_fillB C (pc4 := 576) ⟨by decide, by decide⟩ (by decide) ⟨by decide, by decide⟩ (by decide) ha hsh (by decide) (by decide) dX14_init_570 dX14_init_571 dX14_init_573 dX14_init_575 rfl rfl rfl rfl (fun g93 e93 => ?_)
  refine a_fillB C (pc4 := 582) ⟨by decide, by decide⟩ (by decide) ⟨by decide, by decide⟩ (by decide) ha hsh (by decide) (by decide) dX14_init_576 dX14_init_577 dX14_init_579 dX14_init_581 rfl rfl rfl rfl (fun g94 e94 => ?_)
  refine a_fillB C (pc4 := 588) ⟨by decide, by decide⟩ (by decide) ⟨by decide, by decide⟩ (by decide) ha hsh (by decide) (by decide) dX14_init_582 dX14_init_583 dX14_init_585 dX14_init_587 rfl rfl rfl rfl (fun g95 e95 => ?_)
  refine a_fillB C (pc4 := 594) ⟨by decide, by decide⟩ (by decide) ⟨by decide, by decide⟩ (by decide) ha hsh (by decide) (by decide) dX14_init_588 dX14_init_589 dX14_init_591 dX14_init_593 rfl rfl rfl rfl (fun g96 e96 => ?_)
  refine a_fillB C (pc4 := 600) ⟨by decide, by decide⟩ (by decide) ⟨by decide, by decide⟩ (by decide) ha hsh (by decide) (by decide) dX14_init_594 dX14_init_595 dX14_init_597 dX14_init_599 rfl rfl rfl rfl (fun g97 e97 => ?_)
  refine a_fillB C (pc4 := 606) ⟨by decide, by decide⟩ (by decide) ⟨by decide, by decide⟩ (by decide) ha hsh (by decide) (by decide) dX14_init_600 dX14_init_601 dX14_init_603 dX14_init_605 rfl rfl rfl rfl (fun g98 e98 => ?_)
  refine a_fillB C (pc4 := 612) ⟨by decide, by decide⟩ (by decide) ⟨by decide, by decide⟩ (by decide) ha hsh (by decide) (by decide) dX14_init_606 dX14_init_607 dX14_init_609 dX14_init_611 rfl rfl rfl rfl (fun g99 e99 => ?_)
  refine a_fillB C (pc4 := 618) ⟨by decide, by decide⟩ (by decide) ⟨by decide, by decide⟩ (by decide) ha hsh (by decide) (by decide) dX14_init_612 dX14_init_613 dX14_init_615 dX14_init_617 rfl rfl rfl rfl (fun g100 e100 => ?_)
  refine a_fillB C (pc4 := 624) ⟨by decide, by decide⟩ (by decide) ⟨by decide, by decide⟩ (by decide) ha hsh (by decide) (by decide) dX14_init_618 dX14_init_619 dX14_init_621 dX14_init_623 rfl rfl rfl rfl (fun g101 e101 => ?_)
  refine a_fillB C (pc4 := 630) ⟨by decide, by decide⟩ (by decide) ⟨by decide, by decide⟩ (by decide) ha hsh (by decide) (by decide) dX14_init_624 dX14_init_625 dX14_init_627 dX14_init_629 rfl rfl rfl rfl (fun g102 e102 => ?_)
  refine a_fillB C (pc4 := 636) ⟨by decide, by decide⟩ (by decide) ⟨by decide, by decide⟩ (by decide) ha hsh (by decide) (by decide) dX14_init_630 dX14_init_631 dX14_init_633 dX14_init_635 rfl rfl rfl rfl (fun g103 e103 => ?_)
  refine a_fillB C (pc4 := 642) ⟨by decide, by decide⟩ (by decide) ⟨by decide, by decide⟩ (by decide) ha hsh (by decide) (by decide) dX14_init_636 dX14_init_637 dX14_init_639 dX14_init_641 rfl rfl rfl rfl (fun g104 e104 => ?_)
  refine a_fillB C (pc4 := 648) ⟨by decide, by decide⟩ (by decide) ⟨by decide, by decide⟩ (by decide) ha hsh (by decide) (by decide) dX14_init_642 dX14_init_643 dX14_init_645 dX14_init_647 rfl rfl rfl rfl (fun g105 e105 => ?_)
  refine a_fillB C (pc4 := 654) ⟨by decide, by decide⟩ (by decide) ⟨by decide, by decide⟩ (by decide) ha hsh (by decide) (by decide) dX14_init_648 dX14_init_649 dX14_init_651 dX14_init_653 rfl rfl rfl rfl (fun g106 e106 => ?_)
  refine a_fillB C (pc4 := 660) ⟨by decide, by decide⟩ (by decide) ⟨by decide, by decide⟩ (by decide) ha hsh (by decide) (by decide) dX14_init_654 dX14_init_655 dX14_init_657 dX14_init_659 rfl rfl rfl rfl (fun g107 e107 => ?_)
  exact k _ (by rw [e107, e106, e105, e104, e103, e102, e101, e100, e99, e98, e97, e96, e95, e94, e93, e92, e91, e90, e89, e88, e87, e86, e85, e84, e83, e82, e81, e80, e79, e78, e77, e76, e75, e74, e73, e72, e71, e70, e69, e68, e67, e66, e65, e64, e63, e62, e61, e60, e59, e58, e57, e56, e55, e54]; rfl)
end AF
def refLa : List (Int × Int × Int) := [(((0 : Nat) : Int), ((0 : Nat) : Int), ((1 : Nat) : Int))]
def refLb : List (Int × Int × Int) := [(((0 : Nat) : Int), ((3 : Nat) : Int), ((2 : Nat) : Int)), (((0 : Nat) : Int), ((5 : Nat) : Int), (-1)), (((0 : Nat) : Int), ((39 : Nat) : Int), ((3 : Nat) : Int)), (((0 : Nat) : Int), ((40 : Nat) : Int), ((4 : Nat) : Int)), (((0 : Nat) : Int), ((41 : Nat) : Int), ((5 : Nat) : Int)), (((0 : Nat) : Int), ((42 : Nat) : Int), ((6 : Nat) : Int)), (((0 : Nat) : Int), ((43 : Nat) : Int), ((7 : Nat) : Int)), (((0 : Nat) : Int), ((44 : Nat) : Int), ((8 : Nat) : Int)), (((0 : Nat) : Int), ((45 : Nat) : Int), ((9 : Nat) : Int)), (((0 : Nat) : Int), ((46 : Nat) : Int), ((10 : Nat) : Int)), (((0 : Nat) : Int), ((47 : Nat) : Int), ((11 : Nat) : Int)), (((0 : Nat) : Int), ((48 : Nat) : Int), ((12 : Nat) : Int)), (((0 : Nat) : Int), ((49 : Nat) : Int), ((13 : Nat) : Int)), (((0 : Nat) : Int), ((50 : Nat) : Int), ((14 : Nat) : Int)), (((0 : Nat) : Int), ((51 : Nat) : Int), ((15 : Nat) : Int)), (((0 : Nat) : Int), ((52 : Nat) : Int), ((16 : Nat) : Int)), (((0 : Nat) : Int), ((53 : Nat) : Int), ((17 : Nat) : Int)), (((0 : Nat) : Int), ((54 : Nat) : Int), ((18 : Nat) : Int)), (((0 : Nat) : Int), ((55 : Nat) : Int), ((19 : Nat) : Int)), (((0 : Nat) : Int), ((56 : Nat) : Int), ((20 : Nat) : Int)), (((0 : Nat) : Int), ((57 : Nat) : Int), ((21 : Nat) : Int)), (((0 : Nat) : Int), ((58 : Nat) : Int), ((22 : Nat) : Int)), (((0 : Nat) : Int), ((59 : Nat) : Int), ((23 : Nat) : Int)), (((0 : Nat) : Int), ((60 : Nat) : Int), ((24 : Nat) : Int)), (((0 : Nat) : Int), ((61 : Nat) : Int), ((25 : Nat) : Int)), (((0 : Nat) : Int), ((63 : Nat) : Int), ((26 : Nat) : Int)), (((0 : Nat) : Int), ((64 : Nat) : Int), ((27 : Nat) : Int)), (((0 : Nat) : Int), ((71 : Nat) : Int), ((28 : Nat) : Int)), (((0 : Nat) : Int), ((72 : Nat) : Int), ((29 : Nat) : Int)), (((0 : Nat) : Int), ((74 : Nat) : Int), ((30 : Nat) : Int)), (((0 : Nat) : Int), ((75 : Nat) : Int), ((31 : Nat) : Int)), (((0 : Nat) : Int), ((78 : Nat) : Int), ((32 : Nat) : Int)), (((0 : Nat) : Int), ((79 : Nat) : Int), (-1)), (((0 : Nat) : Int), ((83 : Nat) : Int), ((33 : Nat) : Int)), (((0 : Nat) : Int), ((85 : Nat) : Int), (-1)), (((0 : Nat) : Int), ((86 : Nat) : Int), ((34 : Nat) : Int)), (((0 : Nat) : Int), ((87 : Nat) : Int), ((35 : Nat) : Int)), (((0 : Nat) : Int), ((91 : Nat) : Int), ((36 : Nat) : Int)), (((0 : Nat) : Int), ((92 : Nat) : Int), ((37 : Nat) : Int)), (((0 : Nat) : Int), ((93 : Nat) : Int), ((38 : Nat) : Int)), (((0 : Nat) : Int), ((98 : Nat) : Int), ((39 : Nat) : Int)), (((0 : Nat) : Int), ((99 : Nat) : Int), ((40 : Nat) : Int))]
/-- as the reference's constructor lays it, ahead of its two calls -/
def refH (h : Mh) : Mh := ups refLb (ups a_wordsBL (ups a_wordsAL (ups refLa h)))
theorem XW_R {z : Mz} : XW shR z 41 wrR = XR z := by
  have e : (fun i : Int => if i < ((41 : Nat) : Int) then shR i else (99, 0)) = shR := by
    funext i
    by_cases t : i < ((41 : Nat) : Int)
    · rw [if_pos t]
    · rw [if_neg t]
      unfold shR
      rw [if_pos (by omega), List.getD_eq_getElem?_getD, List.getElem?_eq_none (by show 41 ≤ _; omega)]; rfl
  unfold XW XR
  rw [e]
theorem pl_ref {z : Mz} {l : Launch} {h : Mh} : mCal (XW shR z 41 wrR) l yX14_plain cX14_plain 2 none 0 0 [(2, ((0 : Nat) : Int))] h (mKv fun g => g = plainT h) := by
  rw [XW_R]; exact sim_X14_plain (xp_plain rfl)
theorem kt_ref {z : Mz} {l : Launch} {g s1 : Mh} (es1 : s1 = up (up (up (up (up (cpT (ktF g) 25) 0 76 (g 0 30)) 0 82 0) 0 84 0) 0 85 (-1)) 0 96 0) (P1 : prm s1) : mCal (XW shR z 41 wrR) l yX14_keepText cX14_keepText 2 none 4 84 [(2, ((0 : Nat) : Int))] g (mKv fun s => (∀ o j, ¬ (o = 0 ∧ j = 77) → ¬ (o = 32 ∧ 0 ≤ j ∧ j < 3) → s o j = wayT s1 o j) ∧ s 0 77 = wayT s1 0 18 ∧ ∀ j, 0 ≤ j → j < 3 → s 32 j = wayT s1 8 j) := by
  rw [XW_R]; exact sim_X14_keepText (xp_keepText (by rw [← es1]; exact sp_layWays P1 (sp_plainShores (fun s a b c => ⟨a, b, c⟩))))
def KRf (h s : Mh) : Prop := ∃ r s1, r = plainT (refH h) ∧ s1 = up (up (up (up (up (cpT (ktF r) 25) 0 76 (r 0 30)) 0 82 0) 0 84 0) 0 85 (-1)) 0 96 0 ∧ (∀ o j, ¬ (o = 0 ∧ j = 77) → ¬ (o = 32 ∧ 0 ≤ j ∧ j < 3) → s o j = wayT s1 o j) ∧ s 0 77 = wayT s1 0 18 ∧ (∀ j, 0 ≤ j → j < 3 → s 32 j = wayT s1 8 j) ∧ ∀ i : Nat, i < 41 → ∀ j : Nat, j < alen (shR i) → mfin (shR i).1 j = true → s i j = wrR i j
theorem hdW_X14_plain : yX14_plain.cls = RX14 ∧ yX14_plain.cls ≠ "java/lang/invoke/MethodHandle" ∧ yX14_plain.cls ≠ "java/lang/invoke/VarHandle" ∧ (parseMethodDescriptor yX14_plain.desc).map (fun d => d.parameters.length) = some 0 := by decide +kernel
theorem hdW_X14_keepText : yX14_keepText.cls = RX14 ∧ yX14_keepText.cls ≠ "java/lang/invoke/MethodHandle" ∧ yX14_keepText.cls ≠ "java/lang/invoke/VarHandle" ∧ (parseMethodDescriptor yX14_keepText.desc).map (fun d => d.parameters.length) = some 0 := by decide +kernel
set_option maxRecDepth 20000 in
theorem ct_Ref {l : Launch} {z : Mz} {h : Mh} (F : Fr shR 1 h) (hprm : ∀ s1, s1 = up (up (up (up (up (cpT (ktF (plainT (refH h))) 25) 0 76 (plainT (refH h) 0 30)) 0 82 0) 0 84 0) 0 85 (-1)) 0 96 0 → prm s1) : aCal shR l yX14_init cX14_init 1 5 105 40 11406 z 1 41 [(2, ((0 : Nat) : Int))] h (KRf h) := by
  have rI : ∀ i : Nat, i < 1 → ∀ j : Nat, j < alen (shR i) → mtag (aty (shR i) j) = 2 → mfin (shR i).1 j = true ∧ wrR i j < ((41 : Nat) : Int) := by decide +kernel
  have ar : ∀ i : Nat, i < 41 → 1 ≤ i → 13 ≤ (shR i).1 ∧ ¬ (shR i).1 = 17 ∧ mtag (mel (shR i).1) ≠ 2 := by decide +kernel
  have aR : ∀ (zz : Mz) (g : Mh), mokH (XW shR zz 41 wrR) g → aok shR 41 g := by
    intro zz g hm i hi
    refine ⟨fun j hj => ?_, fun h17 j => ?_⟩
    · have hmm := hm i hi j (by rw [show mxS (XW shR _ 41 wrR) (i : Int) = shR i from if_pos (by omega)]; exact hj)
      rw [show mxS (XW shR _ 41 wrR) (i : Int) = shR i from if_pos (by omega)] at hmm
      refine ⟨hmm.1, fun q => ?_⟩
      by_cases t : i < 1
      · obtain ⟨q1, q2⟩ := rI i t j hj q
        rw [hmm.2 q1]; exact q2
      · have := ar i hi (by omega)
        unfold aty at q
        rw [if_neg (by omega)] at q
        exact absurd q this.2.2
    · by_cases t : i < 1
      · have e : i = 0 := by omega
        subst e
        exact absurd h17 (by decide)
      · exact absurd h17 (ar i hi (by omega)).2.1
  refine a_entry RX14 rfl rfl (by decide) rfl (fun p e s m args below meth c C hr => ?_)
  have Z := zle.refl z 1
  have HF : ∀ i : Nat, 1 ≤ i → i < 1 → s.heap.size ≤ z.2.2.1 i := fun i a b => by omega
  show aG shR z 1 p l e _ s m args below meth c _ _ 0 0 0 [(0, (2, ((0 : Nat) : Int)))] [] h
  refine a_aload_n C dX14_init_0 rfl (by decide) rfl ?_
  refine a_objInit C (by decide) k_1545 k_164 k_165 rfl rfl rfl dX14_init_1 ?_
  refine a_aload_n C dX14_init_4 rfl (by decide) rfl ?_
  refine a_sipush C ⟨by decide, by decide⟩ (by decide) dX14_init_5 ?_
  refine a_newi C 14 1 (atype := .int) (N' := 800) k_194 rfl rfl (by decide) rfl (by decide) rfl rfl (by decide) (by decide) F.at rfl rfl dX14_init_8 (fun z1 hz hf C => ?_)
  replace HF := hf_trans HF hz hf
  replace Z := Z.trans hz (by decide)
  replace F := F.le (n' := 2) (by decide)
  refine a_putE C 12 0 rfl (by decide) rfl iX14 (by decide) k_1585 tyX14 tyX14_ok nmX14 rfl rfl (Or.inr (Or.inr (Or.inr (Or.inr ⟨_, rfl⟩)))) rfl dX14_init_10 (by decide) rfl trivial (fun h1 e1 => ?_)
  replace F : Fr shR 2 h1 := by rw [e1]; exact F.up (by decide)
  refine a_aload_n C dX14_init_13 rfl (by decide) rfl ?_
  refine a_bipush C ⟨by decide, by decide⟩ (by decide) dX14_init_14 ?_
  refine a_newi C 14 1 (atype := .int) (N' := 108) k_194 rfl rfl (by decide) rfl (by decide) rfl rfl (by decide) (by decide) F.at rfl rfl dX14_init_16 (fun z2 hz hf C => ?_)
  replace HF := hf_trans HF hz hf
  replace Z := Z.trans hz (by decide)
  replace F := F.le (n' := 3) (by decide)
  refine a_wordsA C (by decide) rfl (fun g1 eA => ?_)
  refine a_wordsB C (by decide) rfl (fun g2 eB => ?_)
  replace F : Fr shR 3 g2 := by rw [eB, eA]; exact Fr.ups (Fr.ups F (by decide +kernel)) (by decide +kernel)
  refine a_putE C 12 3 rfl (by decide) rfl iX14 (by decide) k_1588 tyX14 tyX14_ok nmX14 rfl rfl (Or.inr (Or.inr (Or.inr (Or.inr ⟨_, rfl⟩)))) rfl dX14_init_660 (by decide) rfl trivial (fun h110 e110 => ?_)
  replace F : Fr shR 3 h110 := by rw [e110]; exact F.up (by decide)
  refine a_aload_n C dX14_init_663 rfl (by decide) rfl ?_
  refine a_iconst C ⟨by decide, by decide⟩ dX14_init_664 ?_
  refine a_putE C 12 5 rfl (by decide) rfl iX14 (by decide) k_1590 tyX14 tyX14_ok nmX14 rfl rfl (Or.inl rfl) rfl dX14_init_665 (by decide) rfl ⟨by decide, by decide⟩ (fun h111 e111 => ?_)
  replace F : Fr shR 3 h111 := by rw [e111]; exact F.up (by decide)
  refine a_aload_n C dX14_init_668 rfl (by decide) rfl ?_
  refine a_iconst C ⟨by decide, by decide⟩ dX14_init_669 ?_
  refine a_newi C 14 1 (atype := .int) (N' := 3) k_194 rfl rfl (by decide) rfl (by decide) rfl rfl (by decide) (by decide) F.at rfl rfl dX14_init_670 (fun z3 hz hf C => ?_)
  replace HF := hf_trans HF hz hf
  replace Z := Z.trans hz (by decide)
  replace F := F.le (n' := 4) (by decide)
  refine a_putE C 12 39 rfl (by decide) rfl iX14 (by decide) k_1624 tyX14 tyX14_ok nmX14 rfl rfl (Or.inr (Or.inr (Or.inr (Or.inr ⟨_, rfl⟩)))) rfl dX14_init_672 (by decide) rfl trivial (fun h112 e112 => ?_)
  replace F : Fr shR 4 h112 := by rw [e112]; exact F.up (by decide)
  refine a_aload_n C dX14_init_675 rfl (by decide) rfl ?_
  refine a_iconst C ⟨by decide, by decide⟩ dX14_init_676 ?_
  refine a_newi C 16 3 (atype := .boolean) (N' := 3) k_573 rfl rfl (by decide) rfl (by decide) rfl rfl (by decide) (by decide) F.at rfl rfl dX14_init_677 (fun z4 hz hf C => ?_)
  replace HF := hf_trans HF hz hf
  replace Z := Z.trans hz (by decide)
  replace F := F.le (n' := 5) (by decide)
  refine a_putE C 12 40 rfl (by decide) rfl iX14 (by decide) k_1625 tyX14 tyX14_ok nmX14 rfl rfl (Or.inr (Or.inr (Or.inr (Or.inr ⟨_, rfl⟩)))) rfl dX14_init_679 (by decide) rfl trivial (fun h113 e113 => ?_)
  replace F : Fr shR 5 h113 := by rw [e113]; exact F.up (by decide)
  refine a_aload_n C dX14_init_682 rfl (by decide) rfl ?_
  refine a_bipush C ⟨by decide, by decide⟩ (by decide) dX14_init_683 ?_
  refine a_newi C 14 1 (atype := .int) (N' := 96) k_194 rfl rfl (by decide) rfl (by decide) rfl rfl (by decide) (by decide) F.at rfl rfl dX14_init_685 (fun z5 hz hf C => ?_)
  replace HF := hf_trans HF hz hf
  replace Z := Z.trans hz (by decide)
  replace F := F.le (n' := 6) (by decide)
  refine a_putE C 12 41 rfl (by decide) rfl iX14 (by decide) k_1626 tyX14 tyX14_ok nmX14 rfl rfl (Or.inr (Or.inr (Or.inr (Or.inr ⟨_, rfl⟩)))) rfl dX14_init_687 (by decide) rfl trivial (fun h114 e114 => ?_)
  replace F : Fr shR 6 h114 := by rw [e114]; exact F.up (by decide)
  refine a_aload_n C dX14_init_690 rfl (by decide) rfl ?_
  refine a_bipush C ⟨by decide, by decide⟩ (by decide) dX14_init_691 ?_
  refine a_newi C 16 3 (atype := .boolean) (N' := 96) k_573 rfl rfl (by decide) rfl (by decide) rfl rfl (by decide) (by decide) F.at rfl rfl dX14_init_693 (fun z6 hz hf C => ?_)
  replace HF := hf_trans HF hz hf
  replace Z := Z.trans hz (by decide)
  replace F := F.le (n' := 7) (by decide)
  refine a_putE C 12 42 rfl (by decide) rfl iX14 (by decide) k_1627 tyX14 tyX14_ok nmX14 rfl rfl (Or.inr (Or.inr (Or.inr (Or.inr ⟨_, rfl⟩)))) rfl dX14_init_695 (by decide) rfl trivial (fun h115 e115 => ?_)
  replace F : Fr shR 7 h115 := by rw [e115]; exact F.up (by decide)
  refine a_aload_n C dX14_init_698 rfl (by decide) rfl ?_
  refine a_bipush C ⟨by decide, by decide⟩ (by decide) dX14_init_699 ?_
  refine a_newi C 16 3 (atype := .boolean) (N' := 48) k_573 rfl rfl (by decide) rfl (by decide) rfl rfl (by decide) (by decide) F.at rfl rfl dX14_init_701 (fun z7 hz hf C => ?_)
  replace HF := hf_trans HF hz hf
  replace Z := Z.trans hz (by decide)
  replace F := F.le (n' := 8) (by decide)
  refine a_putE C 12 43 rfl (by decide) rfl iX14 (by decide) k_1628 tyX14 tyX14_ok nmX14 rfl rfl (Or.inr (Or.inr (Or.inr (Or.inr ⟨_, rfl⟩)))) rfl dX14_init_703 (by decide) rfl trivial (fun h116 e116 => ?_)
  replace F : Fr shR 8 h116 := by rw [e116]; exact F.up (by decide)
  refine a_aload_n C dX14_init_706 rfl (by decide) rfl ?_
  refine a_bipush C ⟨by decide, by decide⟩ (by decide) dX14_init_707 ?_
  refine a_newi C 14 1 (atype := .int) (N' := 6) k_194 rfl rfl (by decide) rfl (by decide) rfl rfl (by decide) (by decide) F.at rfl rfl dX14_init_709 (fun z8 hz hf C => ?_)
  replace HF := hf_trans HF hz hf
  replace Z := Z.trans hz (by decide)
  replace F := F.le (n' := 9) (by decide)
  refine a_putE C 12 44 rfl (by decide) rfl iX14 (by decide) k_1629 tyX14 tyX14_ok nmX14 rfl rfl (Or.inr (Or.inr (Or.inr (Or.inr ⟨_, rfl⟩)))) rfl dX14_init_711 (by decide) rfl trivial (fun h117 e117 => ?_)
  replace F : Fr shR 9 h117 := by rw [e117]; exact F.up (by decide)
  refine a_aload_n C dX14_init_714 rfl (by decide) rfl ?_
  refine a_bipush C ⟨by decide, by decide⟩ (by decide) dX14_init_715 ?_
  refine a_newi C 14 1 (atype := .int) (N' := 8) k_194 rfl rfl (by decide) rfl (by decide) rfl rfl (by decide) (by decide) F.at rfl rfl dX14_init_717 (fun z9 hz hf C => ?_)
  replace HF := hf_trans HF hz hf
  replace Z := Z.trans hz (by decide)
  replace F := F.le (n' := 10) (by decide)
  refine a_putE C 12 45 rfl (by decide) rfl iX14 (by decide) k_1630 tyX14 tyX14_ok nmX14 rfl rfl (Or.inr (Or.inr (Or.inr (Or.inr ⟨_, rfl⟩)))) rfl dX14_init_719 (by decide) rfl trivial (fun h118 e118 => ?_)
  replace F : Fr shR 10 h118 := by rw [e118]; exact F.up (by decide)
  refine a_aload_n C dX14_init_722 rfl (by decide) rfl ?_
  refine a_bipush C ⟨by decide, by decide⟩ (by decide) dX14_init_723 ?_
  refine a_newi C 14 1 (atype := .int) (N' := 8) k_194 rfl rfl (by decide) rfl (by decide) rfl rfl (by decide) (by decide) F.at rfl rfl dX14_init_725 (fun z10 hz hf C => ?_)
  replace HF := hf_trans HF hz hf
  replace Z := Z.trans hz (by decide)
  replace F := F.le (n' := 11) (by decide)
  refine a_putE C 12 46 rfl (by decide) rfl iX14 (by decide) k_1631 tyX14 tyX14_ok nmX14 rfl rfl (Or.inr (Or.inr (Or.inr (Or.inr ⟨_, rfl⟩)))) rfl dX14_init_727 (by decide) rfl trivial (fun h119 e119 => ?_)
  replace F : Fr shR 11 h119 := by rw [e119]; exact F.up (by decide)
  refine a_aload_n C dX14_init_730 rfl (by decide) rfl ?_
  refine a_bipush C ⟨by decide, by decide⟩ (by decide) dX14_init_731 ?_
  refine a_newi C 14 1 (atype := .int) (N' := 8) k_194 rfl rfl (by decide) rfl (by decide) rfl rfl (by decide) (by decide) F.at rfl rfl dX14_init_733 (fun z11 hz hf C => ?_)
  replace HF := hf_trans HF hz hf
  replace Z := Z.trans hz (by decide)
  replace F := F.le (n' := 12) (by decide)
  refine a_putE C 12 47 rfl (by decide) rfl iX14 (by decide) k_1632 tyX14 tyX14_ok nmX14 rfl rfl (Or.inr (Or.inr (Or.inr (Or.inr ⟨_, rfl⟩)))) rfl dX14_init_735 (by decide) rfl trivial (fun h120 e120 => ?_)
  replace F : Fr shR 12 h120 := by rw [e120]; exact F.up (by decide)
  refine a_aload_n C dX14_init_738 rfl (by decide) rfl ?_
  refine a_bipush C ⟨by decide, by decide⟩ (by decide) dX14_init_739 ?_
  refine a_newi C 14 1 (atype := .int) (N' := 48) k_194 rfl rfl (by decide) rfl (by decide) rfl rfl (by decide) (by decide) F.at rfl rfl dX14_init_741 (fun z12 hz hf C => ?_)
  replace HF := hf_trans HF hz hf
  replace Z := Z.trans hz (by decide)
  replace F := F.le (n' := 13) (by decide)
  refine a_putE C 12 48 rfl (by decide) rfl iX14 (by decide) k_1633 tyX14 tyX14_ok nmX14 rfl rfl (Or.inr (Or.inr (Or.inr (Or.inr ⟨_, rfl⟩)))) rfl dX14_init_743 (by decide) rfl trivial (fun h121 e121 => ?_)
  replace F : Fr shR 13 h121 := by rw [e121]; exact F.up (by decide)
  refine a_aload_n C dX14_init_746 rfl (by decide) rfl ?_
  refine a_bipush C ⟨by decide, by decide⟩ (by decide) dX14_init_747 ?_
  refine a_newi C 14 1 (atype := .int) (N' := 12) k_194 rfl rfl (by decide) rfl (by decide) rfl rfl (by decide) (by decide) F.at rfl rfl dX14_init_749 (fun z13 hz hf C => ?_)
  replace HF := hf_trans HF hz hf
  replace Z := Z.trans hz (by decide)
  replace F := F.le (n' := 14) (by decide)
  refine a_putE C 12 49 rfl (by decide) rfl iX14 (by decide) k_1634 tyX14 tyX14_ok nmX14 rfl rfl (Or.inr (Or.inr (Or.inr (Or.inr ⟨_, rfl⟩)))) rfl dX14_init_751 (by decide) rfl trivial (fun h122 e122 => ?_)
  replace F : Fr shR 14 h122 := by rw [e122]; exact F.up (by decide)
  refine a_aload_n C dX14_init_754 rfl (by decide) rfl ?_
  refine a_bipush C ⟨by decide, by decide⟩ (by decide) dX14_init_755 ?_
  refine a_newi C 14 1 (atype := .int) (N' := 12) k_194 rfl rfl (by decide) rfl (by decide) rfl rfl (by decide) (by decide) F.at rfl rfl dX14_init_757 (fun z14 hz hf C => ?_)
  replace HF := hf_trans HF hz hf
  replace Z := Z.trans hz (by decide)
  replace F := F.le (n' := 15) (by decide)
  refine a_putE C 12 50 rfl (by decide) rfl iX14 (by decide) k_1635 tyX14 tyX14_ok nmX14 rfl rfl (Or.inr (Or.inr (Or.inr (Or.inr ⟨_, rfl⟩)))) rfl dX14_init_759 (by decide) rfl trivial (fun h123 e123 => ?_)
  replace F : Fr shR 15 h123 := by rw [e123]; exact F.up (by decide)
  refine a_aload_n C dX14_init_762 rfl (by decide) rfl ?_
  refine a_bipush C ⟨by decide, by decide⟩ (by decide) dX14_init_763 ?_
  refine a_newi C 14 1 (atype := .int) (N' := 6) k_194 rfl rfl (by decide) rfl (by decide) rfl rfl (by decide) (by decide) F.at rfl rfl dX14_init_765 (fun z15 hz hf C => ?_)
  replace HF := hf_trans HF hz hf
  replace Z := Z.trans hz (by decide)
  replace F := F.le (n' := 16) (by decide)
  refine a_putE C 12 51 rfl (by decide) rfl iX14 (by decide) k_1636 tyX14 tyX14_ok nmX14 rfl rfl (Or.inr (Or.inr (Or.inr (Or.inr ⟨_, rfl⟩)))) rfl dX14_init_767 (by decide) rfl trivial (fun h124 e124 => ?_)
  replace F : Fr shR 16 h124 := by rw [e124]; exact F.up (by decide)
  refine a_aload_n C dX14_init_770 rfl (by decide) rfl ?_
  refine a_bipush C ⟨by decide, by decide⟩ (by decide) dX14_init_771 ?_
  refine a_newi C 14 1 (atype := .int) (N' := 6) k_194 rfl rfl (by decide) rfl (by decide) rfl rfl (by decide) (by decide) F.at rfl rfl dX14_init_773 (fun z16 hz hf C => ?_)
  replace HF := hf_trans HF hz hf
  replace Z := Z.trans hz (by decide)
  replace F := F.le (n' := 17) (by decide)
  refine a_putE C 12 52 rfl (by decide) rfl iX14 (by decide) k_1637 tyX14 tyX14_ok nmX14 rfl rfl (Or.inr (Or.inr (Or.inr (Or.inr ⟨_, rfl⟩)))) rfl dX14_init_775 (by decide) rfl trivial (fun h125 e125 => ?_)
  replace F : Fr shR 17 h125 := by rw [e125]; exact F.up (by decide)
  refine a_aload_n C dX14_init_778 rfl (by decide) rfl ?_
  refine a_bipush C ⟨by decide, by decide⟩ (by decide) dX14_init_779 ?_
  refine a_newi C 14 1 (atype := .int) (N' := 32) k_194 rfl rfl (by decide) rfl (by decide) rfl rfl (by decide) (by decide) F.at rfl rfl dX14_init_781 (fun z17 hz hf C => ?_)
  replace HF := hf_trans HF hz hf
  replace Z := Z.trans hz (by decide)
  replace F := F.le (n' := 18) (by decide)
  refine a_putE C 12 53 rfl (by decide) rfl iX14 (by decide) k_1638 tyX14 tyX14_ok nmX14 rfl rfl (Or.inr (Or.inr (Or.inr (Or.inr ⟨_, rfl⟩)))) rfl dX14_init_783 (by decide) rfl trivial (fun h126 e126 => ?_)
  replace F : Fr shR 18 h126 := by rw [e126]; exact F.up (by decide)
  refine a_aload_n C dX14_init_786 rfl (by decide) rfl ?_
  refine a_bipush C ⟨by decide, by decide⟩ (by decide) dX14_init_787 ?_
  refine a_newi C 14 1 (atype := .int) (N' := 32) k_194 rfl rfl (by decide) rfl (by decide) rfl rfl (by decide) (by decide) F.at rfl rfl dX14_init_789 (fun z18 hz hf C => ?_)
  replace HF := hf_trans HF hz hf
  replace Z := Z.trans hz (by decide)
  replace F := F.le (n' := 19) (by decide)
  refine a_putE C 12 54 rfl (by decide) rfl iX14 (by decide) k_1639 tyX14 tyX14_ok nmX14 rfl rfl (Or.inr (Or.inr (Or.inr (Or.inr ⟨_, rfl⟩)))) rfl dX14_init_791 (by decide) rfl trivial (fun h127 e127 => ?_)
  replace F : Fr shR 19 h127 := by rw [e127]; exact F.up (by decide)
  refine a_aload_n C dX14_init_794 rfl (by decide) rfl ?_
  refine a_bipush C ⟨by decide, by decide⟩ (by decide) dX14_init_795 ?_
  refine a_newi C 14 1 (atype := .int) (N' := 32) k_194 rfl rfl (by decide) rfl (by decide) rfl rfl (by decide) (by decide) F.at rfl rfl dX14_init_797 (fun z19 hz hf C => ?_)
  replace HF := hf_trans HF hz hf
  replace Z := Z.trans hz (by decide)
  replace F := F.le (n' := 20) (by decide)
  refine a_putE C 12 55 rfl (by decide) rfl iX14 (by decide) k_1640 tyX14 tyX14_ok nmX14 rfl rfl (Or.inr (Or.inr (Or.inr (Or.inr ⟨_, rfl⟩)))) rfl dX14_init_799 (by decide) rfl trivial (fun h128 e128 => ?_)
  replace F : Fr shR 20 h128 := by rw [e128]; exact F.up (by decide)
  refine a_aload_n C dX14_init_802 rfl (by decide) rfl ?_
  refine a_bipush C ⟨by decide, by decide⟩ (by decide) dX14_init_803 ?_
  refine a_newi C 14 1 (atype := .int) (N' := 6) k_194 rfl rfl (by decide) rfl (by decide) rfl rfl (by decide) (by decide) F.at rfl rfl dX14_init_805 (fun z20 hz hf C => ?_)
  replace HF := hf_trans HF hz hf
  replace Z := Z.trans hz (by decide)
  replace F := F.le (n' := 21) (by decide)
  refine a_putE C 12 56 rfl (by decide) rfl iX14 (by decide) k_1641 tyX14 tyX14_ok nmX14 rfl rfl (Or.inr (Or.inr (Or.inr (Or.inr ⟨_, rfl⟩)))) rfl dX14_init_807 (by decide) rfl trivial (fun h129 e129 => ?_)
  replace F : Fr shR 21 h129 := by rw [e129]; exact F.up (by decide)
  refine a_aload_n C dX14_init_810 rfl (by decide) rfl ?_
  refine a_bipush C ⟨by decide, by decide⟩ (by decide) dX14_init_811 ?_
  refine a_newi C 14 1 (atype := .int) (N' := 6) k_194 rfl rfl (by decide) rfl (by decide) rfl rfl (by decide) (by decide) F.at rfl rfl dX14_init_813 (fun z21 hz hf C => ?_)
  replace HF := hf_trans HF hz hf
  replace Z := Z.trans hz (by decide)
  replace F := F.le (n' := 22) (by decide)
  refine a_putE C 12 57 rfl (by decide) rfl iX14 (by decide) k_1642 tyX14 tyX14_ok nmX14 rfl rfl (Or.inr (Or.inr (Or.inr (Or.inr ⟨_, rfl⟩)))) rfl dX14_init_815 (by decide) rfl trivial (fun h130 e130 => ?_)
  replace F : Fr shR 22 h130 := by rw [e130]; exact F.up (by decide)
  refine a_aload_n C dX14_init_818 rfl (by decide) rfl ?_
  refine a_bipush C ⟨by decide, by decide⟩ (by decide) dX14_init_819 ?_
  refine a_newi C 14 1 (atype := .int) (N' := 18) k_194 rfl rfl (by decide) rfl (by decide) rfl rfl (by decide) (by decide) F.at rfl rfl dX14_init_821 (fun z22 hz hf C => ?_)
  replace HF := hf_trans HF hz hf
  replace Z := Z.trans hz (by decide)
  replace F := F.le (n' := 23) (by decide)
  refine a_putE C 12 58 rfl (by decide) rfl iX14 (by decide) k_1643 tyX14 tyX14_ok nmX14 rfl rfl (Or.inr (Or.inr (Or.inr (Or.inr ⟨_, rfl⟩)))) rfl dX14_init_823 (by decide) rfl trivial (fun h131 e131 => ?_)
  replace F : Fr shR 23 h131 := by rw [e131]; exact F.up (by decide)
  refine a_aload_n C dX14_init_826 rfl (by decide) rfl ?_
  refine a_sipush C ⟨by decide, by decide⟩ (by decide) dX14_init_827 ?_
  refine a_newi C 14 1 (atype := .int) (N' := 128) k_194 rfl rfl (by decide) rfl (by decide) rfl rfl (by decide) (by decide) F.at rfl rfl dX14_init_830 (fun z23 hz hf C => ?_)
  replace HF := hf_trans HF hz hf
  replace Z := Z.trans hz (by decide)
  replace F := F.le (n' := 24) (by decide)
  refine a_putE C 12 59 rfl (by decide) rfl iX14 (by decide) k_1644 tyX14 tyX14_ok nmX14 rfl rfl (Or.inr (Or.inr (Or.inr (Or.inr ⟨_, rfl⟩)))) rfl dX14_init_832 (by decide) rfl trivial (fun h132 e132 => ?_)
  replace F : Fr shR 24 h132 := by rw [e132]; exact F.up (by decide)
  refine a_aload_n C dX14_init_835 rfl (by decide) rfl ?_
  refine a_sipush C ⟨by decide, by decide⟩ (by decide) dX14_init_836 ?_
  refine a_newi C 14 1 (atype := .int) (N' := 128) k_194 rfl rfl (by decide) rfl (by decide) rfl rfl (by decide) (by decide) F.at rfl rfl dX14_init_839 (fun z24 hz hf C => ?_)
  replace HF := hf_trans HF hz hf
  replace Z := Z.trans hz (by decide)
  replace F := F.le (n' := 25) (by decide)
  refine a_putE C 12 60 rfl (by decide) rfl iX14 (by decide) k_1645 tyX14 tyX14_ok nmX14 rfl rfl (Or.inr (Or.inr (Or.inr (Or.inr ⟨_, rfl⟩)))) rfl dX14_init_841 (by decide) rfl trivial (fun h133 e133 => ?_)
  replace F : Fr shR 25 h133 := by rw [e133]; exact F.up (by decide)
  refine a_aload_n C dX14_init_844 rfl (by decide) rfl ?_
  refine a_sipush C ⟨by decide, by decide⟩ (by decide) dX14_init_845 ?_
  refine a_newi C 14 1 (atype := .int) (N' := 128) k_194 rfl rfl (by decide) rfl (by decide) rfl rfl (by decide) (by decide) F.at rfl rfl dX14_init_848 (fun z25 hz hf C => ?_)
  replace HF := hf_trans HF hz hf
  replace Z := Z.trans hz (by decide)
  replace F := F.le (n' := 26) (by decide)
  refine a_putE C 12 61 rfl (by decide) rfl iX14 (by decide) k_1646 tyX14 tyX14_ok nmX14 rfl rfl (Or.inr (Or.inr (Or.inr (Or.inr ⟨_, rfl⟩)))) rfl dX14_init_850 (by decide) rfl trivial (fun h134 e134 => ?_)
  replace F : Fr shR 26 h134 := by rw [e134]; exact F.up (by decide)
  refine a_aload_n C dX14_init_853 rfl (by decide) rfl ?_
  refine a_bipush C ⟨by decide, by decide⟩ (by decide) dX14_init_854 ?_
  refine a_newi C 14 1 (atype := .int) (N' := 96) k_194 rfl rfl (by decide) rfl (by decide) rfl rfl (by decide) (by decide) F.at rfl rfl dX14_init_856 (fun z26 hz hf C => ?_)
  replace HF := hf_trans HF hz hf
  replace Z := Z.trans hz (by decide)
  replace F := F.le (n' := 27) (by decide)
  refine a_putE C 12 63 rfl (by decide) rfl iX14 (by decide) k_1648 tyX14 tyX14_ok nmX14 rfl rfl (Or.inr (Or.inr (Or.inr (Or.inr ⟨_, rfl⟩)))) rfl dX14_init_858 (by decide) rfl trivial (fun h135 e135 => ?_)
  replace F : Fr shR 27 h135 := by rw [e135]; exact F.up (by decide)
  refine a_aload_n C dX14_init_861 rfl (by decide) rfl ?_
  refine a_bipush C ⟨by decide, by decide⟩ (by decide) dX14_init_862 ?_
  refine a_newi C 14 1 (atype := .int) (N' := 96) k_194 rfl rfl (by decide) rfl (by decide) rfl rfl (by decide) (by decide) F.at rfl rfl dX14_init_864 (fun z27 hz hf C => ?_)
  replace HF := hf_trans HF hz hf
  replace Z := Z.trans hz (by decide)
  replace F := F.le (n' := 28) (by decide)
  refine a_putE C 12 64 rfl (by decide) rfl iX14 (by decide) k_1649 tyX14 tyX14_ok nmX14 rfl rfl (Or.inr (Or.inr (Or.inr (Or.inr ⟨_, rfl⟩)))) rfl dX14_init_866 (by decide) rfl trivial (fun h136 e136 => ?_)
  replace F : Fr shR 28 h136 := by rw [e136]; exact F.up (by decide)
  refine a_aload_n C dX14_init_869 rfl (by decide) rfl ?_
  refine a_iconst C ⟨by decide, by decide⟩ dX14_init_870 ?_
  refine a_newl C (N' := 5) k_249 rfl rfl (by decide) F.at rfl rfl dX14_init_871 (fun z28 hz hf C => ?_)
  replace HF := hf_trans HF hz hf
  replace Z := Z.trans hz (by decide)
  replace F := F.le (n' := 29) (by decide)
  refine a_putE C 12 71 rfl (by decide) rfl iX14 (by decide) k_1656 tyX14 tyX14_ok nmX14 rfl rfl (Or.inr (Or.inr (Or.inr (Or.inr ⟨_, rfl⟩)))) rfl dX14_init_873 (by decide) rfl trivial (fun h137 e137 => ?_)
  replace F : Fr shR 29 h137 := by rw [e137]; exact F.up (by decide)
  refine a_aload_n C dX14_init_876 rfl (by decide) rfl ?_
  refine a_bipush C ⟨by decide, by decide⟩ (by decide) dX14_init_877 ?_
  refine a_newl C (N' := 64) k_249 rfl rfl (by decide) F.at rfl rfl dX14_init_879 (fun z29 hz hf C => ?_)
  replace HF := hf_trans HF hz hf
  replace Z := Z.trans hz (by decide)
  replace F := F.le (n' := 30) (by decide)
  refine a_putE C 12 72 rfl (by decide) rfl iX14 (by decide) k_1657 tyX14 tyX14_ok nmX14 rfl rfl (Or.inr (Or.inr (Or.inr (Or.inr ⟨_, rfl⟩)))) rfl dX14_init_881 (by decide) rfl trivial (fun h138 e138 => ?_)
  replace F : Fr shR 30 h138 := by rw [e138]; exact F.up (by decide)
  refine a_aload_n C dX14_init_884 rfl (by decide) rfl ?_
  refine a_sipush C ⟨by decide, by decide⟩ (by decide) dX14_init_885 ?_
  refine a_newi C 14 1 (atype := .int) (N' := 2304) k_194 rfl rfl (by decide) rfl (by decide) rfl rfl (by decide) (by decide) F.at rfl rfl dX14_init_888 (fun z30 hz hf C => ?_)
  replace HF := hf_trans HF hz hf
  replace Z := Z.trans hz (by decide)
  replace F := F.le (n' := 31) (by decide)
  refine a_putE C 12 74 rfl (by decide) rfl iX14 (by decide) k_1659 tyX14 tyX14_ok nmX14 rfl rfl (Or.inr (Or.inr (Or.inr (Or.inr ⟨_, rfl⟩)))) rfl dX14_init_890 (by decide) rfl trivial (fun h139 e139 => ?_)
  replace F : Fr shR 31 h139 := by rw [e139]; exact F.up (by decide)
  refine a_aload_n C dX14_init_893 rfl (by decide) rfl ?_
  refine a_sipush C ⟨by decide, by decide⟩ (by decide) dX14_init_894 ?_
  refine a_newi C 14 1 (atype := .int) (N' := 2304) k_194 rfl rfl (by decide) rfl (by decide) rfl rfl (by decide) (by decide) F.at rfl rfl dX14_init_897 (fun z31 hz hf C => ?_)
  replace HF := hf_trans HF hz hf
  replace Z := Z.trans hz (by decide)
  replace F := F.le (n' := 32) (by decide)
  refine a_putE C 12 75 rfl (by decide) rfl iX14 (by decide) k_1660 tyX14 tyX14_ok nmX14 rfl rfl (Or.inr (Or.inr (Or.inr (Or.inr ⟨_, rfl⟩)))) rfl dX14_init_899 (by decide) rfl trivial (fun h140 e140 => ?_)
  replace F : Fr shR 32 h140 := by rw [e140]; exact F.up (by decide)
  refine a_aload_n C dX14_init_902 rfl (by decide) rfl ?_
  refine a_iconst C ⟨by decide, by decide⟩ dX14_init_903 ?_
  refine a_newi C 14 1 (atype := .int) (N' := 3) k_194 rfl rfl (by decide) rfl (by decide) rfl rfl (by decide) (by decide) F.at rfl rfl dX14_init_904 (fun z32 hz hf C => ?_)
  replace HF := hf_trans HF hz hf
  replace Z := Z.trans hz (by decide)
  replace F := F.le (n' := 33) (by decide)
  refine a_putE C 12 78 rfl (by decide) rfl iX14 (by decide) k_1663 tyX14 tyX14_ok nmX14 rfl rfl (Or.inr (Or.inr (Or.inr (Or.inr ⟨_, rfl⟩)))) rfl dX14_init_906 (by decide) rfl trivial (fun h141 e141 => ?_)
  replace F : Fr shR 33 h141 := by rw [e141]; exact F.up (by decide)
  refine a_aload_n C dX14_init_909 rfl (by decide) rfl ?_
  refine a_iconst C ⟨by decide, by decide⟩ dX14_init_910 ?_
  refine a_putE C 12 79 rfl (by decide) rfl iX14 (by decide) k_1664 tyX14 tyX14_ok nmX14 rfl rfl (Or.inl rfl) rfl dX14_init_911 (by decide) rfl ⟨by decide, by decide⟩ (fun h142 e142 => ?_)
  replace F : Fr shR 33 h142 := by rw [e142]; exact F.up (by decide)
  refine a_aload_n C dX14_init_914 rfl (by decide) rfl ?_
  refine a_bipush C ⟨by decide, by decide⟩ (by decide) dX14_init_915 ?_
  refine a_newi C 14 1 (atype := .int) (N' := 20) k_194 rfl rfl (by decide) rfl (by decide) rfl rfl (by decide) (by decide) F.at rfl rfl dX14_init_917 (fun z33 hz hf C => ?_)
  replace HF := hf_trans HF hz hf
  replace Z := Z.trans hz (by decide)
  replace F := F.le (n' := 34) (by decide)
  refine a_putE C 12 83 rfl (by decide) rfl iX14 (by decide) k_1668 tyX14 tyX14_ok nmX14 rfl rfl (Or.inr (Or.inr (Or.inr (Or.inr ⟨_, rfl⟩)))) rfl dX14_init_919 (by decide) rfl trivial (fun h143 e143 => ?_)
  replace F : Fr shR 34 h143 := by rw [e143]; exact F.up (by decide)
  refine a_aload_n C dX14_init_922 rfl (by decide) rfl ?_
  refine a_iconst C ⟨by decide, by decide⟩ dX14_init_923 ?_
  refine a_putE C 12 85 rfl (by decide) rfl iX14 (by decide) k_1670 tyX14 tyX14_ok nmX14 rfl rfl (Or.inl rfl) rfl dX14_init_924 (by decide) rfl ⟨by decide, by decide⟩ (fun h144 e144 => ?_)
  replace F : Fr shR 34 h144 := by rw [e144]; exact F.up (by decide)
  refine a_aload_n C dX14_init_927 rfl (by decide) rfl ?_
  refine a_bipush C ⟨by decide, by decide⟩ (by decide) dX14_init_928 ?_
  refine a_newi C 14 1 (atype := .int) (N' := 96) k_194 rfl rfl (by decide) rfl (by decide) rfl rfl (by decide) (by decide) F.at rfl rfl dX14_init_930 (fun z34 hz hf C => ?_)
  replace HF := hf_trans HF hz hf
  replace Z := Z.trans hz (by decide)
  replace F := F.le (n' := 35) (by decide)
  refine a_putE C 12 86 rfl (by decide) rfl iX14 (by decide) k_1671 tyX14 tyX14_ok nmX14 rfl rfl (Or.inr (Or.inr (Or.inr (Or.inr ⟨_, rfl⟩)))) rfl dX14_init_932 (by decide) rfl trivial (fun h145 e145 => ?_)
  replace F : Fr shR 35 h145 := by rw [e145]; exact F.up (by decide)
  refine a_aload_n C dX14_init_935 rfl (by decide) rfl ?_
  refine a_bipush C ⟨by decide, by decide⟩ (by decide) dX14_init_936 ?_
  refine a_newi C 16 3 (atype := .boolean) (N' := 32) k_573 rfl rfl (by decide) rfl (by decide) rfl rfl (by decide) (by decide) F.at rfl rfl dX14_init_938 (fun z35 hz hf C => ?_)
  replace HF := hf_trans HF hz hf
  replace Z := Z.trans hz (by decide)
  replace F := F.le (n' := 36) (by decide)
  refine a_putE C 12 87 rfl (by decide) rfl iX14 (by decide) k_1672 tyX14 tyX14_ok nmX14 rfl rfl (Or.inr (Or.inr (Or.inr (Or.inr ⟨_, rfl⟩)))) rfl dX14_init_940 (by decide) rfl trivial (fun h146 e146 => ?_)
  replace F : Fr shR 36 h146 := by rw [e146]; exact F.up (by decide)
  refine a_aload_n C dX14_init_943 rfl (by decide) rfl ?_
  refine a_sipush C ⟨by decide, by decide⟩ (by decide) dX14_init_944 ?_
  refine a_newi C 14 1 (atype := .int) (N' := 4464) k_194 rfl rfl (by decide) rfl (by decide) rfl rfl (by decide) (by decide) F.at rfl rfl dX14_init_947 (fun z36 hz hf C => ?_)
  replace HF := hf_trans HF hz hf
  replace Z := Z.trans hz (by decide)
  replace F := F.le (n' := 37) (by decide)
  refine a_putE C 12 91 rfl (by decide) rfl iX14 (by decide) k_1676 tyX14 tyX14_ok nmX14 rfl rfl (Or.inr (Or.inr (Or.inr (Or.inr ⟨_, rfl⟩)))) rfl dX14_init_949 (by decide) rfl trivial (fun h147 e147 => ?_)
  replace F : Fr shR 37 h147 := by rw [e147]; exact F.up (by decide)
  refine a_aload_n C dX14_init_952 rfl (by decide) rfl ?_
  refine a_bipush C ⟨by decide, by decide⟩ (by decide) dX14_init_953 ?_
  refine a_newi C 14 1 (atype := .int) (N' := 24) k_194 rfl rfl (by decide) rfl (by decide) rfl rfl (by decide) (by decide) F.at rfl rfl dX14_init_955 (fun z37 hz hf C => ?_)
  replace HF := hf_trans HF hz hf
  replace Z := Z.trans hz (by decide)
  replace F := F.le (n' := 38) (by decide)
  refine a_putE C 12 92 rfl (by decide) rfl iX14 (by decide) k_1677 tyX14 tyX14_ok nmX14 rfl rfl (Or.inr (Or.inr (Or.inr (Or.inr ⟨_, rfl⟩)))) rfl dX14_init_957 (by decide) rfl trivial (fun h148 e148 => ?_)
  replace F : Fr shR 38 h148 := by rw [e148]; exact F.up (by decide)
  refine a_aload_n C dX14_init_960 rfl (by decide) rfl ?_
  refine a_bipush C ⟨by decide, by decide⟩ (by decide) dX14_init_961 ?_
  refine a_newi C 14 1 (atype := .int) (N' := 24) k_194 rfl rfl (by decide) rfl (by decide) rfl rfl (by decide) (by decide) F.at rfl rfl dX14_init_963 (fun z38 hz hf C => ?_)
  replace HF := hf_trans HF hz hf
  replace Z := Z.trans hz (by decide)
  replace F := F.le (n' := 39) (by decide)
  refine a_putE C 12 93 rfl (by decide) rfl iX14 (by decide) k_1678 tyX14 tyX14_ok nmX14 rfl rfl (Or.inr (Or.inr (Or.inr (Or.inr ⟨_, rfl⟩)))) rfl dX14_init_965 (by decide) rfl trivial (fun h149 e149 => ?_)
  replace F : Fr shR 39 h149 := by rw [e149]; exact F.up (by decide)
  refine a_aload_n C dX14_init_968 rfl (by decide) rfl ?_
  refine a_bipush C ⟨by decide, by decide⟩ (by decide) dX14_init_969 ?_
  refine a_newi C 14 1 (atype := .int) (N' := 48) k_194 rfl rfl (by decide) rfl (by decide) rfl rfl (by decide) (by decide) F.at rfl rfl dX14_init_971 (fun z39 hz hf C => ?_)
  replace HF := hf_trans HF hz hf
  replace Z := Z.trans hz (by decide)
  replace F := F.le (n' := 40) (by decide)
  refine a_putE C 12 98 rfl (by decide) rfl iX14 (by decide) k_1683 tyX14 tyX14_ok nmX14 rfl rfl (Or.inr (Or.inr (Or.inr (Or.inr ⟨_, rfl⟩)))) rfl dX14_init_973 (by decide) rfl trivial (fun h150 e150 => ?_)
  replace F : Fr shR 40 h150 := by rw [e150]; exact F.up (by decide)
  refine a_aload_n C dX14_init_976 rfl (by decide) rfl ?_
  refine a_bipush C ⟨by decide, by decide⟩ (by decide) dX14_init_977 ?_
  refine a_newi C 14 1 (atype := .int) (N' := 48) k_194 rfl rfl (by decide) rfl (by decide) rfl rfl (by decide) (by decide) F.at rfl rfl dX14_init_979 (fun z40 hz hf C => ?_)
  replace HF := hf_trans HF hz hf
  replace Z := Z.trans hz (by decide)
  replace F := F.le (n' := 41) (by decide)
  refine a_putE C 12 99 rfl (by decide) rfl iX14 (by decide) k_1684 tyX14 tyX14_ok nmX14 rfl rfl (Or.inr (Or.inr (Or.inr (Or.inr ⟨_, rfl⟩)))) rfl dX14_init_981 (by decide) rfl trivial (fun h151 e151 => ?_)
  replace F : Fr shR 41 h151 := by rw [e151]; exact F.up (by decide)
  refine a_aload_n C dX14_init_984 rfl (by decide) rfl ?_
  have eH : h151 = refH h := by rw [e151, e150, e149, e148, e147, e146, e145, e144, e143, e142, e141, e140, e139, e138, e137, e136, e135, e134, e133, e132, e131, e130, e129, e128, e127, e126, e125, e124, e123, e122, e121, e120, e119, e118, e117, e116, e115, e114, e113, e112, e111, e110, eB, eA, e1]; rfl
  have hwd : aWd shR 41 wrR h151 := by
    intro i hi j hj hf
    by_cases t : i < 1
    · have e : i = 0 := by omega
      subst e
      rw [eH]
      unfold refH
      have l1 : ∀ j : Nat, j < alen (shR ((0 : Nat) : Int)) → mfin (shR ((0 : Nat) : Int)).1 j = true → j = 0 ∨ look refLb ((0 : Nat) : Int) j none = some (wrR ((0 : Nat) : Int) j) := by decide +kernel
      rcases l1 j hj hf with y | y
      · subst y
        rw [look_none refLb _ _ _ (by decide +kernel), look_none a_wordsBL _ _ _ (by decide +kernel), look_none a_wordsAL _ _ _ (by decide +kernel)]
        rfl
      · exact ups_look refLb _ _ j none _ (fun v y => by cases y) y
    · have := ar i hi (by omega)
      rw [mfin_arr this.1 this.2.1] at hf
      cases hf
  refine a_callV C wrR (o := 0) (av := []) (np := 0) (K := fun g => g = plainT h151) pl_ref hwd k_1546 k_1548 k_68 k_147 k_1549 hdW_X14_plain rfl rfl (by decide) rfl (by decide) rfl rfl rfl rfl dX14_init_985 rfl rfl (fun _ g _ hm => aR _ g hm) (fun g hK hm => ?_)
  have hwd2 : aWd shR 41 wrR g := by
    intro i hi j hj hf
    have hmm := hm i hi j (by rw [show mxS (XW shR _ 41 wrR) (i : Int) = shR i from if_pos (by omega)]; exact hj)
    rw [show mxS (XW shR _ 41 wrR) (i : Int) = shR i from if_pos (by omega)] at hmm
    exact hmm.2 hf
  obtain ⟨s1, es1⟩ : ∃ s1, s1 = up (up (up (up (up (cpT (ktF g) 25) 0 76 (g 0 30)) 0 82 0) 0 84 0) 0 85 (-1)) 0 96 0 := ⟨_, rfl⟩
  have P1 : prm s1 := hprm s1 (by rw [es1, hK, eH])
  refine a_aload_n C dX14_init_988 rfl (by decide) rfl ?_
  refine a_callV C wrR (o := 0) (av := []) (np := 0) (K := fun s => (∀ o j, ¬ (o = 0 ∧ j = 77) → ¬ (o = 32 ∧ 0 ≤ j ∧ j < 3) → s o j = wayT s1 o j) ∧ s 0 77 = wayT s1 0 18 ∧ ∀ j, 0 ≤ j → j < 3 → s 32 j = wayT s1 8 j) (kt_ref es1 P1) hwd2 k_1550 k_1552 k_69 k_147 k_1553 hdW_X14_keepText rfl rfl (by decide) rfl (by decide) rfl rfl rfl rfl dX14_init_989 rfl rfl (fun _ g _ hm => aR _ g hm) (fun s2 hK2 hm2 => ?_)
  refine a_ret C Z (by decide) HF hr dX14_init_992 ⟨g, s1, by rw [hK, eH], es1, hK2.1, hK2.2.1, hK2.2.2, fun i hi j hj hf => ?_⟩
  have hmm := hm2 i hi j (by rw [show mxS (XW shR _ 41 wrR) (i : Int) = shR i from if_pos (by omega)]; exact hj)
  rw [show mxS (XW shR _ 41 wrR) (i : Int) = shR i from if_pos (by omega)] at hmm
  exact hmm.2 hf
