theorem k_1343 : Cond.methodLink RL 142 yX13_apart ∈ mtb := mk_s6 10 rfl rfl
theorem k_1344 : Cond.instanceMethod yX13_apart ∈ mtb := mk_s6 11 rfl rfl
theorem k_1345 : Cond.selects RX13 yX13_apart yX13_apart ∈ mtb := mk_s6 12 rfl rfl
theorem k_1346 : Cond.code yX13_apart cX13_apart 5 (some Jvm.ClassFile.FieldType.int) ∈ mtb := mk_s6 13 rfl rfl
theorem k_2220 : Cond.methodLink RL 146 yX14_apart ∈ mtb := mk_s9 167 rfl rfl
theorem k_2221 : Cond.instanceMethod yX14_apart ∈ mtb := mk_s9 168 rfl rfl
theorem k_2222 : Cond.selects RX14 yX14_apart yX14_apart ∈ mtb := mk_s9 169 rfl rfl
theorem k_2223 : Cond.code yX14_apart cX14_apart 7 (some Jvm.ClassFile.FieldType.int) ∈ mtb := mk_s9 170 rfl rfl
theorem k_2284 : Cond.constantLong RL 140 (Int64.ofInt 4294967295) ∈ mtb := mk_s9 231 rfl rfl
theorem hdL_X13_apart : yX13_apart.cls = RX13 ∧ yX13_apart.cls ≠ "java/lang/invoke/MethodHandle" ∧ yX13_apart.cls ≠ "java/lang/invoke/VarHandle" ∧ (parseMethodDescriptor yX13_apart.desc).map (fun d => d.parameters.length) = some 3 := by decide +kernel
theorem hdL_X14_apart : yX14_apart.cls = RX14 ∧ yX14_apart.cls ≠ "java/lang/invoke/MethodHandle" ∧ yX14_apart.cls ≠ "java/lang/invoke/VarHandle" ∧ (parseMethodDescriptor yX14_apart.desc).map (fun d => d.parameters.length) = some 3 := by decide +kernel
section LCS
variable {z : Mz} {aR : Int → Nat} {oa b L : Nat} {xs : Nat → Int32} {p : Program} {l : Launch} {e : Env} {s : State} {m : MethodId} {below : List Frame} {meth : Method} {c : Code} {Q : State → Prop} {cells slots pc : Nat} {lo : List (Nat × Value)} {st : List Value} {q r : Mh} {ov : Int} {i : Int}
theorem l_hi (C : lC z aR oa b L xs p s m c) {a : Int} {pc1 pc2 pc3 : Nat} (ra : r32 a) (d0 : decode cL_law pc = .ok (.i2l, 1)) (d1 : decode cL_law pc1 = .ok (.bipush 32, 2)) (d2 : decode cL_law pc2 = .ok (.lshl, 1)) (q1 : pc + 1 = pc1) (q2 : pc1 + 2 = pc2) (q3 : pc2 + 1 = pc3) (k : lG z aR oa b p l e s m below meth c Q cells slots pc3 lo (.long (Int64.ofInt (j_lshl a 32)) :: st) q r ov) : lG z aR oa b p l e s m below meth c Q cells slots pc lo (.int (Int32.ofInt a) :: st) q r ov := by
  intro H locs ls h1 h2 h3 h4 h5 h6 h7 h8 h9 hv
  refine lv_i2l (x := Int32.ofInt a) (v := Int64.ofInt a) C.1 C.2.1 d0 (i64_eq (by rw [Int32.toInt_toInt64, i32_toInt ra])) ?_
  rw [q1]
  refine lv_bipush (v := Int32.ofInt 32) C.1 C.2.1 d1 (by decide) ?_
  rw [q2]
  refine lv_lshl (x := Int64.ofInt a) (y := Int32.ofInt 32) (v := Int64.ofInt (j_lshl a 32)) C.1 C.2.1 d2 (by unfold j_lshl; rw [Int64.ofInt_toInt]) ?_
  rw [q3]
  exact k H locs ls h1 h2 h3 h4 h5 h6 h7 h8 h9 hv
theorem l_lo (C : lC z aR oa b L xs p s m c) {a hi : Int} {pc1 pc2 pc3 pc4 : Nat} (ra : r32 a) (hw : Cond.constantLong RL 140 (Int64.ofInt 4294967295) ∈ mtb) (d0 : decode cL_law pc = .ok (.i2l, 1)) (d1 : decode cL_law pc1 = .ok (.ldc2_w 140, 3)) (d2 : decode cL_law pc2 = .ok (.land, 1)) (d3 : decode cL_law pc3 = .ok (.lor, 1)) (q1 : pc + 1 = pc1) (q2 : pc1 + 3 = pc2) (q3 : pc2 + 1 = pc3) (q4 : pc3 + 1 = pc4) (k : lG z aR oa b p l e s m below meth c Q cells slots pc4 lo (.long (Int64.ofInt (j_lor hi (j_land a 4294967295))) :: st) q r ov) : lG z aR oa b p l e s m below meth c Q cells slots pc lo (.int (Int32.ofInt a) :: .long (Int64.ofInt hi) :: st) q r ov := by
  intro H locs ls h1 h2 h3 h4 h5 h6 h7 h8 h9 hv
  refine lv_i2l (x := Int32.ofInt a) (v := Int64.ofInt a) C.1 C.2.1 d0 (i64_eq (by rw [Int32.toInt_toInt64, i32_toInt ra])) ?_
  rw [q1]
  refine lv_ldc2 (v := Int64.ofInt 4294967295) C.1 C.2.1 C.2.2.2.1 (C.2.2.2.2.1 _ hw) d1 ?_
  rw [q2]
  refine lv_land (x := Int64.ofInt a) (y := Int64.ofInt 4294967295) C.1 C.2.1 d2 ?_
  rw [show Int64.ofInt a &&& Int64.ofInt 4294967295 = Int64.ofInt (j_land a 4294967295) from by unfold j_land; rw [Int64.ofInt_toInt], q3]
  refine lv_lor (x := Int64.ofInt hi) (y := Int64.ofInt (j_land a 4294967295)) C.1 C.2.1 d3 ?_
  rw [show Int64.ofInt hi ||| Int64.ofInt (j_land a 4294967295) = Int64.ofInt (j_lor hi (j_land a 4294967295)) from by unfold j_lor; rw [Int64.ofInt_toInt], q4]
  exact k H locs ls h1 h2 h3 h4 h5 h6 h7 h8 h9 hv
def lap (xs : Nat → Int32) (i : Int) : Int := j_lor (j_lshl (sx xs i 3) 32) (j_land (sx xs i 4) 4294967295)
theorem lap_r {xs : Nat → Int32} {i : Int} : r64 (lap xs i) := i64_r _
theorem lc_apart (C : lC z aR oa b L xs p s m c) (hlo : lok z aR oa b i lo) (i0 : 0 ≤ i) (hi : i + 6 ≤ L) (hL : L ≤ 3072) (hcs : cells ≤ 601024) (hss : slots ≤ 7293033) (h : Rel q r) (k : ∀ q' r' : Mh, Rel q' r' → lG z aR oa b p l e s m below meth c Q cells slots 1503 lo [] q' r' ov) : lG z aR oa b p l e s m below meth c Q cells slots 1163 lo [] q r ov := by
  refine l_x C hlo dL_law_1163 ?_
  refine l_arg C hlo i0 (by decide) (by omega) hL dL_law_1164 dL_law_1165 dL_law_1167 dL_law_1168 dL_law_1169 rfl rfl rfl rfl rfl ?_
  refine l_arg C hlo i0 (by decide) (by omega) hL dL_law_1170 dL_law_1171 dL_law_1173 dL_law_1174 dL_law_1175 rfl rfl rfl rfl rfl ?_
  refine l_arg C hlo i0 (by decide) (by omega) hL dL_law_1176 dL_law_1177 dL_law_1179 dL_law_1180 dL_law_1181 rfl rfl rfl rfl rfl ?_
  refine l_hi C sx_r dL_law_1182 dL_law_1183 dL_law_1185 rfl rfl rfl ?_
  refine l_arg C hlo i0 (by decide) (by omega) hL dL_law_1186 dL_law_1187 dL_law_1189 dL_law_1190 dL_law_1191 rfl rfl rfl rfl rfl ?_
  refine l_lo C sx_r k_2284 dL_law_1192 dL_law_1193 dL_law_1196 dL_law_1197 rfl rfl rfl rfl ?_
  refine l_callC C (av := [(0, sx xs i 1), (0, sx xs i 2), (1, lap xs i)]) (st := []) (n := 3) (sim_X13_apart (op_apart (sx xs i 1) (sx xs i 2) (lap xs i) sx_r h)) k_1343 k_1344 k_1345 k_134 k_1346 hdL_X13_apart rfl rfl rfl (mok_cons (sx_r) (mok_cons (sx_r) (mok_cons (lap_r) (fun _ y => by cases y)))) rfl (Nat.le_of_ble_eq_true rfl) dL_law_1198 hcs hss (fun x q' hx hok => ?_)
  obtain ⟨x, rfl, hx⟩ := hx
  refine l_m C hlo dL_law_1201 ?_
  refine l_arg C hlo i0 (by decide) (by omega) hL dL_law_1202 dL_law_1203 dL_law_1205 dL_law_1206 dL_law_1207 rfl rfl rfl rfl rfl ?_
  refine l_arg C hlo i0 (by decide) (by omega) hL dL_law_1208 dL_law_1209 dL_law_1211 dL_law_1212 dL_law_1213 rfl rfl rfl rfl rfl ?_
  refine l_arg C hlo i0 (by decide) (by omega) hL dL_law_1214 dL_law_1215 dL_law_1217 dL_law_1218 dL_law_1219 rfl rfl rfl rfl rfl ?_
  refine l_hi C sx_r dL_law_1220 dL_law_1221 dL_law_1223 rfl rfl rfl ?_
  refine l_arg C hlo i0 (by decide) (by omega) hL dL_law_1224 dL_law_1225 dL_law_1227 dL_law_1228 dL_law_1229 rfl rfl rfl rfl rfl ?_
  refine l_lo C sx_r k_2284 dL_law_1230 dL_law_1231 dL_law_1234 dL_law_1235 rfl rfl rfl rfl ?_
  refine l_callR C (av := [(0, sx xs i 1), (0, sx xs i 2), (1, lap xs i)]) (st := [.int (Int32.ofInt x)]) (n := 3) (sim_X14_apart hx) k_2220 k_2221 k_2222 k_147 k_2223 hdL_X14_apart rfl rfl rfl (mok_cons (sx_r) (mok_cons (sx_r) (mok_cons (lap_r) (fun _ y => by cases y)))) rfl (Nat.le_of_ble_eq_true rfl) dL_law_1236 hcs hss (fun y r' hy hok2 => ?_)
  obtain ⟨y, rfl, rfl, hR⟩ := hy
  refine l_eqI (x := Int32.ofInt x) C dL_law_1239 rfl ?_
  exact k _ _ hR
end LCS
