/-! ===== the law's case of look ===== -/
theorem kl_2073 : Cond.methodLink RL 44 yX14_look ∈ mtb := mk_s8 226 rfl rfl
theorem kl_2074 : Cond.instanceMethod yX14_look ∈ mtb := mk_s8 227 rfl rfl
theorem kl_2075 : Cond.selects RX14 yX14_look yX14_look ∈ mtb := mk_s8 228 rfl rfl
theorem kl_2076 : Cond.code yX14_look cX14_look 3 (some Jvm.ClassFile.FieldType.int) ∈ mtb := mk_s8 229 rfl rfl
theorem kl_1920 : Cond.methodLink RL 45 yX14_thrown ∈ mtb := mk_s8 73 rfl rfl
theorem kl_1921 : Cond.instanceMethod yX14_thrown ∈ mtb := mk_s8 74 rfl rfl
theorem kl_1922 : Cond.selects RX14 yX14_thrown yX14_thrown ∈ mtb := mk_s8 75 rfl rfl
theorem kl_1923 : Cond.code yX14_thrown cX14_thrown 1 (some Jvm.ClassFile.FieldType.int) ∈ mtb := mk_s8 76 rfl rfl
theorem hdL_X14_look : yX14_look.cls = RX14 ∧ yX14_look.cls ≠ "java/lang/invoke/MethodHandle" ∧ yX14_look.cls ≠ "java/lang/invoke/VarHandle" ∧ (parseMethodDescriptor yX14_look.desc).map (fun d => d.parameters.length) = some 2 := by decide +kernel
theorem hdL_X14_thrown : yX14_thrown.cls = RX14 ∧ yX14_thrown.cls ≠ "java/lang/invoke/MethodHandle" ∧ yX14_thrown.cls ≠ "java/lang/invoke/VarHandle" ∧ (parseMethodDescriptor yX14_thrown.desc).map (fun d => d.parameters.length) = some 0 := by decide +kernel
theorem lkk_r {r : Mh} {a b : Int} : r32 (lkk r a b) := by
  unfold lkk
  split
  · exact ⟨by decide, by decide⟩
  · split
    · exact ⟨by decide, by decide⟩
    · split
      · exact ⟨by decide, by decide⟩
      · split <;> exact ⟨by decide, by decide⟩
section LKL
variable {z : Mz} {aR : Int → Nat} {oa b L : Nat} {xs : Nat → Int32} {p : Program} {l : Launch} {e : Env} {s : State} {m : MethodId} {below : List Frame} {meth : Method} {c : Code} {Q : State → Prop} {cells slots : Nat} {q r : Mh} {ov : Int} {i : Int}
def lo6 (z : Mz) (aR : Int → Nat) (oa b : Nat) (i k : Int) : List (Nat × Value) := (5, Value.int (Int32.ofInt k)) :: lo5 z aR oa b i
def lo7 (z : Mz) (aR : Int → Nat) (oa b : Nat) (i k y : Int) : List (Nat × Value) := (6, Value.int (Int32.ofInt y)) :: lo6 z aR oa b i k
theorem lok6 {k : Int} : lok z aR oa b i (lo6 z aR oa b i k) := by
  unfold lok lo6 lo5
  simp
theorem lok7 {k y : Int} : lok z aR oa b i (lo7 z aR oa b i k y) := by
  unfold lok lo7 lo6 lo5
  simp
theorem lc_look2 (C : lC z aR oa b L xs p s m c) (i0 : 0 ≤ i) (hi : i + 6 ≤ L) (hL : L ≤ 3072) (hcs : cells ≤ 601024) (hss : slots ≤ 7293033) (h : Rel q r) (hov : lkk r (sx xs i 1) (sx xs i 2) = 0 → ov = lkv r (sx xs i 1) (sx xs i 2))
    (k : ∀ (q' r' : Mh) (ov' : Int) (lo : List (Nat × Value)), lok z aR oa b i lo → Rel q' r' → lG z aR oa b p l e s m below meth c Q cells slots 1503 lo [] q' r' ov') : lG z aR oa b p l e s m below meth c Q cells slots 369 (lo5 z aR oa b i) [.int (Int32.ofInt (lkk r (sx xs i 1) (sx xs i 2)))] q r ov := by
  obtain ⟨kk, ekk⟩ : ∃ kk, kk = lkk r (sx xs i 1) (sx xs i 2) := ⟨_, rfl⟩
  have rk : r32 kk := by rw [ekk]; exact lkk_r
  rw [← ekk] at hov ⊢
  suffices k1 : lG z aR oa b p l e s m below meth c Q cells slots 371 (lo6 z aR oa b i kk) [] q r ov by
    intro H locs ls h1 h2 h3 h4 h5 h6 h7 h8 h9 hv
    exact lv_istore (lv' := lo6 z aR oa b i kk) C.1 C.2.1 dL_law_369 hv (by decide) rfl (fun ls9 hv9 => k1 H locs ls9 h1 h2 h3 h4 h5 h6 h7 h8 h9 hv9)
  refine l_m C lok6 dL_law_371 ?_
  refine l_arg C lok6 i0 (by decide) (by omega) hL dL_law_372 dL_law_373 dL_law_375 dL_law_376 dL_law_377 rfl rfl rfl rfl rfl ?_
  refine l_arg C lok6 i0 (by decide) (by omega) hL dL_law_378 dL_law_379 dL_law_381 dL_law_382 dL_law_383 rfl rfl rfl rfl rfl ?_
  refine l_callR C (av := [(0, sx xs i 1), (0, sx xs i 2)]) (st := []) (n := 2) (sim_X14_look (op_lookR (sx xs i 1) (sx xs i 2) h)) kl_2073 kl_2074 kl_2075 k_147 kl_2076 hdL_X14_look rfl rfl rfl (mok_cons (sx_r) (mok_cons (sx_r) (fun v hv => by cases hv))) rfl (Nat.le_of_ble_eq_true rfl) dL_law_384 hcs hss (fun x r' hk hok => ?_)
  obtain ⟨y, rfl, hR, hth, hy⟩ := hk
  rw [← ekk] at hth hy
  have ry : r32 y := hok _ rfl
  suffices k1 : lG z aR oa b p l e s m below meth c Q cells slots 389 (lo7 z aR oa b i kk y) [] q r' ov by
    intro H locs ls h1 h2 h3 h4 h5 h6 h7 h8 h9 hv
    exact lv_istore (lv' := lo7 z aR oa b i kk y) C.1 C.2.1 dL_law_387 hv (by decide) rfl (fun ls9 hv9 => k1 H locs ls9 h1 h2 h3 h4 h5 h6 h7 h8 h9 hv9)
  refine l_m C lok7 dL_law_389 ?_
  refine l_callR C (av := []) (st := []) (n := 0) (sim_X14_thrown (K := fun x r2 => x = r' 0 2 ∧ r2 = r') ⟨rfl, rfl⟩) kl_1920 kl_1921 kl_1922 k_147 kl_1923 hdL_X14_thrown rfl rfl rfl (fun v hv => by cases hv) rfl (Nat.le_of_ble_eq_true rfl) dL_law_390 hcs hss (fun x r2 hk hok => ?_)
  obtain ⟨t, rfl, et, er⟩ := hk
  subst er
  rw [hth] at et
  subst et
  suffices k1 : lG z aR oa b p l e s m below meth c Q cells slots 400 (lo7 z aR oa b i t y) [] q r2 ov by
    intro H locs ls h1 h2 h3 h4 h5 h6 h7 h8 h9 hv
    refine lv_iload C.1 C.2.1 dL_law_393 (hv.2.2 (5, .int (Int32.ofInt t)) (by unfold lo7 lo6; simp)) ?_
    exact l_eqI C (st := []) dL_law_395 (tgt := 400) rfl k1 H locs ls h1 h2 h3 h4 h5 h6 h7 h8 h9 hv
  have k2 : lG z aR oa b p l e s m below meth c Q cells slots 417 (lo7 z aR oa b i t y) [] q r2 ov := l_goto C 1503 dL_law_417 rfl (k q r2 ov _ lok7 hR)
  intro H locs ls h1 h2 h3 h4 h5 h6 h7 h8 h9 hv
  refine lv_iload C.1 C.2.1 dL_law_400 (hv.2.2 (5, .int (Int32.ofInt t)) (by unfold lo7 lo6; simp)) ?_
  refine lv_if_ne C.1 C.2.1 dL_law_402 (tgt := 417) rfl (fun _ => k2 H locs ls h1 h2 h3 h4 h5 h6 h7 h8 h9 hv) (fun e0 => ?_)
  have t0 : t = 0 := by
    have := (i32_inj rk (show r32 0 from ⟨by decide, by decide⟩)).mp e0
    exact this
  have eo : ov = y := by rw [hov t0, hy t0]
  refine lv_aload_n C.1 C.2.1 dL_law_405 rfl (hv.2.2 (3, .ref oa) lok7.2.1) ?_
  refine lv_iconst (v := 0) C.1 C.2.1 dL_law_406 (by decide) ?_
  refine va_lald C.1 C.2.1 C.2.2.2.2.2.1 h5 0 2 (cA := mxC (XC z) 15) (n := 1) (f := fun _ => Int64.ofInt ov) rfl rfl (i := 0) (by unfold vp_in; decide) dL_law_407 ?_
  refine lv_iload C.1 C.2.1 dL_law_408 (hv.2.2 (6, .int (Int32.ofInt y)) (by unfold lo7; simp)) ?_
  refine lv_i2l (v := Int64.ofInt y) C.1 C.2.1 dL_law_410 (i64_eq (by rw [Int32.toInt_toInt64, i32_toInt ry])) ?_
  subst eo
  exact l_eqL C (x := Int64.ofInt ov) (st := []) dL_law_411 dL_law_412 (tgt := 417) rfl k2 H locs ls h1 h2 h3 h4 h5 h6 h7 h8 h9 hv
theorem lc_look (hl0 : l.stackTraces = false) (hL : L ≤ 3072) (C : lC z aR oa b L xs p s m c) (hLS : lkS (fun x => s.heap.size ≤ x) s s.heap) : LKc z aR oa b L p l e s m below meth c Q := by
  intro i q r ov cells slots i0 hi hcs hss h k
  refine l_x C lok5 dL_law_352 ?_
  refine l_arg C lok5 i0 (by decide) (by omega) hL dL_law_353 dL_law_354 dL_law_356 dL_law_357 dL_law_358 rfl rfl rfl rfl rfl ?_
  refine l_arg C lok5 i0 (by decide) (by omega) hL dL_law_359 dL_law_360 dL_law_362 dL_law_363 dL_law_364 rfl rfl rfl rfl rfl ?_
  refine l_o C lok5 dL_law_365 ?_
  intro H locs ls h1 h2 h3 h4 h5 h6 h7 h8 h9 hv
  obtain ⟨hx, hb, hml, hown, hts, hK, hI, hIR, hN, hT, hX, hbl, lw1, lw2, ap1, lw3, ap2, ap3⟩ := id C
  have hA2 : ∀ x, loA z oa H.size x → s.heap.size ≤ x := fun x hx => by
    rcases hx with (⟨j, y1, y2⟩ | y) | y
    · rw [y2]; exact lw1 j y1
    · exact Nat.le_trans h9.1 y
    · rw [y]; exact lw3
  have hpre : ∀ U : State, U.heap = H → s.WarmedH U.vm → loP z oa (sx xs i 1) (sx xs i 2) q ov H.size ([.ref (z.2.2.1 0), .int (Int32.ofInt (sx xs i 1)), .int (Int32.ofInt (sx xs i 2)), .ref oa] : List Value).toArray U := by
    intro U hU hW
    refine ⟨rfl, by rw [hU], by rw [hU]; exact h3, by rw [hU]; exact h5, va_K.moved hW.alike hK, h1, hN.warm hW, ?_, hI, ?_, ap2, sx_r, sx_r⟩
    · rw [hU]; exact ((hT.moved hW.alike).kept h9.2.1).narrow hA2
    · rw [hU]; exact ((hLS.warm hW).kept h9.2.1).narrow hA2
  have hGd : GoodIn mtb (va_wsS RL 39 yL_look (Cond.codeWith yL_look cL_look 5 (some .int) [(0, 10, 13, 13), (0, 10, 17, 15)] :: mtb)) := mgi kl_1433 (mgi kl_1434 (mgi k_L0 (mgi kl_1435 mtb_good)))
  have hrun : va_Run p l e room_1 s m #[Value.ref b] below meth c H locs cells slots 1 6 (F0 m 366 ls [.ref oa, .int (Int32.ofInt (sx xs i 2)), .int (Int32.ofInt (sx xs i 1)), .ref (z.2.2.1 0)]) [] (loQ z oa (lkk r (sx xs i 1) (sx xs i 2)) (lkv r (sx xs i 1) (sx xs i 2)) q (loA z oa H.size) ([.ref (z.2.2.1 0), .int (Int32.ofInt (sx xs i 1)), .int (Int32.ofInt (sx xs i 2)), .ref oa] : List Value).toArray) (loA z oa H.size) :=
    vx_runSW (hh := [(0, 10, 13, 13), (0, 10, 17, 15)]) (As := [.ref (z.2.2.1 0), .int (Int32.ofInt (sx xs i 1)), .int (Int32.ofInt (sx xs i 2)), .ref oa]) ⟨hx, hb, hml, hown, hts⟩ (c_look hl0 h H.size) (vx_cwSW 4 hts hGd rfl rfl rfl hdL_look ⟨Nat.le_of_ble_eq_true rfl, Nat.le_of_ble_eq_true rfl⟩) ⟨lo_blind, hpre⟩ rfl rfl hv.1 rfl (lv_room (Nat.le_of_ble_eq_true rfl)) dL_law_366 ⟨hcs, hss⟩
  intro T' hT' Z
  obtain ⟨v, st₀, t, T2, Lc, h0, X', hLc, e1, e2, ⟨⟨hv2, ov', hov, hP', hPo'⟩, hzz, hkk⟩, stp⟩ := hrun T' hT' Z
  cases hv2
  rw [h0] at hzz hkk
  have kk := lc_look2 (e := e) (below := below) (meth := meth) (Q := Q) (ov := ov') C i0 hi hL hcs hss h hov k
  have nA : ∀ x : Nat, x < H.size → (∀ j : Nat, j < 142 → z.2.2.1 j ≠ x) → x ≠ oa → T2.heap[x]? = H[x]? := fun x hx hn ho => by
    rw [e1]
    exact hkk x hx (fun y => by
      rcases y with (⟨j, y1, y2⟩ | y) | y
      · exact hn j y1 y2.symm
      · omega
      · exact ho y)
  have hsz : H.size ≤ T2.heap.size := by rw [e1]; exact hzz
  have hS' : va_S (fun x => s.heap.size ≤ x) s.heap T2.heap (locs ++ Lc) := by
    refine ⟨Nat.le_trans h9.1 hsz, fun x y1 y2 => ?_, fun x hx => ?_⟩
    · rw [e1, hkk x (Nat.lt_of_lt_of_le y1 h9.1) (fun y => y2 (hA2 x y))]
      exact h9.2.1 x y1 y2
    · rcases List.mem_append.mp hx with y | y
      · exact h9.2.2 x y
      · exact hA2 _ (hLc x y)
  obtain ⟨t2, a1, b1⟩ := kk T2.heap (locs ++ Lc) ls h1 h2 (by rw [e1]; exact hP') (h4.kept (fun j w hw => by
      obtain ⟨y1, y2⟩ := mW_in hw
      rw [y2]
      exact nA _ (h7 j y1) (fun i' hi' => ap1 i' j hi' y1) (ap3 j y1))) (by rw [e1]; exact hPo') (fun j hj => Nat.lt_of_lt_of_le (h6 j hj) hsz) (fun j hj => Nat.lt_of_lt_of_le (h7 j hj) hsz) (Nat.lt_of_lt_of_le h8 hsz) hS' hv T2 rfl X'
  exact ⟨t2, stp t2 a1, b1⟩
end LKL
/-! ===== what a throw looks at, at the law's entry ===== -/
set_option maxRecDepth 100000 in
theorem nf_t : Cond.isRef (.static Bundle.tN "UNASSIGNED_STACK" Bundle.steD) ∈ nfl ∧ Cond.isRef (.static Bundle.tN "SUPPRESSED_SENTINEL" Bundle.listD) ∈ nfl ∧ Cond.exactly (.string RX13 129) "java/lang/String" ∈ nfl ∧ Cond.exactly (.string RX13 149) "java/lang/String" ∈ nfl ∧ Cond.not (.castable nNS nIO) ∈ nfl := by decide +kernel
theorem nf_t1 : Cond.laysStatic Bundle.tN "UNASSIGNED_STACK" Bundle.steD ∈ lw_tbl := mw_6 151 rfl
theorem nf_t2 : Cond.laysStatic Bundle.tN "SUPPRESSED_SENTINEL" Bundle.listD ∈ lw_tbl := mw_6 153 rfl
theorem nf_t3 : Cond.initialized Bundle.tN ∈ lw_tbl := mw_1 19 rfl
theorem nf_t4 : Cond.stringRef RX13 129 "no such kind" ∈ lw_tbl := mw_6 164 rfl
theorem nf_t5 : Cond.stringRef RX13 149 "no such what" ∈ lw_tbl := mw_6 200 rfl
theorem ground_lkS {s : State} {args : Array Value} (hts : ∀ w ∈ lw_tbl, w.before args s = true) (hgv : (Jvm.Cond.and given_1 narrow_1).before args s = true) : lkS (fun x => s.heap.size ≤ x) s s.heap := by
  have hs : ∀ w ∈ nfl, w.before args s = true := flat_of_before _ hgv
  have hA : ∀ a : Nat, a < s.heap.size → ¬ s.heap.size ≤ a := fun a h => Nat.not_le.mpr h
  refine ⟨lkW.of (fun w hw => hts w (lkT_tbl w hw)), vx_Zqof (hts _ nf_t1) (hts _ nf_t3) (hs _ nf_t.1) hA, vx_Zqof (hts _ nf_t2) (hts _ nf_t3) (hs _ nf_t.2.1) hA, ?_, ?_, va_Nc.of (hs _ nf_t.2.2.2.2)⟩
  · obtain ⟨a, c, cA, kA, q1, -⟩ := Cond.exactly_spec (args := args) (first := s) (o := none) (s := s) (idx := []) (t := .string RX13 129) (cls := "java/lang/String") (hs _ nf_t.2.2.1)
    refine ⟨a, vk_R.of (A := args) (hts _ nf_t4) q1⟩
  · obtain ⟨a, c, cA, kA, q1, -⟩ := Cond.exactly_spec (args := args) (first := s) (o := none) (s := s) (idx := []) (t := .string RX13 149) (cls := "java/lang/String") (hs _ nf_t.2.2.2.1)
    refine ⟨a, vk_R.of (A := args) (hts _ nf_t5) q1⟩
theorem lw_tr {l : Launch} (h : l.flags = flags0) : l.stackTraces = false := by
  unfold Launch.stackTraces
  rw [h]
  decide +kernel
theorem whole_start {p : Program} {e : Env} {s : State} {m : MethodId} {below : List Frame} {meth : Method} {c : Code} (l : Launch) (hl0 : l.stackTraces = false) {b L : Nat} {xs : Nat → Int32} (hL : L ≤ 3072) (C0 : lw_At p s m meth c b L xs) : W p l e room_1 s m #[Value.ref b] below meth c s.heap [] 0 0 (lw_Z below #[Value.ref b] s) (entryFrame m ([Value.ref b] : List Value).toArray 7) :=
  law_start l hL C0 (fun z aR oa C => lc_look hl0 hL C (ground_lkS C0.2.2.2.2.2.1 C0.2.2.2.2.2.2.2.2.2))
