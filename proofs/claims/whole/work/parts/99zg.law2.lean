/-! ===== rows of the law's own walk ===== -/
def lok (z : Mz) (aR : Int → Nat) (oa b : Nat) (i : Int) (lo : List (Nat × Value)) : Prop := (4, Value.int (Int32.ofInt i)) ∈ lo ∧ (3, Value.ref oa) ∈ lo ∧ (2, Value.ref (aR 0)) ∈ lo ∧ (1, Value.ref (z.2.2.1 0)) ∈ lo ∧ (0, Value.ref b) ∈ lo
section LR
variable {z : Mz} {aR : Int → Nat} {oa b L : Nat} {xs : Nat → Int32} {p : Program} {l : Launch} {e : Env} {s : State} {m : MethodId} {below : List Frame} {meth : Method} {c : Code} {Q : State → Prop} {cells slots pc : Nat} {lo : List (Nat × Value)} {st : List Value} {q r : Mh} {ov : Int} {i : Int}
theorem l_x (C : lC z aR oa b L xs p s m c) (hlo : lok z aR oa b i lo) (d : decode cL_law pc = .ok (.aload_n 1, 1)) (k : lG z aR oa b p l e s m below meth c Q cells slots (pc + 1) lo (.ref (z.2.2.1 0) :: st) q r ov) : lG z aR oa b p l e s m below meth c Q cells slots pc lo st q r ov := by
  intro H locs ls h1 h2 h3 h4 h5 h6 h7 h8 h9 hv
  exact lv_aload_n C.1 C.2.1 d rfl (hv.2.2 _ hlo.2.2.2.1) (k H locs ls h1 h2 h3 h4 h5 h6 h7 h8 h9 hv)
theorem l_m (C : lC z aR oa b L xs p s m c) (hlo : lok z aR oa b i lo) (d : decode cL_law pc = .ok (.aload_n 2, 1)) (k : lG z aR oa b p l e s m below meth c Q cells slots (pc + 1) lo (.ref (aR 0) :: st) q r ov) : lG z aR oa b p l e s m below meth c Q cells slots pc lo st q r ov := by
  intro H locs ls h1 h2 h3 h4 h5 h6 h7 h8 h9 hv
  exact lv_aload_n C.1 C.2.1 d rfl (hv.2.2 _ hlo.2.2.1) (k H locs ls h1 h2 h3 h4 h5 h6 h7 h8 h9 hv)
theorem l_o (C : lC z aR oa b L xs p s m c) (hlo : lok z aR oa b i lo) (d : decode cL_law pc = .ok (.aload_n 3, 1)) (k : lG z aR oa b p l e s m below meth c Q cells slots (pc + 1) lo (.ref oa :: st) q r ov) : lG z aR oa b p l e s m below meth c Q cells slots pc lo st q r ov := by
  intro H locs ls h1 h2 h3 h4 h5 h6 h7 h8 h9 hv
  exact lv_aload_n C.1 C.2.1 d rfl (hv.2.2 _ hlo.2.1) (k H locs ls h1 h2 h3 h4 h5 h6 h7 h8 h9 hv)
/-- one int of the script -/
def sx (xs : Nat → Int32) (i k : Int) : Int := (xs (i + k).toNat).toInt
theorem sx_r {xs : Nat → Int32} {i k : Int} : r32 (sx xs i k) := i32_r _
theorem l_arg (C : lC z aR oa b L xs p s m c) (hlo : lok z aR oa b i lo) {k : Int} {pc1 pc2 pc3 pc4 pc5 : Nat} (i0 : 0 ≤ i) (k0 : 0 ≤ k) (hk : i + k < L) (hL : L ≤ 3072) (d0 : decode cL_law pc = .ok (.aload_n 0, 1)) (d1 : decode cL_law pc1 = .ok (.iload 4, 2)) (d2 : decode cL_law pc2 = .ok (.iconst k, 1)) (d3 : decode cL_law pc3 = .ok (.iadd, 1)) (d4 : decode cL_law pc4 = .ok (.iaload, 1)) (q1 : pc + 1 = pc1) (q2 : pc1 + 2 = pc2) (q3 : pc2 + 1 = pc3) (q4 : pc3 + 1 = pc4) (q5 : pc4 + 1 = pc5)
    (kk : lG z aR oa b p l e s m below meth c Q cells slots pc5 lo (.int (Int32.ofInt (sx xs i k)) :: st) q r ov) : lG z aR oa b p l e s m below meth c Q cells slots pc lo st q r ov := by
  intro H locs ls h1 h2 h3 h4 h5 h6 h7 h8 h9 hv
  have kk := kk H locs ls h1 h2 h3 h4 h5 h6 h7 h8 h9 hv
  obtain ⟨hx, hb, hml, hown, hts, hK, hI, hIR, hN, hT, hX, hbl, _⟩ := C
  refine lv_aload_n hx hb d0 rfl (hv.2.2 _ hlo.2.2.2.2) ?_
  rw [q1]
  refine lv_iload hx hb d1 (hv.2.2 _ hlo.1) ?_
  rw [q2]
  refine lv_iconst (v := Int32.ofInt k) hx hb d2 rfl ?_
  rw [q3]
  refine lv_iadd hx hb d3 ?_
  rw [q4, ← Int32.ofInt_add]
  have hm := mix (i := i + k) (n := L) (by omega) hk ⟨by omega, by omega⟩
  refine va_sld hx hb hX hbl (Nat.not_le.mpr hbl) h9 hm.1 d4 ?_
  rw [q5]
  have e1 : (Int32.ofInt (i + k)).toNatClampNeg = (i + k).toNat := by have := hm.2; omega
  rw [e1]
  unfold sx at kk
  rw [Int32.ofInt_toInt] at kk
  exact kk
theorem l_callC (C : lC z aR oa b L xs p s m c) {y : MethodName} {bytes : ByteArray} {maxL fr lc index n : Nat} {ret : Option FieldType} {av : List Mv} {K : Option Mv → Mh → Prop} {st0 : List Value} (hM : mCal (XC z) l y bytes maxL ret fr lc ((2, 0) :: av) q K)
    (hml : Cond.methodLink RL index y ∈ mtb) (him : Cond.instanceMethod y ∈ mtb) (hse : Cond.selects RX13 y y ∈ mtb) (hin : Cond.initialized RX13 ∈ mtb) (hco : Cond.code y bytes maxL ret ∈ mtb) (hd : y.cls = RX13 ∧ y.cls ≠ "java/lang/invoke/MethodHandle" ∧ y.cls ≠ "java/lang/invoke/VarHandle" ∧ (parseMethodDescriptor y.desc).map (fun d => d.parameters.length) = some n)
    (hR : Nat.ble (fr + 1) 10 = true) (hR2 : Nat.ble (8 + (maxL + 11) + lc) 440 = true) (hlen : av.length = n) (hav : ∀ v ∈ av, mok v) (hst : st0 = (av.map (mcv (XC z))).reverse ++ .ref (z.2.2.1 0) :: st) (hrm : (st.map fun v => v.category).sum ≤ 8) (hdg : decode cL_law pc = .ok (.invokevirtual index, 3)) (hcs : cells ≤ 601024) (hss : slots ≤ 7293033)
    (k : ∀ (x : Option Mv) (q' : Mh), K x q' → (∀ v, x = some v → mok v) → lG z aR oa b p l e s m below meth c Q cells slots (pc + 3) lo ((x.map (mcv (XC z))).toList ++ st) q' r ov) : lG z aR oa b p l e s m below meth c Q cells slots pc lo st0 q r ov := by
  intro H locs ls h1 h2 h3 h4 h5 h6 h7 h8 h9 hv
  obtain ⟨hx, hb, hml2, hown, hts, hK, hI, hIR, hN, hT, hX, hbl, lw1, lw2, ap1, lw3, ap2, ap3⟩ := C
  rw [hst]
  refine l_run (X := XC z) hx hb hml2 hown hts hK hI hN hT lw1 hM hml him hse hin hco hd hR hR2 (ci := 11) (by decide) rfl rfl hlen hav hrm hdg hcs hss h1 h3 h9 hv.1 (fun x q' H1 locs1 hk hok hh hP hsz hkp hS => ?_)
  have nA : ∀ a : Nat, a < H.size → (∀ i : Nat, i < 142 → z.2.2.1 i ≠ a) → H1[a]? = H[a]? := fun a ha hn => hkp a ha (fun y => by
    rcases y with ⟨i, y1, y2⟩ | y
    · exact hn i y1 y2.symm
    · omega)
  refine k x q' hk hok H1 locs1 ls hh h2 hP (h4.kept (fun j w hw => ?_)) (h5.kept (fun j w hw => ?_)) (fun i hi => Nat.lt_of_lt_of_le (h6 i hi) hsz) (fun i hi => Nat.lt_of_lt_of_le (h7 i hi) hsz) (Nat.lt_of_lt_of_le h8 hsz) hS hv
  · obtain ⟨y1, y2⟩ := mW_in hw
    rw [y2]
    exact nA _ (h7 j y1) (fun i hi => ap1 i j hi y1)
  · have ew : w.1 = oa := by
      rcases j with _ | j
      · cases hw; rfl
      · cases hw
    rw [ew]
    exact nA _ h8 ap2
theorem l_callR (C : lC z aR oa b L xs p s m c) {y : MethodName} {bytes : ByteArray} {maxL fr lc index n : Nat} {ret : Option FieldType} {av : List Mv} {K : Option Mv → Mh → Prop} {st0 : List Value} (hM : mCal (XR (zRf z aR)) l y bytes maxL ret fr lc ((2, 0) :: av) r K)
    (hml : Cond.methodLink RL index y ∈ mtb) (him : Cond.instanceMethod y ∈ mtb) (hse : Cond.selects RX14 y y ∈ mtb) (hin : Cond.initialized RX14 ∈ mtb) (hco : Cond.code y bytes maxL ret ∈ mtb) (hd : y.cls = RX14 ∧ y.cls ≠ "java/lang/invoke/MethodHandle" ∧ y.cls ≠ "java/lang/invoke/VarHandle" ∧ (parseMethodDescriptor y.desc).map (fun d => d.parameters.length) = some n)
    (hR : Nat.ble (fr + 1) 10 = true) (hR2 : Nat.ble (8 + (maxL + 11) + lc) 440 = true) (hlen : av.length = n) (hav : ∀ v ∈ av, mok v) (hst : st0 = (av.map (mcv (XR (zRf z aR)))).reverse ++ .ref (aR 0) :: st) (hrm : (st.map fun v => v.category).sum ≤ 8) (hdg : decode cL_law pc = .ok (.invokevirtual index, 3)) (hcs : cells ≤ 601024) (hss : slots ≤ 7293033)
    (k : ∀ (x : Option Mv) (r' : Mh), K x r' → (∀ v, x = some v → mok v) → lG z aR oa b p l e s m below meth c Q cells slots (pc + 3) lo ((x.map (mcv (XR (zRf z aR)))).toList ++ st) q r' ov) : lG z aR oa b p l e s m below meth c Q cells slots pc lo st0 q r ov := by
  intro H locs ls h1 h2 h3 h4 h5 h6 h7 h8 h9 hv
  obtain ⟨hx, hb, hml2, hown, hts, hK, hI, hIR, hN, hT, hX, hbl, lw1, lw2, ap1, lw3, ap2, ap3⟩ := C
  rw [hst]
  refine l_run (X := XR (zRf z aR)) hx hb hml2 hown hts hK hIR hN hT lw2 hM hml him hse hin hco hd hR hR2 (ci := 12) (by decide) rfl rfl hlen hav hrm hdg hcs hss h2 h4 h9 hv.1 (fun x r' H1 locs1 hk hok hh hP hsz hkp hS => ?_)
  have nA : ∀ a : Nat, a < H.size → (∀ i : Nat, i < 41 → aR i ≠ a) → H1[a]? = H[a]? := fun a ha hn => hkp a ha (fun y => by
    rcases y with ⟨i, y1, y2⟩ | y
    · exact hn i y1 y2.symm
    · omega)
  refine k x r' hk hok H1 locs1 ls h1 hh (h3.kept (fun j w hw => ?_)) hP (h5.kept (fun j w hw => ?_)) (fun i hi => Nat.lt_of_lt_of_le (h6 i hi) hsz) (fun i hi => Nat.lt_of_lt_of_le (h7 i hi) hsz) (Nat.lt_of_lt_of_le h8 hsz) hS hv
  · obtain ⟨y1, y2⟩ := mW_in hw
    rw [y2]
    exact nA _ (h6 j y1) (fun i hi => (ap1 j i y1 hi).symm)
  · have ew : w.1 = oa := by
      rcases j with _ | j
      · cases hw; rfl
      · cases hw
    rw [ew]
    exact nA _ h8 ap3
theorem l_eqI (C : lC z aR oa b L xs p s m c) {x : Int32} {off : Int} {tgt : Nat} (hd : decode cL_law pc = .ok (.if_icmp .eq off, 3)) (ht : (pc : Int) + off = (tgt : Int)) (k : lG z aR oa b p l e s m below meth c Q cells slots tgt lo st q r ov) : lG z aR oa b p l e s m below meth c Q cells slots pc lo (.int x :: .int x :: st) q r ov := by
  intro H locs ls h1 h2 h3 h4 h5 h6 h7 h8 h9 hv
  exact lv_icmp_eq C.1 C.2.1 hd ht (fun _ => k H locs ls h1 h2 h3 h4 h5 h6 h7 h8 h9 hv) (fun y => absurd rfl y)
theorem l_eqL (C : lC z aR oa b L xs p s m c) {x : Int64} {off : Int} {tgt : Nat} (hd0 : decode cL_law pc = .ok (.lcmp, 1)) (hd : decode cL_law (pc + 1) = .ok (.ifCond .eq off, 3)) (ht : ((pc + 1 : Nat) : Int) + off = (tgt : Int)) (k : lG z aR oa b p l e s m below meth c Q cells slots tgt lo st q r ov) : lG z aR oa b p l e s m below meth c Q cells slots pc lo (.long x :: .long x :: st) q r ov := by
  intro H locs ls h1 h2 h3 h4 h5 h6 h7 h8 h9 hv
  refine W.lcmp (x := x) (y := x) C.1 C.2.1 hd0 ?_
  refine lv_if_eq C.1 C.2.1 hd ht (fun _ => k H locs ls h1 h2 h3 h4 h5 h6 h7 h8 h9 hv) (fun y => absurd ?_ y)
  unfold lg_cmp
  simp [Int64.lt_irrefl]
theorem l_goto (C : lC z aR oa b L xs p s m c) {off : Int} (tgt : Nat) (hd : decode cL_law pc = .ok (.goto off, 3)) (ht : (pc : Int) + off = (tgt : Int)) (k : lG z aR oa b p l e s m below meth c Q cells slots tgt lo st q r ov) : lG z aR oa b p l e s m below meth c Q cells slots pc lo st q r ov := by
  intro H locs ls h1 h2 h3 h4 h5 h6 h7 h8 h9 hv
  exact lv_goto C.1 C.2.1 hd ht (k H locs ls h1 h2 h3 h4 h5 h6 h7 h8 h9 hv)
end LR
