/-! ===== the enum Word, its row, the switch over it ===== -/
def wl (i : Int) : Int := (mWl.getD i.toNat 0).toInt
def wc (i : Int) : Int := (mWc.getD i.toNat 0).toInt
def wsm (i : Int) : Int := (mSm.getD i.toNat 0).toInt
theorem mcv_enum {X : Mx} {x : Int} (h : 0 ≤ x) : mcv X (3, x) = .ref (mxE X x.toNat) := by
  have : ¬ x < 0 := by omega
  simp [mcv, this]
section ME
variable {X : Mx} {p : Program} {l : Launch} {e : Env} {R : Room} {s : State} {m : MethodId} {args : Array Value} {below : List Frame} {meth : Method} {c : Code} {cc : ByteArray} {nL : Nat} {own : String} {Q : State → Prop} {pc : Nat} {lo : List (Nat × Mv)} {st : List Mv} {h : Mh}
theorem g_enum (C : mC X p l e R s m args below meth c cc nL own) {index : Nat} {q : String × String × String × List Int32} (hq : q ∈ mWF) (hlink : Cond.fieldLink own index q.1 q.2.1 q.2.2.1 ∈ mtb) (hd : decode cc pc = .ok (.getfield index, 3)) {x : Int} (h0 : 0 ≤ x) (h1 : x < 22) (k : mG X p l e R s m args below meth c nL Q (pc + 3) lo ((0, (q.2.2.2.getD x.toNat 0).toInt) :: st) h) : mG X p l e R s m args below meth c nL Q pc lo ((3, x) :: st) h := by
  intro H locs ls hs hl hh hP hS hv
  obtain ⟨hx, hb, hml2, hown, hts, hK, hI, hNs, hT, hlk⟩ := id C
  have k := k H locs ls (mok_cons (i32_r _) (mok_tl hs)) hl hh hP hS hv
  rw [List.map_cons, mcv_enum h0]
  rw [List.map_cons, show mcv X (0, (q.2.2.2.getD x.toNat 0).toInt) = .int (q.2.2.2.getD x.toNat 0) from by simp [mcv]] at k
  exact va_getE hx hb hT.1 (show x.toNat < mWn.length from by show x.toNat < 22; omega) hS hown hq (hts _ hlink) (fun _ h9 => h9) hd k
theorem g_enumN (C : mC X p l e R s m args below meth c cc nL own) {index : Nat} {q : String × String × String × List Int32} (hq : q ∈ mWF) {host : String} (hlink : Cond.fieldLinkNest own index q.1 q.2.1 q.2.2.1 host ∈ lw_tbl.filter mnest) (hd : decode cc pc = .ok (.getfield index, 3)) {x : Int} (h0 : 0 ≤ x) (h1 : x < 22) (k : mG X p l e R s m args below meth c nL Q (pc + 3) lo ((0, (q.2.2.2.getD x.toNat 0).toInt) :: st) h) : mG X p l e R s m args below meth c nL Q pc lo ((3, x) :: st) h := by
  intro H locs ls hs hl hh hP hS hv
  obtain ⟨hx, hb, hml2, hown, hts, hK, hI, hNs, hT, hlk⟩ := id C
  have k := k H locs ls (mok_cons (i32_r _) (mok_tl hs)) hl hh hP hS hv
  rw [List.map_cons, mcv_enum h0]
  rw [List.map_cons, show mcv X (0, (q.2.2.2.getD x.toNat 0).toInt) = .int (q.2.2.2.getD x.toNat 0) from by simp [mcv]] at k
  obtain ⟨cf, kc, fi, f, cell, g1, g2, g3, g4, g5, g6⟩ := ((hT.1.1 x.toNat (show x.toNat < mWn.length from by show x.toNat < 22; omega)).2.2 q hq).kept hS.2.1
  exact va_Wgetf hx hb hown ((hNs _ hlink).use rfl) g1 g2 g3 g4 (v := .int (q.2.2.2.getD x.toNat 0)) g5 rfl rfl hd k
theorem g_getsALL (C : mC X p l e R s m args below meth c cc nL own) {index : Nat} (hlink : Cond.fieldLink own index "PondReader$Word" "ALL" "[LPondReader$Word;" ∈ mtb) (hd : decode cc pc = .ok (.getstatic index, 3)) (k : mG X p l e R s m args below meth c nL Q (pc + 3) lo ((4, 0) :: st) h) : mG X p l e R s m args below meth c nL Q pc lo st h := by
  intro H locs ls hs hl hh hP hS hv
  obtain ⟨hx, hb, hml2, hown, hts, hK, hI, hNs, hT, hlk⟩ := id C
  exact va_gets hx hb hT.2.1 hS hown (hts _ hlink) (fun _ h9 => h9) hd (k H locs ls (mok_cons trivial hs) hl hh hP hS hv)
theorem g_getsSM (C : mC X p l e R s m args below meth c cc nL own) {index : Nat} (hlink : Cond.fieldLink own index "PondReader$1" "$SwitchMap$PondReader$Word" "[I" ∈ mtb) (hd : decode cc pc = .ok (.getstatic index, 3)) (k : mG X p l e R s m args below meth c nL Q (pc + 3) lo ((4, 1) :: st) h) : mG X p l e R s m args below meth c nL Q pc lo st h := by
  intro H locs ls hs hl hh hP hS hv
  obtain ⟨hx, hb, hml2, hown, hts, hK, hI, hNs, hT, hlk⟩ := id C
  exact va_gets hx hb hT.2.2.2.1 hS hown (hts _ hlink) (fun _ h9 => h9) hd (k H locs ls (mok_cons trivial hs) hl hh hP hS hv)
theorem g_getsW (C : mC X p l e R s m args below meth c cc nL own) {index : Nat} (i : Nat) (hi : i < 22) (hlink : Cond.fieldLink own index "PondReader$Word" (mWn.getD i "") "LPondReader$Word;" ∈ mtb) (hd : decode cc pc = .ok (.getstatic index, 3)) (k : mG X p l e R s m args below meth c nL Q (pc + 3) lo ((3, (i : Int)) :: st) h) : mG X p l e R s m args below meth c nL Q pc lo st h := by
  intro H locs ls hs hl hh hP hS hv
  obtain ⟨hx, hb, hml2, hown, hts, hK, hI, hNs, hT, hlk⟩ := id C
  have k := k H locs ls (mok_cons trivial hs) hl hh hP hS hv
  rw [List.map_cons, mcv_enum (by omega), show ((i : Int)).toNat = i from by omega] at k
  exact va_gets hx hb (hT.1.1 i hi).1 hS hown (hts _ hlink) (fun _ h9 => h9) hd k
theorem g_lenALL (C : mC X p l e R s m args below meth c cc nL own) (hd : decode cc pc = .ok (.arraylength, 1)) (k : mG X p l e R s m args below meth c nL Q (pc + 1) lo ((0, 22) :: st) h) : mG X p l e R s m args below meth c nL Q pc lo ((4, 0) :: st) h := by
  intro H locs ls hs hl hh hP hS hv
  obtain ⟨hx, hb, hml2, hown, hts, hK, hI, hNs, hT, hlk⟩ := id C
  exact va_tlen hx hb hT.2.2.1 hS (v := Int32.ofInt 22) rfl hd (k H locs ls (mok_cons (show r32 22 from ⟨by decide, by decide⟩) (mok_tl hs)) hl hh hP hS hv)
theorem g_ldALL (C : mC X p l e R s m args below meth c cc nL own) (hd : decode cc pc = .ok (.aaload, 1)) {i : Int} (h0 : 0 ≤ i) (h1 : i < 22) (k : mG X p l e R s m args below meth c nL Q (pc + 1) lo ((3, i) :: st) h) : mG X p l e R s m args below meth c nL Q pc lo ((0, i) :: (4, 0) :: st) h := by
  intro H locs ls hs hl hh hP hS hv
  obtain ⟨hx, hb, hml2, hown, hts, hK, hI, hNs, hT, hlk⟩ := id C
  obtain ⟨b1, b2⟩ := mix (n := 22) h0 h1 (mok_hd hs)
  have k := k H locs ls (mok_cons trivial (mok_tl (mok_tl hs))) hl hh hP hS hv
  rw [List.map_cons, mcv_enum h0] at k
  exact vb_tq hx hb hT.2.2.1 hS b1 (by rw [show (Int32.ofInt i).toNatClampNeg = i.toNat from by omega]) hd k
theorem g_ldSM (C : mC X p l e R s m args below meth c cc nL own) (hd : decode cc pc = .ok (.iaload, 1)) {i : Int} (h0 : 0 ≤ i) (h1 : i < 22) (k : mG X p l e R s m args below meth c nL Q (pc + 1) lo ((0, wsm i) :: st) h) : mG X p l e R s m args below meth c nL Q pc lo ((0, i) :: (4, 1) :: st) h := by
  intro H locs ls hs hl hh hP hS hv
  obtain ⟨hx, hb, hml2, hown, hts, hK, hI, hNs, hT, hlk⟩ := id C
  obtain ⟨b1, b2⟩ := mix (n := 22) h0 h1 (mok_hd hs)
  have k := k H locs ls (mok_cons (i32_r _) (mok_tl (mok_tl hs))) hl hh hP hS hv
  rw [List.map_cons, show mcv X (0, wsm i) = .int (mSm.getD i.toNat 0) from by simp [mcv, wsm]] at k
  exact va_ti hx hb hT.2.2.2.2 hS b1 (by rw [show (Int32.ofInt i).toNatClampNeg = i.toNat from by omega]) hd k
theorem g_callSNe (C : mC X p l e R s m args below meth c cc nL own) {y : MethodName} {bytes : ByteArray} {maxL fr lc index n : Nat} {ret : Option FieldType} {host : String} (av : List Mv) {K : Int → Mh → Prop} {st0 : List Mv} (hM : mCal X l y bytes maxL ret fr lc av h (mKe K))
    (hml : Cond.methodLinkNest own index y host ∈ lw_tbl.filter mnest) (him : Cond.static y ∈ mtb) (hin : Cond.initialized y.cls ∈ mtb) (hco : Cond.code y bytes maxL ret ∈ mtb) (hd : y.cls ≠ "java/lang/invoke/MethodHandle" ∧ y.cls ≠ "java/lang/invoke/VarHandle" ∧ (parseMethodDescriptor y.desc).map (fun d => d.parameters.length) = some n)
    (hR : Nat.ble (fr + 1) R.frames = true) (hR2 : Nat.ble (8 + (maxL + 11) + lc) R.locals = true) (hlen : av.length = n) (hst : st0 = av.reverse ++ st) (hrm : Nat.ble (mwords st) 8 = true) (hdg : decode cc pc = .ok (.invokestatic index, 3))
    (k : ∀ x h', K x h' → mG X p l e R s m args below meth c nL Q (pc + 3) lo ((3, x) :: st) h') : mG X p l e R s m args below meth c nL Q pc lo st0 h := by
  rw [hst]
  refine g_call (y := y) (K := mKe K) (fun H locs ls hav hh hP hS hv => ?_) (fun r h2 hq => by
    obtain ⟨x, rfl, hw⟩ := hq
    exact k x h2 hw)
  obtain ⟨hx, hb, hml2, hown, hts, hK, hI, hN, hT, hlk⟩ := id C
  have hpre := m_pre C hav hh hP hS
  refine va_runSN (As := av.map (mcv X)) ⟨hx, hb, hml2, hown, hts⟩ (hM H.size) ⟨va_cnB n hts (mgi hco mtb_good) rfl rfl rfl (hN _ hml) (hts _ hin) hd ⟨Nat.le_of_ble_eq_true hR, Nat.le_of_ble_eq_true hR2⟩, hts _ him, trivial⟩ ⟨m_blind, hpre⟩ rfl (by rw [List.length_map]; exact hlen) hv.1 ?_ (lv_room (by rw [mwords_cat]; exact Nat.le_of_ble_eq_true hrm)) hdg ⟨Nat.zero_le _, Nat.zero_le _⟩
  show ((av.reverse ++ st).map (mcv X)) = _
  simp
theorem g_callU (C : mC X p l e R s m args below meth c cc nL own) {x y : MethodName} {bytes : ByteArray} {maxL fr lc index : Nat} {ret : Option FieldType} {owner : String} {o : Int} {K : Int → Mh → Prop} (h0 : 0 ≤ o) (h1 : o < 22) (hM : mCal X l y bytes maxL ret fr lc [(3, o)] h (mKi K))
    (hml : Cond.methodLink own index x ∈ mtb) (hsm : Cond.sameMethod x.cls owner x.name x.desc ∈ mtb) (hse : Cond.selects "PondReader$Word" x y ∈ mtb) (him : Cond.instanceMethod y ∈ mtb) (hin : Cond.initialized y.cls ∈ mtb) (hco : Cond.code y bytes maxL ret ∈ mtb) (hyx : y = ⟨owner, x.name, x.desc⟩) (hd : owner ≠ "java/lang/invoke/MethodHandle" ∧ owner ≠ "java/lang/invoke/VarHandle" ∧ (parseMethodDescriptor x.desc).map (fun d => d.parameters.length) = some 0)
    (hR : Nat.ble (fr + 1) R.frames = true) (hR2 : Nat.ble (8 + (maxL + 11) + lc) R.locals = true) (hrm : Nat.ble (mwords st) 8 = true) (hdg : decode cc pc = .ok (.invokevirtual index, 3))
    (k : ∀ x h', K x h' → mG X p l e R s m args below meth c nL Q (pc + 3) lo ((0, x) :: st) h') : mG X p l e R s m args below meth c nL Q pc lo ((3, o) :: st) h := by
  refine g_call (av := [(3, o)]) (y := y) (K := mKi K) (fun H locs ls hav hh hP hS hv => ?_) (fun r h2 hq => by
    obtain ⟨x, rfl, hw⟩ := hq
    exact k x h2 hw)
  obtain ⟨hx, hb, hml2, hown, hts, hK, hI, hN, hT, hlk⟩ := id C
  have hpre := m_pre C hav hh hP hS
  have hrec := va_recvE hT.1 (show o.toNat < mWn.length from by show o.toNat < 22; omega) hS
  have er : mcv X (3, o) = .ref (mxE X o.toNat) := mcv_enum h0
  rw [List.map_cons, er] at hpre ⊢
  have hGd : GoodIn mtb (va_wsU own index "PondReader$Word" owner x y (Cond.code y bytes maxL ret :: mtb)) := mgi hml (mgi hsm (mgi hse (mgi him (mgi hin (mgi hco mtb_good)))))
  refine va_runU (b := mxE X o.toNat) (As := []) ⟨hx, hb, hml2, hown, hts⟩ (hM H.size) (va_cwU 0 hts hGd rfl rfl rfl hyx hd ⟨Nat.le_of_ble_eq_true hR, Nat.le_of_ble_eq_true hR2⟩) ⟨m_blind, hrec, hpre⟩ rfl rfl hv.1 ?_ (lv_room (by rw [mwords_cat]; exact Nat.le_of_ble_eq_true hrm)) hdg ⟨Nat.zero_le _, Nat.zero_le _⟩
  show ((([(3, o)] : List Mv).reverse ++ st).map (mcv X)) = _
  simp [er]
theorem g_wl (C : mC X p l e R s m args below meth c cc nL own) {index : Nat} (hlink : Cond.fieldLink own index "PondReader$Word" "letters" "I" ∈ mtb) (hd : decode cc pc = .ok (.getfield index, 3)) {x : Int} (h0 : 0 ≤ x) (h1 : x < 22) (k : mG X p l e R s m args below meth c nL Q (pc + 3) lo ((0, wl x) :: st) h) : mG X p l e R s m args below meth c nL Q pc lo ((3, x) :: st) h := g_enum C (q := ("PondReader$Word", "letters", "I", mWl)) (by simp [mWF]) hlink hd h0 h1 k
theorem g_wlN (C : mC X p l e R s m args below meth c cc nL own) {index : Nat} {host : String} (hlink : Cond.fieldLinkNest own index "PondReader$Word" "letters" "I" host ∈ lw_tbl.filter mnest) (hd : decode cc pc = .ok (.getfield index, 3)) {x : Int} (h0 : 0 ≤ x) (h1 : x < 22) (k : mG X p l e R s m args below meth c nL Q (pc + 3) lo ((0, wl x) :: st) h) : mG X p l e R s m args below meth c nL Q pc lo ((3, x) :: st) h := g_enumN C (q := ("PondReader$Word", "letters", "I", mWl)) (by simp [mWF]) hlink hd h0 h1 k
theorem g_wc (C : mC X p l e R s m args below meth c cc nL own) {index : Nat} (hlink : Cond.fieldLink own index "PondReader$Word" "code" "I" ∈ mtb) (hd : decode cc pc = .ok (.getfield index, 3)) {x : Int} (h0 : 0 ≤ x) (h1 : x < 22) (k : mG X p l e R s m args below meth c nL Q (pc + 3) lo ((0, wc x) :: st) h) : mG X p l e R s m args below meth c nL Q pc lo ((3, x) :: st) h := g_enum C (q := ("PondReader$Word", "code", "I", mWc)) (by simp [mWF]) hlink hd h0 h1 k
theorem g_wcN (C : mC X p l e R s m args below meth c cc nL own) {index : Nat} {host : String} (hlink : Cond.fieldLinkNest own index "PondReader$Word" "code" "I" host ∈ lw_tbl.filter mnest) (hd : decode cc pc = .ok (.getfield index, 3)) {x : Int} (h0 : 0 ≤ x) (h1 : x < 22) (k : mG X p l e R s m args below meth c nL Q (pc + 3) lo ((0, wc x) :: st) h) : mG X p l e R s m args below meth c nL Q pc lo ((3, x) :: st) h := g_enumN C (q := ("PondReader$Word", "code", "I", mWc)) (by simp [mWF]) hlink hd h0 h1 k
end ME
theorem dJx29ce0_ordinal_0 : decode cJx29ce0_ordinal_8abf5 0 = .ok (.aload_n 0, 1) := by decide +kernel
theorem dJx29ce0_ordinal_1 : decode cJx29ce0_ordinal_8abf5 1 = .ok (.getfield 7, 3) := by decide +kernel
theorem dJx29ce0_ordinal_4 : decode cJx29ce0_ordinal_8abf5 4 = .ok (.ireturn, 1) := by decide +kernel
theorem mWo_at : ∀ i : Nat, i < 22 → ((mWo.getD i 0).toInt) = i := by decide +kernel
theorem sim_ordinal {X : Mx} {l : Launch} {x : Int} {h : Mh} {K : Int → Mh → Prop} (h0 : 0 ≤ x) (h1 : x < 22) (hw : K x h) : mCal X l yJx29ce0_ordinal_8abf5 cJx29ce0_ordinal_8abf5 1 (some .int) 0 0 [(3, x)] h (mKi K) := by
  refine m_entry RJx29ce0 rfl (by decide) rfl (fun p e s m args below meth c C hr => ?_)
  refine g_aload_n C dJx29ce0_ordinal_0 rfl (by decide) rfl ?_
  refine g_enum C (q := ("java/lang/Enum", "ordinal", "I", mWo)) (by simp [mWF]) k_2305 dJx29ce0_ordinal_1 h0 h1 ?_
  rw [show ((mWo.getD x.toNat 0).toInt) = x from by rw [mWo_at _ (by omega)]; omega]
  exact g_iret C hr dJx29ce0_ordinal_4 ⟨_, rfl, hw⟩
section MO
variable {X : Mx} {p : Program} {l : Launch} {e : Env} {R : Room} {s : State} {m : MethodId} {args : Array Value} {below : List Frame} {meth : Method} {c : Code} {cc : ByteArray} {nL : Nat} {Q : State → Prop} {pc : Nat} {lo : List (Nat × Mv)} {st : List Mv} {h : Mh}
theorem g_ordinal (C : mC X p l e R s m args below meth c cc nL RX9) {o : Int} (h0 : 0 ≤ o) (h1 : o < 22) (hR : Nat.ble 1 R.frames = true) (hR2 : Nat.ble 20 R.locals = true) (hrm : Nat.ble (mwords st) 8 = true) (hdg : decode cc pc = .ok (.invokevirtual 103, 3)) (k : mG X p l e R s m args below meth c nL Q (pc + 3) lo ((0, o) :: st) h) : mG X p l e R s m args below meth c nL Q pc lo ((3, o) :: st) h :=
  g_callU C (x := ⟨"PondReader$Word", "ordinal", "()I"⟩) (y := yJx29ce0_ordinal_8abf5) (owner := "java/lang/Enum") (fr := 0) (lc := 0) (K := fun x h' => x = o ∧ h' = h) h0 h1 (sim_ordinal h0 h1 ⟨rfl, rfl⟩) k_780 k_781 k_783 k_784 k_148 k_785 rfl (by decide +kernel) hR hR2 hrm hdg (fun x h' hq => by
    obtain ⟨rfl, rfl⟩ := hq
    exact k)
end MO
