/-! ===== the law's loop ===== -/
def lo5 (z : Mz) (aR : Int → Nat) (oa b : Nat) (i : Int) : List (Nat × Value) := [(4, Value.int (Int32.ofInt i)), (3, Value.ref oa), (2, Value.ref (aR 0)), (1, Value.ref (z.2.2.1 0)), (0, Value.ref b)]
theorem lok5 {z : Mz} {aR : Int → Nat} {oa b : Nat} {i : Int} : lok z aR oa b i (lo5 z aR oa b i) := by
  unfold lok lo5
  simp
theorem lok_has {z : Mz} {aR : Int → Nat} {oa b : Nat} {i : Int} {lo : List (Nat × Value)} {ls : Array Slot} (h : lok z aR oa b i lo) (hv : lv_has ls 7 lo) : lv_has ls 7 (lo5 z aR oa b i) := by
  refine ⟨hv.1, hv.2.1, fun q hq => hv.2.2 q ?_⟩
  unfold lo5 at hq
  rcases List.mem_cons.mp hq with y | hq
  · rw [y]; exact h.1
  rcases List.mem_cons.mp hq with y | hq
  · rw [y]; exact h.2.1
  rcases List.mem_cons.mp hq with y | hq
  · rw [y]; exact h.2.2.1
  rcases List.mem_cons.mp hq with y | hq
  · rw [y]; exact h.2.2.2.1
  rcases List.mem_cons.mp hq with y | hq
  · rw [y]; exact h.2.2.2.2
  cases hq
/-- what the case of look does -/
def LKc (z : Mz) (aR : Int → Nat) (oa b L : Nat) (p : Program) (l : Launch) (e : Env) (s : State) (m : MethodId) (below : List Frame) (meth : Method) (c : Code) (Q : State → Prop) : Prop :=
  ∀ (i : Int) (q r : Mh) (ov : Int) (cells slots : Nat), 0 ≤ i → i + 6 ≤ L → cells + 1 ≤ 601024 → slots + 6 ≤ 7293033 → Rel q r →
    (∀ (q' r' : Mh) (ov' : Int) (lo : List (Nat × Value)), lok z aR oa b i lo → Rel q' r' → lG z aR oa b p l e s m below meth c Q (cells + 1) (slots + 6) 1503 lo [] q' r' ov') → lG z aR oa b p l e s m below meth c Q cells slots 352 (lo5 z aR oa b i) [] q r ov
section LLP
variable {z : Mz} {aR : Int → Nat} {oa b L : Nat} {xs : Nat → Int32} {p : Program} {l : Launch} {e : Env} {s : State} {m : MethodId} {below : List Frame} {meth : Method} {c : Code}
theorem law_end (C : lC z aR oa b L xs p s m c) (hret : meth.sig.returnType = ret) (hlocks : meth.locks = false) {lo : List (Nat × Value)} {q r : Mh} {ov : Int} {cells slots : Nat} (hcs : cells ≤ 601024) (hss : slots ≤ 7293033) : lG z aR oa b p l e s m below meth c (lw_Z below #[Value.ref b] s) cells slots 1509 lo [] q r ov := by
  intro H locs ls h1 h2 h3 h4 h5 h6 h7 h8 h9 hv
  refine lv_iconst (v := 1) C.1 C.2.1 dL_law_1509 (by decide) ?_
  refine va_forget h9.2.2 ?_
  refine W.widen (k := 601024) (n := 7293033) hcs hss ?_
  exact lw_ret C.1 C.2.1 hret hlocks dL_law_1510
theorem law_tail (C : lC z aR oa b L xs p s m c) {Q : State → Prop} {i : Int} {lo : List (Nat × Value)} {q r : Mh} {ov : Int} {cells slots : Nat} (hlo : lok z aR oa b i lo) (k : lG z aR oa b p l e s m below meth c Q cells slots 23 (lo5 z aR oa b (i + 6)) [] q r ov) : lG z aR oa b p l e s m below meth c Q cells slots 1503 lo [] q r ov := by
  intro H locs ls h1 h2 h3 h4 h5 h6 h7 h8 h9 hv
  refine lv_iinc (k := 0) (lv := lo5 z aR oa b i) (lv' := lo5 z aR oa b (i + 6)) C.1 C.2.1 dL_law_1503 (lok_has hlo hv) rfl (Int32.ofInt_add _ _).symm (by decide) rfl (fun ls' hv' => ?_)
  refine lv_goto C.1 C.2.1 dL_law_1506 (tgt := 23) rfl ?_
  exact k H locs ls' h1 h2 h3 h4 h5 h6 h7 h8 h9 hv'
theorem lG_widen {Q : State → Prop} {lo : List (Nat × Value)} {st : List Value} {q r : Mh} {ov : Int} {cells slots k n pc : Nat} (a1 : cells ≤ k) (a2 : slots ≤ n) (kk : lG z aR oa b p l e s m below meth c Q k n pc lo st q r ov) : lG z aR oa b p l e s m below meth c Q cells slots pc lo st q r ov := by
  intro H locs ls h1 h2 h3 h4 h5 h6 h7 h8 h9 hv
  exact W.widen a1 a2 (kk H locs ls h1 h2 h3 h4 h5 h6 h7 h8 h9 hv)
theorem law_loop (C : lC z aR oa b L xs p s m c) (hret : meth.sig.returnType = ret) (hlocks : meth.locks = false) (hL : L ≤ 3072) (LK : LKc z aR oa b L p l e s m below meth c (lw_Z below #[Value.ref b] s)) : ∀ (n : Nat) (i : Int) (q r : Mh) (ov : Int) (cells slots : Nat), 0 ≤ i → i ≤ 3072 → (L : Int) < i + 6 * n + 6 → cells + n ≤ 601024 → slots + 6 * n ≤ 7293033 → Rel q r → lG z aR oa b p l e s m below meth c (lw_Z below #[Value.ref b] s) cells slots 23 (lo5 z aR oa b i) [] q r ov := by
  intro n
  induction n with
  | zero =>
    intro i q r ov cells slots i0 i1 hf hc hs h
    intro H locs ls h1 h2 h3 h4 h5 h6 h7 h8 h9 hv
    refine lv_iload C.1 C.2.1 dL_law_23 (hv.2.2 _ lok5.1) ?_
    refine lv_aload_n C.1 C.2.1 dL_law_25 rfl (hv.2.2 _ lok5.2.2.2.2) ?_
    refine va_slen C.1 C.2.1 C.2.2.2.2.2.2.2.2.2.2.1 C.2.2.2.2.2.2.2.2.2.2.2.1 (Nat.not_le.mpr C.2.2.2.2.2.2.2.2.2.2.2.1) h9 dL_law_26 ?_
    refine lv_bipush (v := Int32.ofInt 6) C.1 C.2.1 dL_law_27 (by decide) ?_
    refine lv_isub C.1 C.2.1 dL_law_29 ?_
    have eL : Int32.ofNat L - Int32.ofInt 6 = Int32.ofInt ((L : Int) - 6) := by rw [Int32.ofInt_sub]; rfl
    rw [eL]
    refine lv_icmp_gt C.1 C.2.1 dL_law_30 (tgt := 1509) rfl (fun _ => law_end C hret hlocks (by omega) (by omega) H locs ls h1 h2 h3 h4 h5 h6 h7 h8 h9 hv) (fun y => absurd ?_ y)
    rw [i32_lt ⟨by omega, by omega⟩ ⟨by omega, by omega⟩]; omega
  | succ n ih =>
    intro i q r ov cells slots i0 i1 hf hc hs h
    have nx : ∀ (q' r' : Mh) (ov' : Int) (lo : List (Nat × Value)), i + 6 ≤ L → lok z aR oa b i lo → Rel q' r' → lG z aR oa b p l e s m below meth c (lw_Z below #[Value.ref b] s) (cells + 1) (slots + 6) 1503 lo [] q' r' ov' := fun q' r' ov' lo y hlo hR => law_tail C hlo (ih (i + 6) q' r' ov' (cells + 1) (slots + 6) (by omega) (by omega) (by omega) (by omega) (by omega) hR)
    have kk : i + 6 ≤ L → ∀ (q' r' : Mh), Rel q' r' → lG z aR oa b p l e s m below meth c (lw_Z below #[Value.ref b] s) cells slots 1503 (lo5 z aR oa b i) [] q' r' ov := fun y q' r' hR => lG_widen (Nat.le_succ _) (Nat.le_add_right _ _) (nx q' r' ov _ y lok5 hR)
    intro H locs ls h1 h2 h3 h4 h5 h6 h7 h8 h9 hv
    refine lv_iload C.1 C.2.1 dL_law_23 (hv.2.2 _ lok5.1) ?_
    refine lv_aload_n C.1 C.2.1 dL_law_25 rfl (hv.2.2 _ lok5.2.2.2.2) ?_
    refine va_slen C.1 C.2.1 C.2.2.2.2.2.2.2.2.2.2.1 C.2.2.2.2.2.2.2.2.2.2.2.1 (Nat.not_le.mpr C.2.2.2.2.2.2.2.2.2.2.2.1) h9 dL_law_26 ?_
    refine lv_bipush (v := Int32.ofInt 6) C.1 C.2.1 dL_law_27 (by decide) ?_
    refine lv_isub C.1 C.2.1 dL_law_29 ?_
    have eL : Int32.ofNat L - Int32.ofInt 6 = Int32.ofInt ((L : Int) - 6) := by rw [Int32.ofInt_sub]; rfl
    rw [eL]
    refine lv_icmp_gt C.1 C.2.1 dL_law_30 (tgt := 1509) rfl (fun _ => law_end C hret hlocks (by omega) (by omega) H locs ls h1 h2 h3 h4 h5 h6 h7 h8 h9 hv) (fun y => ?_)
    have hi : i + 6 ≤ L := by
      rw [i32_lt ⟨by omega, by omega⟩ ⟨by omega, by omega⟩] at y; omega
    refine lv_aload_n C.1 C.2.1 dL_law_33 rfl (hv.2.2 _ lok5.2.2.2.2) ?_
    refine lv_iload C.1 C.2.1 dL_law_34 (hv.2.2 _ lok5.1) ?_
    have hm := mix (i := i) (n := L) i0 (by omega) ⟨by omega, by omega⟩
    refine va_sld C.1 C.2.1 C.2.2.2.2.2.2.2.2.2.2.1 C.2.2.2.2.2.2.2.2.2.2.2.1 (Nat.not_le.mpr C.2.2.2.2.2.2.2.2.2.2.2.1) h9 hm.1 dL_law_36 ?_
    refine lv_bipush (v := Int32.ofInt 63) C.1 C.2.1 dL_law_37 (by decide) ?_
    refine lv_iand C.1 C.2.1 dL_law_39 ?_
    generalize (xs (Int32.ofInt i).toNatClampNeg &&& Int32.ofInt 63) = x
    by_cases o : x.toInt < 0 ∨ 33 < x.toInt
    · exact lv_tableOut C.1 C.2.1 dL_law_40 o (tgt := 1503) rfl (kk hi q r h H locs ls h1 h2 h3 h4 h5 h6 h7 h8 h9 hv)
    · have hx : x.toInt = 0 ∨ x.toInt = 1 ∨ x.toInt = 2 ∨ x.toInt = 3 ∨ x.toInt = 4 ∨ x.toInt = 5 ∨ x.toInt = 6 ∨ x.toInt = 7 ∨ x.toInt = 8 ∨ x.toInt = 9 ∨ x.toInt = 10 ∨ x.toInt = 11 ∨ x.toInt = 12 ∨ x.toInt = 13 ∨ x.toInt = 14 ∨ x.toInt = 15 ∨ x.toInt = 16 ∨ x.toInt = 17 ∨ x.toInt = 18 ∨ x.toInt = 19 ∨ x.toInt = 20 ∨ x.toInt = 21 ∨ x.toInt = 22 ∨ x.toInt = 23 ∨ x.toInt = 24 ∨ x.toInt = 25 ∨ x.toInt = 26 ∨ x.toInt = 27 ∨ x.toInt = 28 ∨ x.toInt = 29 ∨ x.toInt = 30 ∨ x.toInt = 31 ∨ x.toInt = 32 ∨ x.toInt = 33 := by omega
      have t1 : ¬ x.toInt < 0 := fun y => o (Or.inl y)
      have t2 : ¬ 33 < x.toInt := fun y => o (Or.inr y)
      clear o
      rcases hx with e1 | e1 | e1 | e1 | e1 | e1 | e1 | e1 | e1 | e1 | e1 | e1 | e1 | e1 | e1 | e1 | e1 | e1 | e1 | e1 | e1 | e1 | e1 | e1 | e1 | e1 | e1 | e1 | e1 | e1 | e1 | e1 | e1 | e1
      · exact lv_tableIn (off := 152) (tgt := 192) C.1 C.2.1 dL_law_40 t1 t2 (by rw [e1]; rfl) rfl ((lc_feed C lok5 i0 hi hL (by omega) (by omega) h (kk hi)) H locs ls h1 h2 h3 h4 h5 h6 h7 h8 h9 hv)
      · exact lv_tableIn (off := 225) (tgt := 265) C.1 C.2.1 dL_law_40 t1 t2 (by rw [e1]; rfl) rfl ((lc_text C lok5 i0 hi hL (by omega) (by omega) h (kk hi)) H locs ls h1 h2 h3 h4 h5 h6 h7 h8 h9 hv)
      · exact lv_tableIn (off := 250) (tgt := 290) C.1 C.2.1 dL_law_40 t1 t2 (by rw [e1]; rfl) rfl ((lc_fault C lok5 i0 hi hL (by omega) (by omega) h (kk hi)) H locs ls h1 h2 h3 h4 h5 h6 h7 h8 h9 hv)
      · exact lv_tableIn (off := 275) (tgt := 315) C.1 C.2.1 dL_law_40 t1 t2 (by rw [e1]; rfl) rfl ((lc_named C lok5 i0 hi hL (by omega) (by omega) h (kk hi)) H locs ls h1 h2 h3 h4 h5 h6 h7 h8 h9 hv)
      · exact lv_tableIn (off := 312) (tgt := 352) C.1 C.2.1 dL_law_40 t1 t2 (by rw [e1]; rfl) rfl ((LK i q r ov cells slots i0 hi (by omega) (by omega) h (fun q' r' ov' lo hlo hR => nx q' r' ov' lo hi hlo hR)) H locs ls h1 h2 h3 h4 h5 h6 h7 h8 h9 hv)
      · exact lv_tableIn (off := 380) (tgt := 420) C.1 C.2.1 dL_law_40 t1 t2 (by rw [e1]; rfl) rfl ((lc_cell C lok5 i0 hi hL (by omega) (by omega) h (kk hi)) H locs ls h1 h2 h3 h4 h5 h6 h7 h8 h9 hv)
      · exact lv_tableIn (off := 417) (tgt := 457) C.1 C.2.1 dL_law_40 t1 t2 (by rw [e1]; rfl) rfl ((lc_drop C lok5 i0 hi hL (by omega) (by omega) h (kk hi)) H locs ls h1 h2 h3 h4 h5 h6 h7 h8 h9 hv)
      · exact lv_tableIn (off := 454) (tgt := 494) C.1 C.2.1 dL_law_40 t1 t2 (by rw [e1]; rfl) rfl ((lc_far C lok5 i0 hi hL (by omega) (by omega) h (kk hi)) H locs ls h1 h2 h3 h4 h5 h6 h7 h8 h9 hv)
      · exact lv_tableIn (off := 491) (tgt := 531) C.1 C.2.1 dL_law_40 t1 t2 (by rw [e1]; rfl) rfl ((lc_weak C lok5 i0 hi hL (by omega) (by omega) h (kk hi)) H locs ls h1 h2 h3 h4 h5 h6 h7 h8 h9 hv)
      · exact lv_tableIn (off := 528) (tgt := 568) C.1 C.2.1 dL_law_40 t1 t2 (by rw [e1]; rfl) rfl ((lc_rise C lok5 i0 hi hL (by omega) (by omega) h (kk hi)) H locs ls h1 h2 h3 h4 h5 h6 h7 h8 h9 hv)
      · exact lv_tableIn (off := 565) (tgt := 605) C.1 C.2.1 dL_law_40 t1 t2 (by rw [e1]; rfl) rfl ((lc_shows C lok5 i0 hi hL (by omega) (by omega) h (kk hi)) H locs ls h1 h2 h3 h4 h5 h6 h7 h8 h9 hv)
      · exact lv_tableIn (off := 602) (tgt := 642) C.1 C.2.1 dL_law_40 t1 t2 (by rw [e1]; rfl) rfl ((lc_most C lok5 i0 hi hL (by omega) (by omega) h (kk hi)) H locs ls h1 h2 h3 h4 h5 h6 h7 h8 h9 hv)
      · exact lv_tableIn (off := 639) (tgt := 679) C.1 C.2.1 dL_law_40 t1 t2 (by rw [e1]; rfl) rfl ((lc_law C lok5 i0 hi hL (by omega) (by omega) h (kk hi)) H locs ls h1 h2 h3 h4 h5 h6 h7 h8 h9 hv)
      · exact lv_tableIn (off := 677) (tgt := 717) C.1 C.2.1 dL_law_40 t1 t2 (by rw [e1]; rfl) rfl ((lc_where C lok5 i0 hi hL (by omega) (by omega) h (kk hi)) H locs ls h1 h2 h3 h4 h5 h6 h7 h8 h9 hv)
      · exact lv_tableIn (off := 714) (tgt := 754) C.1 C.2.1 dL_law_40 t1 t2 (by rw [e1]; rfl) rfl ((lc_reaches C lok5 i0 hi hL (by omega) (by omega) h (kk hi)) H locs ls h1 h2 h3 h4 h5 h6 h7 h8 h9 hv)
      · exact lv_tableIn (off := 751) (tgt := 791) C.1 C.2.1 dL_law_40 t1 t2 (by rw [e1]; rfl) rfl ((lc_first C lok5 i0 hi hL (by omega) (by omega) h (kk hi)) H locs ls h1 h2 h3 h4 h5 h6 h7 h8 h9 hv)
      · exact lv_tableIn (off := 776) (tgt := 816) C.1 C.2.1 dL_law_40 t1 t2 (by rw [e1]; rfl) rfl ((lc_lie C lok5 i0 hi hL (by omega) (by omega) h (kk hi)) H locs ls h1 h2 h3 h4 h5 h6 h7 h8 h9 hv)
      · exact lv_tableIn (off := 849) (tgt := 889) C.1 C.2.1 dL_law_40 t1 t2 (by rw [e1]; rfl) rfl ((lc_fall C lok5 i0 hi hL (by omega) (by omega) h (kk hi)) H locs ls h1 h2 h3 h4 h5 h6 h7 h8 h9 hv)
      · exact lv_tableIn (off := 898) (tgt := 938) C.1 C.2.1 dL_law_40 t1 t2 (by rw [e1]; rfl) rfl ((lc_cut C lok5 i0 hi hL (by omega) (by omega) h (kk hi)) H locs ls h1 h2 h3 h4 h5 h6 h7 h8 h9 hv)
      · exact lv_tableIn (off := 923) (tgt := 963) C.1 C.2.1 dL_law_40 t1 t2 (by rw [e1]; rfl) rfl ((lc_undo C lok5 i0 hi hL (by omega) (by omega) h (kk hi)) H locs ls h1 h2 h3 h4 h5 h6 h7 h8 h9 hv)
      · exact lv_tableIn (off := 936) (tgt := 976) C.1 C.2.1 dL_law_40 t1 t2 (by rw [e1]; rfl) rfl ((lc_note C lok5 i0 hi hL (by omega) (by omega) h (kk hi)) H locs ls h1 h2 h3 h4 h5 h6 h7 h8 h9 hv)
      · exact lv_tableIn (off := 985) (tgt := 1025) C.1 C.2.1 dL_law_40 t1 t2 (by rw [e1]; rfl) rfl ((lc_strike C lok5 i0 hi hL (by omega) (by omega) h (kk hi)) H locs ls h1 h2 h3 h4 h5 h6 h7 h8 h9 hv)
      · exact lv_tableIn (off := 1010) (tgt := 1050) C.1 C.2.1 dL_law_40 t1 t2 (by rw [e1]; rfl) rfl ((lc_known C lok5 i0 hi hL (by omega) (by omega) h (kk hi)) H locs ls h1 h2 h3 h4 h5 h6 h7 h8 h9 hv)
      · exact lv_tableIn (off := 1035) (tgt := 1075) C.1 C.2.1 dL_law_40 t1 t2 (by rw [e1]; rfl) rfl ((lc_tales C lok5 i0 hi hL (by omega) (by omega) h (kk hi)) H locs ls h1 h2 h3 h4 h5 h6 h7 h8 h9 hv)
      · exact lv_tableIn (off := 1048) (tgt := 1088) C.1 C.2.1 dL_law_40 t1 t2 (by rw [e1]; rfl) rfl ((lc_tale C lok5 i0 hi hL (by omega) (by omega) h (kk hi)) H locs ls h1 h2 h3 h4 h5 h6 h7 h8 h9 hv)
      · exact lv_tableIn (off := 1085) (tgt := 1125) C.1 C.2.1 dL_law_40 t1 t2 (by rw [e1]; rfl) rfl ((lc_likeliest C lok5 i0 hi hL (by omega) (by omega) h (kk hi)) H locs ls h1 h2 h3 h4 h5 h6 h7 h8 h9 hv)
      · exact lv_tableIn (off := 1110) (tgt := 1150) C.1 C.2.1 dL_law_40 t1 t2 (by rw [e1]; rfl) rfl ((lc_fits C lok5 i0 hi hL (by omega) (by omega) h (kk hi)) H locs ls h1 h2 h3 h4 h5 h6 h7 h8 h9 hv)
      · exact lv_tableIn (off := 1123) (tgt := 1163) C.1 C.2.1 dL_law_40 t1 t2 (by rw [e1]; rfl) rfl ((lc_apart C lok5 i0 hi hL (by omega) (by omega) h (kk hi)) H locs ls h1 h2 h3 h4 h5 h6 h7 h8 h9 hv)
      · exact lv_tableIn (off := 1204) (tgt := 1244) C.1 C.2.1 dL_law_40 t1 t2 (by rw [e1]; rfl) rfl ((lc_looks C lok5 i0 hi hL (by omega) (by omega) h (kk hi)) H locs ls h1 h2 h3 h4 h5 h6 h7 h8 h9 hv)
      · exact lv_tableIn (off := 1265) (tgt := 1305) C.1 C.2.1 dL_law_40 t1 t2 (by rw [e1]; rfl) rfl ((lc_still C lok5 i0 hi hL (by omega) (by omega) h (kk hi)) H locs ls h1 h2 h3 h4 h5 h6 h7 h8 h9 hv)
      · exact lv_tableIn (off := 1339) (tgt := 1379) C.1 C.2.1 dL_law_40 t1 t2 (by rw [e1]; rfl) rfl ((lc_chance C lok5 i0 hi hL (by omega) (by omega) h (kk hi)) H locs ls h1 h2 h3 h4 h5 h6 h7 h8 h9 hv)
      · exact lv_tableIn (off := 1412) (tgt := 1452) C.1 C.2.1 dL_law_40 t1 t2 (by rw [e1]; rfl) rfl ((lc_keep C lok5 i0 hi hL (by omega) (by omega) h (kk hi)) H locs ls h1 h2 h3 h4 h5 h6 h7 h8 h9 hv)
      · exact lv_tableIn (off := 1425) (tgt := 1465) C.1 C.2.1 dL_law_40 t1 t2 (by rw [e1]; rfl) rfl ((lc_back C lok5 i0 hi hL (by omega) (by omega) h (kk hi)) H locs ls h1 h2 h3 h4 h5 h6 h7 h8 h9 hv)
      · exact lv_tableIn (off := 1438) (tgt := 1478) C.1 C.2.1 dL_law_40 t1 t2 (by rw [e1]; rfl) rfl ((lc_count C lok5 i0 hi hL (by omega) (by omega) h (kk hi)) H locs ls h1 h2 h3 h4 h5 h6 h7 h8 h9 hv)
end LLP
