theorem k_158 : Cond.classLink RL 8 RX13 ∈ mtb := mk_s1 25 rfl rfl
theorem k_160 : Cond.methodLink RL 17 yX13_init ∈ mtb := mk_s1 27 rfl rfl
theorem k_161 : Cond.instanceMethod yX13_init ∈ mtb := mk_s1 28 rfl rfl
theorem k_162 : Cond.code yX13_init cX13_init 1 none ∈ mtb := mk_s1 29 rfl rfl
theorem k_1540 : Cond.classLink RL 18 RX14 ∈ mtb := mk_s6 207 rfl rfl
theorem k_1542 : Cond.methodLink RL 20 yX14_init ∈ mtb := mk_s6 209 rfl rfl
theorem k_1543 : Cond.instanceMethod yX14_init ∈ mtb := mk_s6 210 rfl rfl
theorem k_1544 : Cond.code yX14_init cX14_init 1 none ∈ mtb := mk_s6 211 rfl rfl
theorem vaD_app {A : Nat → Prop} {w1 w2 : va_W} (h1 : va_D A w1) (h2 : va_D A w2) (hx : ∀ (i j : Nat) (p q : Nat × va_E), w1[i]? = some p → w2[j]? = some q → p.1 ≠ q.1) : va_D A (w1 ++ w2) := by
  refine ⟨fun i j p q hi hj e => ?_, fun k q hk => ?_⟩
  · rcases Nat.lt_or_ge i w1.length with a | a <;> rcases Nat.lt_or_ge j w1.length with b | b
    · rw [List.getElem?_append_left a] at hi; rw [List.getElem?_append_left b] at hj; exact h1.1 i j p q hi hj e
    · rw [List.getElem?_append_left a] at hi; rw [List.getElem?_append_right b] at hj; exact absurd e (hx _ _ _ _ hi hj)
    · rw [List.getElem?_append_right a] at hi; rw [List.getElem?_append_left b] at hj; exact absurd e.symm (hx _ _ _ _ hj hi)
    · rw [List.getElem?_append_right a] at hi; rw [List.getElem?_append_right b] at hj
      have := h2.1 _ _ p q hi hj e
      omega
  · rcases Nat.lt_or_ge k w1.length with a | a
    · rw [List.getElem?_append_left a] at hk; exact h1.2 k q hk
    · rw [List.getElem?_append_right a] at hk; exact h2.2 _ q hk
theorem hdI_X13_init : yX13_init.cls ≠ "java/lang/invoke/MethodHandle" ∧ yX13_init.cls ≠ "java/lang/invoke/VarHandle" ∧ (parseMethodDescriptor yX13_init.desc).map (fun d => d.parameters.length) = some 0 := by decide +kernel
theorem hdI_X14_init : yX14_init.cls ≠ "java/lang/invoke/MethodHandle" ∧ yX14_init.cls ≠ "java/lang/invoke/VarHandle" ∧ (parseMethodDescriptor yX14_init.desc).map (fun d => d.parameters.length) = some 0 := by decide +kernel
theorem law_start {p : Program} {e : Env} {s : State} {m : MethodId} {below : List Frame} {meth : Method} {c : Code} (l : Launch) {b L : Nat} {xs : Nat → Int32} (hL : L ≤ 3072) (C0 : lw_At p s m meth c b L xs) (LK : ∀ (z : Mz) (aR : Int → Nat) (oa : Nat), lC z aR oa b L xs p s m c → LKc z aR oa b L p l e s m below meth c (lw_Z below #[Value.ref b] s)) : W p l e room_1 s m #[Value.ref b] below meth c s.heap [] 0 0 (lw_Z below #[Value.ref b] s) (entryFrame m ([Value.ref b] : List Value).toArray 7) := by
  obtain ⟨hx, hb, hr, hml, hown, hts, hX, hbl, hlocks, hgv⟩ := id C0
  have hl := lv_entry ([.ref b]) (n := 7) (Nat.le_of_ble_eq_true rfl)
  rw [lg_entry_eq]
  generalize (lg_sl ([.ref b]) ++ List.replicate (7 - (lg_sl ([.ref b])).length) Slot.unset).toArray = ls at hl ⊢
  have hl : lv_has ls 7 [(0, .ref b)] := hl
  obtain ⟨z0, hK, hT⟩ := ground_z hts hgv k_193 k_194 k_249 k_573
  have hm := ground_mtb hts
  have hN := ground_N hts
  have hAO : va_AO RX7 s := va_AO.of (hts _ nf_a5)
  refine l_make (sh := shC) (z0 := z0) hx hb hml hown hm hK hN hT hAO shC_neg shC_lt 11 rfl (by decide) rfl iX13 tyX13 tyX13_ok rfl (by decide) k_158 k_159 k_134 rfl (by decide) (by decide) dL_law_0 dL_law_3 dL_law_4 (fun z => ct_Reader Fr_h0) (by decide) k_160 k_161 k_134 k_162 rfl hdI_X13_init rfl rfl (by decide) (by decide) (by decide) (ws := []) (fun k q h => (by cases h)) ⟨(fun i j p q h => (by cases h)), (fun k q h => (by cases h))⟩ va_S.rf hl.1 (fun z q H1 locs1 z1 z2 z3 lw1 _ hI hq ho hP _ hS => ?_)
  obtain ⟨hIC, hqC, hPC⟩ := conv_C hI ho hq hP
  refine lv_astore_n (lv' := [(1, .ref (z.2.2.1 0)), (0, .ref b)]) hx hb dL_law_7 rfl hl (by decide) rfl (fun ls hl => ?_)
  refine l_make (sh := shR) (z0 := z0) hx hb hml hown hm hK hN hT hAO shR_neg shR_lt 12 rfl (by decide) rfl iX14 tyX14 tyX14_ok rfl (by decide) k_1540 k_1541 k_147 rfl (by decide) (by decide) dL_law_8 dL_law_11 dL_law_12 (fun z => ct_Ref0) (by decide) k_1542 k_1543 k_147 k_1544 rfl hdI_X14_init rfl rfl (by decide) (by decide) (by decide) (ws := mW (XC z) q) (show va_P z0.1 mcl (mW (XC z) q) H1 by rw [← z1]; exact hPC) (mD_W hIC lw1) hS hl.1 (fun z' r H2 locs2 w1 w2 w3 lw2 ap hI2 hr2 ho2 hP2 hP0 hS2 => ?_)
  obtain ⟨hIR, hrR, hPR⟩ := conv_R hI2 ho2 hr2 hP2
  obtain ⟨aR, eaR⟩ : ∃ aR, aR = z'.2.2.1 := ⟨_, rfl⟩
  have ez : z' = zRf z aR := by
    obtain ⟨a, b', c', d⟩ := z'
    rw [eaR]
    show (a, b', c', d) = (z.1, z.2.1, c', z.2.2.2)
    rw [show a = z.1 from w1.trans z1.symm, show b' = z.2.1 from w2.trans z2.symm, show d = z.2.2.2 from w3.trans z3.symm]
  rw [ez] at hIR hrR hPR lw2 ap
  refine lv_astore_n (lv' := [(2, .ref (aR 0)), (1, .ref (z.2.2.1 0)), (0, .ref b)]) hx hb dL_law_15 rfl hl (by decide) (by rw [ez]; rfl) (fun ls hl => ?_)
  refine lv_iconst (v := 1) hx hb dL_law_16 (by decide) ?_
  have hPa : va_P z0.1 mcl (mW (XC z) q ++ mW (XR (zRf z aR)) r) H2 := hP0.app (show va_P z0.1 mcl (mW (XR (zRf z aR)) r) H2 by rw [← z1]; exact hPR)
  have hDa : va_D (fun x => s.heap.size ≤ x) (mW (XC z) q ++ mW (XR (zRf z aR)) r) := vaD_app (mD_W hIC lw1) (mD_W hIR lw2) (fun i j p' q' hi hj y => by
    obtain ⟨j1, j2⟩ := mW_in hj
    exact ap j i p' j1 hi (by rw [y, j2]; rfl))
  refine va_newa (atype := .long) (A := fun x => s.heap.size ≤ x) (N' := 1) (n := 1) (ty := .long) (a0 := (1, .inr (.inl fun _ => 0))) hx hb (hm _ k_249) rfl hK hPa hDa hS2 (fun q hq => hq) (fun cA => rfl) (by decide) (by decide) (by decide) (by decide) (by decide) dL_law_17 (fun oa cA H3 hK3 hP3 hD3 hS3 => ?_)
  have lC0 : (mW (XC z) q).length = 142 := by unfold mW; rw [List.length_map, List.length_range]; rfl
  have lR0 : (mW (XR (zRf z aR)) r).length = 41 := by unfold mW; rw [List.length_map, List.length_range]; rfl
  have ezz : z = (z0.1, z0.2.1, z.2.2.1, z0.2.2.2) := by
    rw [← z1, ← z2, ← z3]
  have hKz : va_K (mxD (XC z)) mcl (mtys (XC z)) s := by rw [ezz]; exact hK
  have hTz : mST (XC z) (fun x => s.heap.size ≤ x) s s.heap := by rw [ezz]; exact hT
  have hlast : ((mW (XC z) q ++ mW (XR (zRf z aR)) r) ++ [(oa, (.inl (cA, (1, .inr (.inl fun _ => 0))) : va_E))])[183]? = some (oa, .inl (cA, (1, .inr (.inl fun _ => 0)))) := by
    rw [List.getElem?_append_right (by rw [List.length_append, lC0, lR0]; decide), List.length_append, lC0, lR0]; rfl
  have hoa : s.heap.size ≤ oa := hD3.2 _ _ hlast
  have inC : ∀ (k : Nat) (w : Nat × va_E), (mW (XC z) q)[k]? = some w → ((mW (XC z) q ++ mW (XR (zRf z aR)) r) ++ [(oa, (.inl (cA, (1, .inr (.inl fun _ => 0))) : va_E))])[k]? = some w := fun k w hk => by
    have t := (mW_in hk).1
    have t' : k < 142 := t
    rw [List.getElem?_append_left (by rw [List.length_append, lC0, lR0]; omega), List.getElem?_append_left (by rw [lC0]; exact t')]; exact hk
  have inR : ∀ (k : Nat) (w : Nat × va_E), (mW (XR (zRf z aR)) r)[k]? = some w → ((mW (XC z) q ++ mW (XR (zRf z aR)) r) ++ [(oa, (.inl (cA, (1, .inr (.inl fun _ => 0))) : va_E))])[142 + k]? = some w := fun k w hk => by
    have t : k < 41 := (mW_in hk).1
    rw [List.getElem?_append_left (by rw [List.length_append, lC0, lR0]; omega), List.getElem?_append_right (by rw [lC0]; omega), lC0, show 142 + k - 142 = k by omega]; exact hk
  have C : lC z aR oa b L xs p s m c := by
    refine ⟨hx, hb, hml, hown, hm, hKz, hIC, hIR, hN, hTz, hX, hbl, lw1, lw2, fun i j hi hj y => ?_, hoa, fun i hi y => ?_, fun j hj y => ?_⟩
    · exact ap j i _ hj (mW_at (X := XC z) (h := q) hi) y.symm
    · have := hD3.1 _ _ _ _ (inC i _ (mW_at (X := XC z) (h := q) hi)) hlast y
      omega
    · have := hD3.1 _ _ _ _ (inR j _ (mW_at (X := XR (zRf z aR)) (h := r) hj)) hlast y
      omega
  have ecA : cA = (XC z0).2.1 15 := a_arrC (sh := shC) (z := z0) (n := 0) (t0 := 2) (kd := 15) hK3 rfl (by decide)
  have hout : va_P (mxD (XC z)) mcl [(oa, mE (XC z) (15, 1) (fun _ => 0))] H3 := by
    intro k w hk
    rcases k with _ | k
    · cases hk
      have := hP3 _ _ hlast
      rw [ecA] at this
      rw [ezz]; exact this
    · cases hk
  refine lv_astore_n (lv' := [(3, .ref oa), (2, .ref (aR 0)), (1, .ref (z.2.2.1 0)), (0, .ref b)]) hx hb dL_law_19 rfl hl (by decide) rfl (fun ls hl => ?_)
  refine lv_iconst (v := 0) hx hb dL_law_20 (by decide) ?_
  refine lv_istore (lv' := lo5 z aR oa b 0) hx hb dL_law_21 hl (by decide) rfl (fun ls hl => ?_)
  exact law_loop C hr hlocks hL (LK z aR oa C) 512 0 q r 0 _ _ (by decide) (by decide) (by omega) (by decide) (by decide) (first_Rel hq hr2) H3 _ ls hqC hrR (by rw [show mxD (XC z) = z0.1 from z1]; exact fun k w hk => hP3 _ _ (inC k w hk)) (by rw [show mxD (XC z) = z0.1 from z1]; exact fun k w hk => hP3 _ _ (inR k w hk)) hout (fun i hi => (hP3 _ _ (inC i _ (mW_at (X := XC z) (h := q) hi))).lt) (fun j hj => (hP3 _ _ (inR j _ (mW_at (X := XR (zRf z aR)) (h := r) hj))).lt) (hP3 _ _ hlast).lt hS3 hl
