theorem up_Fr_list {sh : Int → Nat × Nat} {n : Nat} : ∀ (L : List (Int × Int × Int)) (h : Mh), Fr sh n h → (L.all fun q => decide (q.1 < (n : Int))) = true → Fr sh n (ups L h) := by
  intro L
  induction L with
  | nil => intro h f _; exact f
  | cons q t ih =>
    intro h f hq
    rw [List.all_cons, Bool.and_eq_true] at hq
    exact ih (up h q.1 q.2.1 q.2.2) (f.up (of_decide_eq_true hq.1)) hq.2
theorem Fr.ups {sh : Int → Nat × Nat} {n : Nat} {L : List (Int × Int × Int)} {h : Mh} (f : Fr sh n h) (hq : (L.all fun q => decide (q.1 < (n : Int))) = true) : Fr sh n (ups L h) := up_Fr_list L h f hq
theorem ct_Row {l : Launch} {z : Mz} {n o cap : Nat} {h : Mh} (ho : o < n) (hso : shC o = (6, 0)) (hs0 : shC n = (14, cap)) (hcap : cap < 1000) (F : Fr shC n h) : aCal shC l yX7_init cX7_init 2 1 21 1 (0 + cap) z n (n + 1) [(2, (o : Int)), (0, (cap : Int))] h (fun h' => h' = ups [((o : Int), ((0 : Nat) : Int), (n : Int))] h) := by
  refine a_entry RX7 rfl rfl (by decide) rfl (fun p e s m args below meth c C hr => ?_)
  show aG shC z n p l e _ s m args below meth c _ _ 0 0 0 [(0, (2, (o : Int))), (1, (0, (cap : Int)))] [] h
  refine a_aload_n C dX7_init_0 rfl (by omega) rfl ?_
  refine a_objInit C (by omega) k_177 k_164 k_165 rfl rfl rfl dX7_init_1 ?_
  refine a_aload_n C dX7_init_4 rfl (by omega) rfl ?_
  refine a_iload_n C dX7_init_5 rfl rfl ?_
  refine a_iconst C ⟨by decide, by decide⟩ dX7_init_6 ?_
  refine a_mmax C k_178 k_179 k_137 k_180 rfl rfl rfl dX7_init_7 (x := (cap : Int)) (by rw [if_neg (by omega)]) ?_ (Nat.zero_le _) (Nat.zero_le _)
  refine a_newi C 14 1 (atype := .int) (N' := cap) k_194 rfl rfl (by decide) rfl (by decide) hs0 rfl (by omega) (by decide) F.at rfl (Nat.ble_eq.mpr (Nat.le_refl _)) dX7_init_10 (fun z1 hz hf C => ?_)
  refine a_put C 6 0 rfl (by decide) rfl iX7 (by decide) k_181 tyX7 tyX7_ok nmX7 rfl rfl (Or.inr (Or.inr (Or.inr (Or.inr ⟨_, rfl⟩)))) rfl dX7_init_12 (by omega) hso trivial ?_
  exact a_ret C hz (by omega) hf hr dX7_init_15 rfl
theorem ct_Drops {l : Launch} {z : Mz} {n o cap : Nat} {h : Mh} (ho : o < n) (hso : shC o = (0, 0)) (hs0 : shC n = (14, cap)) (hs1 : shC ((n + 1 : Nat) : Int) = (14, cap)) (hs2 : shC ((n + 2 : Nat) : Int) = (14, cap)) (hcap : cap < 1000) (F : Fr shC n h) : aCal shC l yX1_init cX1_init 2 1 21 3 (0 + cap + cap + cap) z n (n + 3) [(2, (o : Int)), (0, (cap : Int))] h (fun h' => h' = ups [((o : Int), ((0 : Nat) : Int), (n : Int)), ((o : Int), ((1 : Nat) : Int), ((n + 1 : Nat) : Int)), ((o : Int), ((2 : Nat) : Int), ((n + 2 : Nat) : Int))] h) := by
  refine a_entry RX1 rfl rfl (by decide) rfl (fun p e s m args below meth c C hr => ?_)
  show aG shC z n p l e _ s m args below meth c _ _ 0 0 0 [(0, (2, (o : Int))), (1, (0, (cap : Int)))] [] h
  have Z := zle.refl z n
  have HF : ∀ i : Nat, n ≤ i → i < n → s.heap.size ≤ z.2.2.1 i := fun i a b => by omega
  refine a_aload_n C dX1_init_0 rfl (by omega) rfl ?_
  refine a_objInit C (by omega) k_201 k_164 k_165 rfl rfl rfl dX1_init_1 ?_
  refine a_aload_n C dX1_init_4 rfl (by omega) rfl ?_
  refine a_iload_n C dX1_init_5 rfl rfl ?_
  refine a_iconst C ⟨by decide, by decide⟩ dX1_init_6 ?_
  refine a_mmax C k_202 k_179 k_137 k_180 rfl rfl rfl dX1_init_7 (x := (cap : Int)) (by rw [if_neg (by omega)]) ?_ (show 0 ≤ 3 by omega) (show 0 ≤ 0 + cap + cap + cap by omega)
  refine a_newi C 14 1 (atype := .int) (N' := cap) k_194 rfl rfl (by decide) rfl (by decide) hs0 rfl (by omega) (by decide) F.at rfl (Nat.ble_eq.mpr (show 0 + cap ≤ 0 + cap + cap + cap by omega)) dX1_init_10 (fun z1 hz hf C => ?_)
  replace HF := hf_trans HF hz hf
  replace Z := Z.trans hz (by omega)
  replace F := F.le (n' := n + 1) (by omega)
  refine a_putE C 0 0 rfl (by decide) rfl iX1 (by decide) k_203 tyX1 tyX1_ok nmX1 rfl rfl (Or.inr (Or.inr (Or.inr (Or.inr ⟨_, rfl⟩)))) rfl dX1_init_12 (by omega) hso trivial (fun h1 e1 => ?_)
  replace F : Fr shC (n + 1) h1 := by rw [e1]; exact F.up (by omega)
  refine a_aload_n C dX1_init_15 rfl (by omega) rfl ?_
  refine a_iload_n C dX1_init_16 rfl rfl ?_
  refine a_iconst C ⟨by decide, by decide⟩ dX1_init_17 ?_
  refine a_mmax C k_202 k_179 k_137 k_180 rfl rfl rfl dX1_init_18 (x := (cap : Int)) (by rw [if_neg (by omega)]) ?_ (show 1 ≤ 3 by omega) (show 0 + cap ≤ 0 + cap + cap + cap by omega)
  refine a_newi C 14 1 (atype := .int) (N' := cap) k_194 rfl rfl (by decide) rfl (by decide) hs1 rfl (by omega) (by decide) F.at rfl (Nat.ble_eq.mpr (show 0 + cap + cap ≤ 0 + cap + cap + cap by omega)) dX1_init_21 (fun z2 hz hf C => ?_)
  replace HF := hf_trans HF hz hf
  replace Z := Z.trans hz (by omega)
  replace F := F.le (n' := n + 2) (by omega)
  refine a_putE C 0 1 rfl (by decide) rfl iX1 (by decide) k_206 tyX1 tyX1_ok nmX1 rfl rfl (Or.inr (Or.inr (Or.inr (Or.inr ⟨_, rfl⟩)))) rfl dX1_init_23 (by omega) hso trivial (fun h2 e2 => ?_)
  replace F : Fr shC (n + 2) h2 := by rw [e2]; exact F.up (by omega)
  refine a_aload_n C dX1_init_26 rfl (by omega) rfl ?_
  refine a_iload_n C dX1_init_27 rfl rfl ?_
  refine a_iconst C ⟨by decide, by decide⟩ dX1_init_28 ?_
  refine a_mmax C k_202 k_179 k_137 k_180 rfl rfl rfl dX1_init_29 (x := (cap : Int)) (by rw [if_neg (by omega)]) ?_ (show 2 ≤ 3 by omega) (show 0 + cap + cap ≤ 0 + cap + cap + cap by omega)
  refine a_newi C 14 1 (atype := .int) (N' := cap) k_194 rfl rfl (by decide) rfl (by decide) hs2 rfl (by omega) (by decide) F.at rfl (Nat.ble_eq.mpr (show 0 + cap + cap + cap ≤ 0 + cap + cap + cap by omega)) dX1_init_32 (fun z3 hz hf C => ?_)
  replace HF := hf_trans HF hz hf
  replace Z := Z.trans hz (by omega)
  replace F := F.le (n' := n + 3) (by omega)
  refine a_putE C 0 2 rfl (by decide) rfl iX1 (by decide) k_209 tyX1 tyX1_ok nmX1 rfl rfl (Or.inr (Or.inr (Or.inr (Or.inr ⟨_, rfl⟩)))) rfl dX1_init_34 (by omega) hso trivial (fun h3 e3 => ?_)
  replace F : Fr shC (n + 3) h3 := by rw [e3]; exact F.up (by omega)
  exact a_ret C Z (by omega) HF hr dX1_init_37 (by rw [e3, e2, e1]; rfl)
theorem ct_Law {l : Launch} {z : Mz} {n o : Nat} {h : Mh} (ho : o < n) (hso : shC o = (2, 0)) (hs0 : shC n = (14, 64)) (hs1 : shC ((n + 1 : Nat) : Int) = (14, 64)) (hs2 : shC ((n + 2 : Nat) : Int) = (15, 64)) (hs3 : shC ((n + 3 : Nat) : Int) = (15, 6)) (F : Fr shC n h) : aCal shC l yX3_init cX3_init 1 1 20 4 198 z n (n + 4) [(2, (o : Int))] h (fun h' => h' = ups [((o : Int), ((0 : Nat) : Int), (n : Int)), ((o : Int), ((1 : Nat) : Int), ((n + 1 : Nat) : Int)), ((o : Int), ((2 : Nat) : Int), ((n + 2 : Nat) : Int)), ((o : Int), ((3 : Nat) : Int), ((n + 3 : Nat) : Int))] h) := by
  refine a_entry RX3 rfl rfl (by decide) rfl (fun p e s m args below meth c C hr => ?_)
  show aG shC z n p l e _ s m args below meth c _ _ 0 0 0 [(0, (2, (o : Int)))] [] h
  have Z := zle.refl z n
  have HF : ∀ i : Nat, n ≤ i → i < n → s.heap.size ≤ z.2.2.1 i := fun i a b => by omega
  refine a_aload_n C dX3_init_0 rfl (by omega) rfl ?_
  refine a_objInit C (by omega) k_231 k_164 k_165 rfl rfl rfl dX3_init_1 ?_
  refine a_aload_n C dX3_init_4 rfl (by omega) rfl ?_
  refine a_bipush C ⟨by decide, by decide⟩ (by decide) dX3_init_5 ?_
  refine a_newi C 14 1 (atype := .int) (N' := 64) k_194 rfl rfl (by decide) rfl (by decide) hs0 rfl (by decide) (by decide) F.at rfl rfl dX3_init_7 (fun z1 hz hf C => ?_)
  replace HF := hf_trans HF hz hf
  replace Z := Z.trans hz (by omega)
  replace F := F.le (n' := n + 1) (by omega)
  refine a_putE C 2 0 rfl (by decide) rfl iX3 (by decide) k_232 tyX3 tyX3_ok nmX3 rfl rfl (Or.inr (Or.inr (Or.inr (Or.inr ⟨_, rfl⟩)))) rfl dX3_init_9 (by omega) hso trivial (fun h1 e1 => ?_)
  replace F : Fr shC (n + 1) h1 := by rw [e1]; exact F.up (by omega)
  refine a_aload_n C dX3_init_12 rfl (by omega) rfl ?_
  refine a_bipush C ⟨by decide, by decide⟩ (by decide) dX3_init_13 ?_
  refine a_newi C 14 1 (atype := .int) (N' := 64) k_194 rfl rfl (by decide) rfl (by decide) hs1 rfl (by decide) (by decide) F.at rfl rfl dX3_init_15 (fun z2 hz hf C => ?_)
  replace HF := hf_trans HF hz hf
  replace Z := Z.trans hz (by omega)
  replace F := F.le (n' := n + 2) (by omega)
  refine a_putE C 2 1 rfl (by decide) rfl iX3 (by decide) k_233 tyX3 tyX3_ok nmX3 rfl rfl (Or.inr (Or.inr (Or.inr (Or.inr ⟨_, rfl⟩)))) rfl dX3_init_17 (by omega) hso trivial (fun h2 e2 => ?_)
  replace F : Fr shC (n + 2) h2 := by rw [e2]; exact F.up (by omega)
  refine a_aload_n C dX3_init_20 rfl (by omega) rfl ?_
  refine a_bipush C ⟨by decide, by decide⟩ (by decide) dX3_init_21 ?_
  refine a_newl C (N' := 64) k_249 hs2 rfl (by decide) F.at rfl rfl dX3_init_23 (fun z3 hz hf C => ?_)
  replace HF := hf_trans HF hz hf
  replace Z := Z.trans hz (by omega)
  replace F := F.le (n' := n + 3) (by omega)
  refine a_putE C 2 2 rfl (by decide) rfl iX3 (by decide) k_234 tyX3 tyX3_ok nmX3 rfl rfl (Or.inr (Or.inr (Or.inr (Or.inr ⟨_, rfl⟩)))) rfl dX3_init_25 (by omega) hso trivial (fun h3 e3 => ?_)
  replace F : Fr shC (n + 3) h3 := by rw [e3]; exact F.up (by omega)
  refine a_aload_n C dX3_init_28 rfl (by omega) rfl ?_
  refine a_bipush C ⟨by decide, by decide⟩ (by decide) dX3_init_29 ?_
  refine a_newl C (N' := 6) k_249 hs3 rfl (by decide) F.at rfl rfl dX3_init_31 (fun z4 hz hf C => ?_)
  replace HF := hf_trans HF hz hf
  replace Z := Z.trans hz (by omega)
  replace F := F.le (n' := n + 4) (by omega)
  refine a_putE C 2 3 rfl (by decide) rfl iX3 (by decide) k_235 tyX3 tyX3_ok nmX3 rfl rfl (Or.inr (Or.inr (Or.inr (Or.inr ⟨_, rfl⟩)))) rfl dX3_init_33 (by omega) hso trivial (fun h4 e4 => ?_)
  replace F : Fr shC (n + 4) h4 := by rw [e4]; exact F.up (by omega)
  exact a_ret C Z (by omega) HF hr dX3_init_36 (by rw [e4, e3, e2, e1]; rfl)
theorem ct_Tokens {l : Launch} {z : Mz} {h : Mh} (F : Fr shC 50 h) : aCal shC l yX10_init cX10_init 2 1 20 3 2400 z 50 53 [(2, ((49 : Nat) : Int)), (2, ((1 : Nat) : Int))] h (fun h' => h' = ups [(((49 : Nat) : Int), ((1 : Nat) : Int), ((50 : Nat) : Int)), (((49 : Nat) : Int), ((2 : Nat) : Int), ((51 : Nat) : Int)), (((49 : Nat) : Int), ((3 : Nat) : Int), ((52 : Nat) : Int)), (((49 : Nat) : Int), ((0 : Nat) : Int), ((1 : Nat) : Int))] h) := by
  refine a_entry RX10 rfl rfl (by decide) rfl (fun p e s m args below meth c C hr => ?_)
  have Z := zle.refl z 50
  have HF : ∀ i : Nat, 50 ≤ i → i < 50 → s.heap.size ≤ z.2.2.1 i := fun i a b => by omega
  show aG shC z 50 p l e _ s m args below meth c _ _ 0 0 0 [(0, (2, ((49 : Nat) : Int))), (1, (2, ((1 : Nat) : Int)))] [] h
  refine a_aload_n C dX10_init_0 rfl (by decide) rfl ?_
  refine a_objInit C (by decide) k_383 k_164 k_165 rfl rfl rfl dX10_init_1 ?_
  refine a_aload_n C dX10_init_4 rfl (by decide) rfl ?_
  refine a_sipush C ⟨by decide, by decide⟩ (by decide) dX10_init_5 ?_
  refine a_newi C 14 1 (atype := .int) (N' := 800) k_194 rfl rfl (by decide) rfl (by decide) rfl rfl (by decide) (by decide) F.at rfl rfl dX10_init_8 (fun z1 hz hf C => ?_)
  replace HF := hf_trans HF hz hf
  replace Z := Z.trans hz (by decide)
  replace F := F.le (n' := 51) (by decide)
  refine a_putE C 9 1 rfl (by decide) rfl iX10 (by decide) k_385 tyX10 tyX10_ok nmX10 rfl rfl (Or.inr (Or.inr (Or.inr (Or.inr ⟨_, rfl⟩)))) rfl dX10_init_10 (by decide) rfl trivial (fun h1 e1 => ?_)
  replace F : Fr shC 51 h1 := by rw [e1]; exact F.up (by decide)
  refine a_aload_n C dX10_init_13 rfl (by decide) rfl ?_
  refine a_sipush C ⟨by decide, by decide⟩ (by decide) dX10_init_14 ?_
  refine a_newi C 14 1 (atype := .int) (N' := 800) k_194 rfl rfl (by decide) rfl (by decide) rfl rfl (by decide) (by decide) F.at rfl rfl dX10_init_17 (fun z2 hz hf C => ?_)
  replace HF := hf_trans HF hz hf
  replace Z := Z.trans hz (by decide)
  replace F := F.le (n' := 52) (by decide)
  refine a_putE C 9 2 rfl (by decide) rfl iX10 (by decide) k_386 tyX10 tyX10_ok nmX10 rfl rfl (Or.inr (Or.inr (Or.inr (Or.inr ⟨_, rfl⟩)))) rfl dX10_init_19 (by decide) rfl trivial (fun h2 e2 => ?_)
  replace F : Fr shC 52 h2 := by rw [e2]; exact F.up (by decide)
  refine a_aload_n C dX10_init_22 rfl (by decide) rfl ?_
  refine a_sipush C ⟨by decide, by decide⟩ (by decide) dX10_init_23 ?_
  refine a_newi C 14 1 (atype := .int) (N' := 800) k_194 rfl rfl (by decide) rfl (by decide) rfl rfl (by decide) (by decide) F.at rfl rfl dX10_init_26 (fun z3 hz hf C => ?_)
  replace HF := hf_trans HF hz hf
  replace Z := Z.trans hz (by decide)
  replace F := F.le (n' := 53) (by decide)
  refine a_putE C 9 3 rfl (by decide) rfl iX10 (by decide) k_387 tyX10 tyX10_ok nmX10 rfl rfl (Or.inr (Or.inr (Or.inr (Or.inr ⟨_, rfl⟩)))) rfl dX10_init_28 (by decide) rfl trivial (fun h3 e3 => ?_)
  replace F : Fr shC 53 h3 := by rw [e3]; exact F.up (by decide)
  refine a_aload_n C dX10_init_31 rfl (by decide) rfl ?_
  refine a_aload_n C dX10_init_32 rfl (by decide) rfl ?_
  refine a_putE C 9 0 rfl (by decide) rfl iX10 (by decide) k_384 tyX10 tyX10_ok nmX10 rfl rfl (Or.inr (Or.inr (Or.inr (Or.inr ⟨_, rfl⟩)))) rfl dX10_init_33 (by decide) rfl trivial (fun h4 e4 => ?_)
  replace F : Fr shC 53 h4 := by rw [e4]; exact F.up (by decide)
  exact a_ret C Z (by decide) HF hr dX10_init_36 (by rw [e4, e3, e2, e1]; rfl)
theorem ct_Text {l : Launch} {z : Mz} {h : Mh} (F : Fr shC 47 h) : aCal shC l yX9_init cX9_init 3 2 41 6 2555 z 47 53 [(2, ((46 : Nat) : Int)), (2, ((1 : Nat) : Int)), (2, ((2 : Nat) : Int))] h (fun h' => h' = ups [(((46 : Nat) : Int), ((3 : Nat) : Int), (-1)), (((46 : Nat) : Int), ((10 : Nat) : Int), ((47 : Nat) : Int)), (((46 : Nat) : Int), ((11 : Nat) : Int), ((48 : Nat) : Int)), (((49 : Nat) : Int), ((1 : Nat) : Int), ((50 : Nat) : Int)), (((49 : Nat) : Int), ((2 : Nat) : Int), ((51 : Nat) : Int)), (((49 : Nat) : Int), ((3 : Nat) : Int), ((52 : Nat) : Int)), (((49 : Nat) : Int), ((0 : Nat) : Int), ((1 : Nat) : Int)), (((46 : Nat) : Int), ((0 : Nat) : Int), ((49 : Nat) : Int)), (((46 : Nat) : Int), ((1 : Nat) : Int), ((2 : Nat) : Int))] h) := by
  refine a_entry RX9 rfl rfl (by decide) rfl (fun p e s m args below meth c C hr => ?_)
  have Z := zle.refl z 47
  have HF : ∀ i : Nat, 47 ≤ i → i < 47 → s.heap.size ≤ z.2.2.1 i := fun i a b => by omega
  show aG shC z 47 p l e _ s m args below meth c _ _ 0 0 0 [(0, (2, ((46 : Nat) : Int))), (1, (2, ((1 : Nat) : Int))), (2, (2, ((2 : Nat) : Int)))] [] h
  refine a_aload_n C dX9_init_0 rfl (by decide) rfl ?_
  refine a_objInit C (by decide) k_377 k_164 k_165 rfl rfl rfl dX9_init_1 ?_
  refine a_aload_n C dX9_init_4 rfl (by decide) rfl ?_
  refine a_iconst C ⟨by decide, by decide⟩ dX9_init_5 ?_
  refine a_putE C 8 3 rfl (by decide) rfl iX9 (by decide) k_425 tyX9 tyX9_ok nmX9 rfl rfl (Or.inl rfl) rfl dX9_init_6 (by decide) rfl ⟨by decide, by decide⟩ (fun h1 e1 => ?_)
  replace F : Fr shC 47 h1 := by rw [e1]; exact F.up (by decide)
  refine a_aload_n C dX9_init_9 rfl (by decide) rfl ?_
  refine a_bipush C ⟨by decide, by decide⟩ (by decide) dX9_init_10 ?_
  refine a_newi C 14 1 (atype := .int) (N' := 72) k_194 rfl rfl (by decide) rfl (by decide) rfl rfl (by decide) (by decide) F.at rfl rfl dX9_init_12 (fun z1 hz hf C => ?_)
  replace HF := hf_trans HF hz hf
  replace Z := Z.trans hz (by decide)
  replace F := F.le (n' := 48) (by decide)
  refine a_putE C 8 10 rfl (by decide) rfl iX9 (by decide) k_434 tyX9 tyX9_ok nmX9 rfl rfl (Or.inr (Or.inr (Or.inr (Or.inr ⟨_, rfl⟩)))) rfl dX9_init_14 (by decide) rfl trivial (fun h2 e2 => ?_)
  replace F : Fr shC 48 h2 := by rw [e2]; exact F.up (by decide)
  refine a_aload_n C dX9_init_17 rfl (by decide) rfl ?_
  refine a_bipush C ⟨by decide, by decide⟩ (by decide) dX9_init_18 ?_
  refine a_newi C 14 1 (atype := .int) (N' := 72) k_194 rfl rfl (by decide) rfl (by decide) rfl rfl (by decide) (by decide) F.at rfl rfl dX9_init_20 (fun z2 hz hf C => ?_)
  replace HF := hf_trans HF hz hf
  replace Z := Z.trans hz (by decide)
  replace F := F.le (n' := 49) (by decide)
  refine a_putE C 8 11 rfl (by decide) rfl iX9 (by decide) k_435 tyX9 tyX9_ok nmX9 rfl rfl (Or.inr (Or.inr (Or.inr (Or.inr ⟨_, rfl⟩)))) rfl dX9_init_22 (by decide) rfl trivial (fun h3 e3 => ?_)
  replace F : Fr shC 49 h3 := by rw [e3]; exact F.up (by decide)
  refine a_aload_n C dX9_init_25 rfl (by decide) rfl ?_
  refine a_new C 9 rfl (by decide) rfl iX10 tyX10 tyX10_ok rfl (by decide) k_378 k_379 k_141 rfl F.at rfl rfl dX9_init_26 (fun z3 hz hf C => ?_)
  replace HF := hf_trans HF hz hf
  replace Z := Z.trans hz (by decide)
  replace F := F.le (n' := 50) (by decide)
  refine a_dup C (show ¬ (2 : Nat) = 1 by decide) dX9_init_29 ?_
  refine a_aload_n C dX9_init_30 rfl (by decide) rfl ?_
  refine a_callI C (av := [(2, ((1 : Nat) : Int))]) (np := 1) (ct_Tokens F) k_380 k_381 k_141 k_382 rfl hdI_X10_init rfl rfl rfl rfl rfl dX9_init_31 rfl rfl (by decide) (fun z4 h4 hz hf C e4 => ?_)
  replace HF := hf_trans HF hz hf
  replace Z := Z.trans hz (by decide)
  replace F : Fr shC 53 h4 := by rw [e4]; exact Fr.ups (F.le (by decide)) (by decide)
  refine a_putE C 8 0 rfl (by decide) rfl iX9 (by decide) k_421 tyX9 tyX9_ok nmX9 rfl rfl (Or.inr (Or.inr (Or.inr (Or.inl ⟨_, rfl⟩)))) rfl dX9_init_34 (by decide) rfl trivial (fun h5 e5 => ?_)
  replace F : Fr shC 53 h5 := by rw [e5]; exact F.up (by decide)
  refine a_aload_n C dX9_init_37 rfl (by decide) rfl ?_
  refine a_aload_n C dX9_init_38 rfl (by decide) rfl ?_
  refine a_putE C 8 1 rfl (by decide) rfl iX9 (by decide) k_422 tyX9 tyX9_ok nmX9 rfl rfl (Or.inr (Or.inr (Or.inr (Or.inl ⟨_, rfl⟩)))) rfl dX9_init_39 (by decide) rfl trivial (fun h6 e6 => ?_)
  replace F : Fr shC 53 h6 := by rw [e6]; exact F.up (by decide)
  exact a_ret C Z (by decide) HF hr dX9_init_42 (by rw [e6, e5, e4, e3, e2, e1]; rfl)
theorem ct_Notes {l : Launch} {z : Mz} {h : Mh} (F : Fr shC 108 h) : aCal shC l yX4_init cX4_init 1 2 42 7 194 z 108 115 [(2, ((107 : Nat) : Int))] h (fun h' => h' = ups [(((107 : Nat) : Int), ((0 : Nat) : Int), ((108 : Nat) : Int)), (((107 : Nat) : Int), ((1 : Nat) : Int), ((109 : Nat) : Int)), (((107 : Nat) : Int), ((2 : Nat) : Int), ((110 : Nat) : Int)), (((107 : Nat) : Int), ((3 : Nat) : Int), ((111 : Nat) : Int)), (((107 : Nat) : Int), ((4 : Nat) : Int), ((112 : Nat) : Int)), (((113 : Nat) : Int), ((0 : Nat) : Int), ((114 : Nat) : Int)), (((107 : Nat) : Int), ((5 : Nat) : Int), ((113 : Nat) : Int)), (((107 : Nat) : Int), ((7 : Nat) : Int), (-1))] h) := by
  refine a_entry RX4 rfl rfl (by decide) rfl (fun p e s m args below meth c C hr => ?_)
  have Z := zle.refl z 108
  have HF : ∀ i : Nat, 108 ≤ i → i < 108 → s.heap.size ≤ z.2.2.1 i := fun i a b => by omega
  show aG shC z 108 p l e _ s m args below meth c _ _ 0 0 0 [(0, (2, ((107 : Nat) : Int)))] [] h
  refine a_aload_n C dX4_init_0 rfl (by decide) rfl ?_
  refine a_objInit C (by decide) k_541 k_164 k_165 rfl rfl rfl dX4_init_1 ?_
  refine a_aload_n C dX4_init_4 rfl (by decide) rfl ?_
  refine a_bipush C ⟨by decide, by decide⟩ (by decide) dX4_init_5 ?_
  refine a_newi C 14 1 (atype := .int) (N' := 32) k_194 rfl rfl (by decide) rfl (by decide) rfl rfl (by decide) (by decide) F.at rfl rfl dX4_init_7 (fun z1 hz hf C => ?_)
  replace HF := hf_trans HF hz hf
  replace Z := Z.trans hz (by decide)
  replace F := F.le (n' := 109) (by decide)
  refine a_putE C 3 0 rfl (by decide) rfl iX4 (by decide) k_544 tyX4 tyX4_ok nmX4 rfl rfl (Or.inr (Or.inr (Or.inr (Or.inr ⟨_, rfl⟩)))) rfl dX4_init_9 (by decide) rfl trivial (fun h1 e1 => ?_)
  replace F : Fr shC 109 h1 := by rw [e1]; exact F.up (by decide)
  refine a_aload_n C dX4_init_12 rfl (by decide) rfl ?_
  refine a_bipush C ⟨by decide, by decide⟩ (by decide) dX4_init_13 ?_
  refine a_newi C 14 1 (atype := .int) (N' := 32) k_194 rfl rfl (by decide) rfl (by decide) rfl rfl (by decide) (by decide) F.at rfl rfl dX4_init_15 (fun z2 hz hf C => ?_)
  replace HF := hf_trans HF hz hf
  replace Z := Z.trans hz (by decide)
  replace F := F.le (n' := 110) (by decide)
  refine a_putE C 3 1 rfl (by decide) rfl iX4 (by decide) k_546 tyX4 tyX4_ok nmX4 rfl rfl (Or.inr (Or.inr (Or.inr (Or.inr ⟨_, rfl⟩)))) rfl dX4_init_17 (by decide) rfl trivial (fun h2 e2 => ?_)
  replace F : Fr shC 110 h2 := by rw [e2]; exact F.up (by decide)
  refine a_aload_n C dX4_init_20 rfl (by decide) rfl ?_
  refine a_bipush C ⟨by decide, by decide⟩ (by decide) dX4_init_21 ?_
  refine a_newi C 14 1 (atype := .int) (N' := 32) k_194 rfl rfl (by decide) rfl (by decide) rfl rfl (by decide) (by decide) F.at rfl rfl dX4_init_23 (fun z3 hz hf C => ?_)
  replace HF := hf_trans HF hz hf
  replace Z := Z.trans hz (by decide)
  replace F := F.le (n' := 111) (by decide)
  refine a_putE C 3 2 rfl (by decide) rfl iX4 (by decide) k_548 tyX4 tyX4_ok nmX4 rfl rfl (Or.inr (Or.inr (Or.inr (Or.inr ⟨_, rfl⟩)))) rfl dX4_init_25 (by decide) rfl trivial (fun h3 e3 => ?_)
  replace F : Fr shC 111 h3 := by rw [e3]; exact F.up (by decide)
  refine a_aload_n C dX4_init_28 rfl (by decide) rfl ?_
  refine a_bipush C ⟨by decide, by decide⟩ (by decide) dX4_init_29 ?_
  refine a_newi C 14 1 (atype := .int) (N' := 32) k_194 rfl rfl (by decide) rfl (by decide) rfl rfl (by decide) (by decide) F.at rfl rfl dX4_init_31 (fun z4 hz hf C => ?_)
  replace HF := hf_trans HF hz hf
  replace Z := Z.trans hz (by decide)
  replace F := F.le (n' := 112) (by decide)
  refine a_putE C 3 3 rfl (by decide) rfl iX4 (by decide) k_550 tyX4 tyX4_ok nmX4 rfl rfl (Or.inr (Or.inr (Or.inr (Or.inr ⟨_, rfl⟩)))) rfl dX4_init_33 (by decide) rfl trivial (fun h4 e4 => ?_)
  replace F : Fr shC 112 h4 := by rw [e4]; exact F.up (by decide)
  refine a_aload_n C dX4_init_36 rfl (by decide) rfl ?_
  refine a_bipush C ⟨by decide, by decide⟩ (by decide) dX4_init_37 ?_
  refine a_newi C 16 3 (atype := .boolean) (N' := 32) k_573 rfl rfl (by decide) rfl (by decide) rfl rfl (by decide) (by decide) F.at rfl rfl dX4_init_39 (fun z5 hz hf C => ?_)
  replace HF := hf_trans HF hz hf
  replace Z := Z.trans hz (by decide)
  replace F := F.le (n' := 113) (by decide)
  refine a_putE C 3 4 rfl (by decide) rfl iX4 (by decide) k_551 tyX4 tyX4_ok nmX4 rfl rfl (Or.inr (Or.inr (Or.inr (Or.inr ⟨_, rfl⟩)))) rfl dX4_init_41 (by decide) rfl trivial (fun h5 e5 => ?_)
  replace F : Fr shC 113 h5 := by rw [e5]; exact F.up (by decide)
  refine a_aload_n C dX4_init_44 rfl (by decide) rfl ?_
  refine a_new C 6 rfl (by decide) rfl iX7 tyX7 tyX7_ok rfl (by decide) k_542 k_173 k_136 rfl F.at rfl rfl dX4_init_45 (fun z6 hz hf C => ?_)
  replace HF := hf_trans HF hz hf
  replace Z := Z.trans hz (by decide)
  replace F := F.le (n' := 114) (by decide)
  refine a_dup C (show ¬ (2 : Nat) = 1 by decide) dX4_init_48 ?_
  refine a_bipush C ⟨by decide, by decide⟩ (by decide) dX4_init_49 ?_
  refine a_callI C (av := [(0, 32)]) (np := 1) (ct_Row (by decide) rfl rfl (by decide) F) k_543 k_175 k_136 k_176 rfl hdI_X7_init rfl rfl rfl rfl rfl dX4_init_51 rfl rfl (by decide) (fun z7 h6 hz hf C e6 => ?_)
  replace HF := hf_trans HF hz hf
  replace Z := Z.trans hz (by decide)
  replace F : Fr shC 115 h6 := by rw [e6]; exact Fr.ups (F.le (by decide)) (by decide)
  refine a_putE C 3 5 rfl (by decide) rfl iX4 (by decide) k_552 tyX4 tyX4_ok nmX4 rfl rfl (Or.inr (Or.inr (Or.inr (Or.inl ⟨_, rfl⟩)))) rfl dX4_init_54 (by decide) rfl trivial (fun h7 e7 => ?_)
  replace F : Fr shC 115 h7 := by rw [e7]; exact F.up (by decide)
  refine a_aload_n C dX4_init_57 rfl (by decide) rfl ?_
  refine a_iconst C ⟨by decide, by decide⟩ dX4_init_58 ?_
  refine a_putE C 3 7 rfl (by decide) rfl iX4 (by decide) k_555 tyX4 tyX4_ok nmX4 rfl rfl (Or.inl rfl) rfl dX4_init_59 (by decide) rfl ⟨by decide, by decide⟩ (fun h8 e8 => ?_)
  replace F : Fr shC 115 h8 := by rw [e8]; exact F.up (by decide)
  exact a_ret C Z (by decide) HF hr dX4_init_62 (by rw [e8, e7, e6, e5, e4, e3, e2, e1]; rfl)
theorem ct_Ripples {l : Launch} {z : Mz} {h : Mh} (F : Fr shC 116 h) : aCal shC l yX6_init cX6_init 2 2 42 9 14512 z 116 125 [(2, ((115 : Nat) : Int)), (2, ((53 : Nat) : Int))] h (fun h' => h' = ups [(((115 : Nat) : Int), ((1 : Nat) : Int), ((116 : Nat) : Int)), (((115 : Nat) : Int), ((2 : Nat) : Int), ((117 : Nat) : Int)), (((115 : Nat) : Int), ((3 : Nat) : Int), ((118 : Nat) : Int)), (((115 : Nat) : Int), ((4 : Nat) : Int), ((119 : Nat) : Int)), (((115 : Nat) : Int), ((5 : Nat) : Int), ((120 : Nat) : Int)), (((121 : Nat) : Int), ((0 : Nat) : Int), ((122 : Nat) : Int)), (((115 : Nat) : Int), ((6 : Nat) : Int), ((121 : Nat) : Int)), (((123 : Nat) : Int), ((0 : Nat) : Int), ((124 : Nat) : Int)), (((115 : Nat) : Int), ((7 : Nat) : Int), ((123 : Nat) : Int)), (((115 : Nat) : Int), ((0 : Nat) : Int), ((53 : Nat) : Int))] h) := by
  refine a_entry RX6 rfl rfl (by decide) rfl (fun p e s m args below meth c C hr => ?_)
  have Z := zle.refl z 116
  have HF : ∀ i : Nat, 116 ≤ i → i < 116 → s.heap.size ≤ z.2.2.1 i := fun i a b => by omega
  show aG shC z 116 p l e _ s m args below meth c _ _ 0 0 0 [(0, (2, ((115 : Nat) : Int))), (1, (2, ((53 : Nat) : Int)))] [] h
  refine a_aload_n C dX6_init_0 rfl (by decide) rfl ?_
  refine a_objInit C (by decide) k_579 k_164 k_165 rfl rfl rfl dX6_init_1 ?_
  refine a_aload_n C dX6_init_4 rfl (by decide) rfl ?_
  refine a_sipush C ⟨by decide, by decide⟩ (by decide) dX6_init_5 ?_
  refine a_newi C 14 1 (atype := .int) (N' := 240) k_194 rfl rfl (by decide) rfl (by decide) rfl rfl (by decide) (by decide) F.at rfl rfl dX6_init_8 (fun z1 hz hf C => ?_)
  replace HF := hf_trans HF hz hf
  replace Z := Z.trans hz (by decide)
  replace F := F.le (n' := 117) (by decide)
  refine a_putE C 5 1 rfl (by decide) rfl iX6 (by decide) k_583 tyX6 tyX6_ok nmX6 rfl rfl (Or.inr (Or.inr (Or.inr (Or.inr ⟨_, rfl⟩)))) rfl dX6_init_10 (by decide) rfl trivial (fun h1 e1 => ?_)
  replace F : Fr shC 117 h1 := by rw [e1]; exact F.up (by decide)
  refine a_aload_n C dX6_init_13 rfl (by decide) rfl ?_
  refine a_sipush C ⟨by decide, by decide⟩ (by decide) dX6_init_14 ?_
  refine a_newi C 14 1 (atype := .int) (N' := 2304) k_194 rfl rfl (by decide) rfl (by decide) rfl rfl (by decide) (by decide) F.at rfl rfl dX6_init_17 (fun z2 hz hf C => ?_)
  replace HF := hf_trans HF hz hf
  replace Z := Z.trans hz (by decide)
  replace F := F.le (n' := 118) (by decide)
  refine a_putE C 5 2 rfl (by decide) rfl iX6 (by decide) k_584 tyX6 tyX6_ok nmX6 rfl rfl (Or.inr (Or.inr (Or.inr (Or.inr ⟨_, rfl⟩)))) rfl dX6_init_19 (by decide) rfl trivial (fun h2 e2 => ?_)
  replace F : Fr shC 118 h2 := by rw [e2]; exact F.up (by decide)
  refine a_aload_n C dX6_init_22 rfl (by decide) rfl ?_
  refine a_sipush C ⟨by decide, by decide⟩ (by decide) dX6_init_23 ?_
  refine a_newi C 14 1 (atype := .int) (N' := 2304) k_194 rfl rfl (by decide) rfl (by decide) rfl rfl (by decide) (by decide) F.at rfl rfl dX6_init_26 (fun z3 hz hf C => ?_)
  replace HF := hf_trans HF hz hf
  replace Z := Z.trans hz (by decide)
  replace F := F.le (n' := 119) (by decide)
  refine a_putE C 5 3 rfl (by decide) rfl iX6 (by decide) k_585 tyX6 tyX6_ok nmX6 rfl rfl (Or.inr (Or.inr (Or.inr (Or.inr ⟨_, rfl⟩)))) rfl dX6_init_28 (by decide) rfl trivial (fun h3 e3 => ?_)
  replace F : Fr shC 119 h3 := by rw [e3]; exact F.up (by decide)
  refine a_aload_n C dX6_init_31 rfl (by decide) rfl ?_
  refine a_bipush C ⟨by decide, by decide⟩ (by decide) dX6_init_32 ?_
  refine a_newi C 14 1 (atype := .int) (N' := 48) k_194 rfl rfl (by decide) rfl (by decide) rfl rfl (by decide) (by decide) F.at rfl rfl dX6_init_34 (fun z4 hz hf C => ?_)
  replace HF := hf_trans HF hz hf
  replace Z := Z.trans hz (by decide)
  replace F := F.le (n' := 120) (by decide)
  refine a_putE C 5 4 rfl (by decide) rfl iX6 (by decide) k_586 tyX6 tyX6_ok nmX6 rfl rfl (Or.inr (Or.inr (Or.inr (Or.inr ⟨_, rfl⟩)))) rfl dX6_init_36 (by decide) rfl trivial (fun h4 e4 => ?_)
  replace F : Fr shC 120 h4 := by rw [e4]; exact F.up (by decide)
  refine a_aload_n C dX6_init_39 rfl (by decide) rfl ?_
  refine a_sipush C ⟨by decide, by decide⟩ (by decide) dX6_init_40 ?_
  refine a_newi C 14 1 (atype := .int) (N' := 9600) k_194 rfl rfl (by decide) rfl (by decide) rfl rfl (by decide) (by decide) F.at rfl rfl dX6_init_43 (fun z5 hz hf C => ?_)
  replace HF := hf_trans HF hz hf
  replace Z := Z.trans hz (by decide)
  replace F := F.le (n' := 121) (by decide)
  refine a_putE C 5 5 rfl (by decide) rfl iX6 (by decide) k_587 tyX6 tyX6_ok nmX6 rfl rfl (Or.inr (Or.inr (Or.inr (Or.inr ⟨_, rfl⟩)))) rfl dX6_init_45 (by decide) rfl trivial (fun h5 e5 => ?_)
  replace F : Fr shC 121 h5 := by rw [e5]; exact F.up (by decide)
  refine a_aload_n C dX6_init_48 rfl (by decide) rfl ?_
  refine a_new C 6 rfl (by decide) rfl iX7 tyX7 tyX7_ok rfl (by decide) k_580 k_173 k_136 rfl F.at rfl rfl dX6_init_49 (fun z6 hz hf C => ?_)
  replace HF := hf_trans HF hz hf
  replace Z := Z.trans hz (by decide)
  replace F := F.le (n' := 122) (by decide)
  refine a_dup C (show ¬ (2 : Nat) = 1 by decide) dX6_init_52 ?_
  refine a_bipush C ⟨by decide, by decide⟩ (by decide) dX6_init_53 ?_
  refine a_callI C (av := [(0, 6)]) (np := 1) (ct_Row (by decide) rfl rfl (by decide) F) k_581 k_175 k_136 k_176 rfl hdI_X7_init rfl rfl rfl rfl rfl dX6_init_55 rfl rfl (by decide) (fun z7 h6 hz hf C e6 => ?_)
  replace HF := hf_trans HF hz hf
  replace Z := Z.trans hz (by decide)
  replace F : Fr shC 123 h6 := by rw [e6]; exact Fr.ups (F.le (by decide)) (by decide)
  refine a_putE C 5 6 rfl (by decide) rfl iX6 (by decide) k_588 tyX6 tyX6_ok nmX6 rfl rfl (Or.inr (Or.inr (Or.inr (Or.inl ⟨_, rfl⟩)))) rfl dX6_init_58 (by decide) rfl trivial (fun h7 e7 => ?_)
  replace F : Fr shC 123 h7 := by rw [e7]; exact F.up (by decide)
  refine a_aload_n C dX6_init_61 rfl (by decide) rfl ?_
  refine a_new C 6 rfl (by decide) rfl iX7 tyX7 tyX7_ok rfl (by decide) k_580 k_173 k_136 rfl F.at rfl rfl dX6_init_62 (fun z8 hz hf C => ?_)
  replace HF := hf_trans HF hz hf
  replace Z := Z.trans hz (by decide)
  replace F := F.le (n' := 124) (by decide)
  refine a_dup C (show ¬ (2 : Nat) = 1 by decide) dX6_init_65 ?_
  refine a_bipush C ⟨by decide, by decide⟩ (by decide) dX6_init_66 ?_
  refine a_callI C (av := [(0, 6)]) (np := 1) (ct_Row (by decide) rfl rfl (by decide) F) k_581 k_175 k_136 k_176 rfl hdI_X7_init rfl rfl rfl rfl rfl dX6_init_68 rfl rfl (by decide) (fun z9 h8 hz hf C e8 => ?_)
  replace HF := hf_trans HF hz hf
  replace Z := Z.trans hz (by decide)
  replace F : Fr shC 125 h8 := by rw [e8]; exact Fr.ups (F.le (by decide)) (by decide)
  refine a_putE C 5 7 rfl (by decide) rfl iX6 (by decide) k_589 tyX6 tyX6_ok nmX6 rfl rfl (Or.inr (Or.inr (Or.inr (Or.inl ⟨_, rfl⟩)))) rfl dX6_init_71 (by decide) rfl trivial (fun h9 e9 => ?_)
  replace F : Fr shC 125 h9 := by rw [e9]; exact F.up (by decide)
  refine a_aload_n C dX6_init_74 rfl (by decide) rfl ?_
  refine a_aload_n C dX6_init_75 rfl (by decide) rfl ?_
  refine a_putE C 5 0 rfl (by decide) rfl iX6 (by decide) k_582 tyX6 tyX6_ok nmX6 rfl rfl (Or.inr (Or.inr (Or.inr (Or.inl ⟨_, rfl⟩)))) rfl dX6_init_76 (by decide) rfl trivial (fun h10 e10 => ?_)
  replace F : Fr shC 125 h10 := by rw [e10]; exact F.up (by decide)
  exact a_ret C Z (by decide) HF hr dX6_init_79 (by rw [e10, e9, e8, e7, e6, e5, e4, e3, e2, e1]; rfl)
theorem ct_Skating {l : Launch} {z : Mz} {h : Mh} (F : Fr shC 126 h) : aCal shC l yX8_init cX8_init 3 1 20 1 101 z 126 127 [(2, ((125 : Nat) : Int)), (2, ((53 : Nat) : Int)), (2, ((115 : Nat) : Int))] h (fun h' => h' = ups [(((125 : Nat) : Int), ((2 : Nat) : Int), ((126 : Nat) : Int)), (((125 : Nat) : Int), ((0 : Nat) : Int), ((53 : Nat) : Int)), (((125 : Nat) : Int), ((1 : Nat) : Int), ((115 : Nat) : Int))] h) := by
  refine a_entry RX8 rfl rfl (by decide) rfl (fun p e s m args below meth c C hr => ?_)
  have Z := zle.refl z 126
  have HF : ∀ i : Nat, 126 ≤ i → i < 126 → s.heap.size ≤ z.2.2.1 i := fun i a b => by omega
  show aG shC z 126 p l e _ s m args below meth c _ _ 0 0 0 [(0, (2, ((125 : Nat) : Int))), (1, (2, ((53 : Nat) : Int))), (2, (2, ((115 : Nat) : Int)))] [] h
  refine a_aload_n C dX8_init_0 rfl (by decide) rfl ?_
  refine a_objInit C (by decide) k_612 k_164 k_165 rfl rfl rfl dX8_init_1 ?_
  refine a_aload_n C dX8_init_4 rfl (by decide) rfl ?_
  refine a_bipush C ⟨by decide, by decide⟩ (by decide) dX8_init_5 ?_
  refine a_newi C 14 1 (atype := .int) (N' := 101) k_194 rfl rfl (by decide) rfl (by decide) rfl rfl (by decide) (by decide) F.at rfl rfl dX8_init_7 (fun z1 hz hf C => ?_)
  replace HF := hf_trans HF hz hf
  replace Z := Z.trans hz (by decide)
  replace F := F.le (n' := 127) (by decide)
  refine a_putE C 7 2 rfl (by decide) rfl iX8 (by decide) k_615 tyX8 tyX8_ok nmX8 rfl rfl (Or.inr (Or.inr (Or.inr (Or.inr ⟨_, rfl⟩)))) rfl dX8_init_9 (by decide) rfl trivial (fun h1 e1 => ?_)
  replace F : Fr shC 127 h1 := by rw [e1]; exact F.up (by decide)
  refine a_aload_n C dX8_init_12 rfl (by decide) rfl ?_
  refine a_aload_n C dX8_init_13 rfl (by decide) rfl ?_
  refine a_putE C 7 0 rfl (by decide) rfl iX8 (by decide) k_613 tyX8 tyX8_ok nmX8 rfl rfl (Or.inr (Or.inr (Or.inr (Or.inl ⟨_, rfl⟩)))) rfl dX8_init_14 (by decide) rfl trivial (fun h2 e2 => ?_)
  replace F : Fr shC 127 h2 := by rw [e2]; exact F.up (by decide)
  refine a_aload_n C dX8_init_17 rfl (by decide) rfl ?_
  refine a_aload_n C dX8_init_18 rfl (by decide) rfl ?_
  refine a_putE C 7 1 rfl (by decide) rfl iX8 (by decide) k_614 tyX8 tyX8_ok nmX8 rfl rfl (Or.inr (Or.inr (Or.inr (Or.inl ⟨_, rfl⟩)))) rfl dX8_init_19 (by decide) rfl trivial (fun h3 e3 => ?_)
  replace F : Fr shC 127 h3 := by rw [e3]; exact F.up (by decide)
  exact a_ret C Z (by decide) HF hr dX8_init_22 (by rw [e3, e2, e1]; rfl)
theorem ct_Guesses {l : Launch} {z : Mz} {h : Mh} (F : Fr shC 128 h) : aCal shC l yX2_init cX2_init 4 2 42 14 1410 z 128 142 [(2, ((127 : Nat) : Int)), (2, ((53 : Nat) : Int)), (2, ((115 : Nat) : Int)), (2, ((107 : Nat) : Int))] h (fun h' => h' = ups [(((128 : Nat) : Int), ((0 : Nat) : Int), ((129 : Nat) : Int)), (((128 : Nat) : Int), ((1 : Nat) : Int), ((130 : Nat) : Int)), (((128 : Nat) : Int), ((2 : Nat) : Int), ((131 : Nat) : Int)), (((127 : Nat) : Int), ((3 : Nat) : Int), ((128 : Nat) : Int)), (((132 : Nat) : Int), ((0 : Nat) : Int), ((133 : Nat) : Int)), (((132 : Nat) : Int), ((1 : Nat) : Int), ((134 : Nat) : Int)), (((132 : Nat) : Int), ((2 : Nat) : Int), ((135 : Nat) : Int)), (((127 : Nat) : Int), ((4 : Nat) : Int), ((132 : Nat) : Int)), (((127 : Nat) : Int), ((5 : Nat) : Int), ((136 : Nat) : Int)), (((127 : Nat) : Int), ((6 : Nat) : Int), ((137 : Nat) : Int)), (((138 : Nat) : Int), ((0 : Nat) : Int), ((139 : Nat) : Int)), (((138 : Nat) : Int), ((1 : Nat) : Int), ((140 : Nat) : Int)), (((138 : Nat) : Int), ((2 : Nat) : Int), ((141 : Nat) : Int)), (((127 : Nat) : Int), ((7 : Nat) : Int), ((138 : Nat) : Int)), (((127 : Nat) : Int), ((0 : Nat) : Int), ((53 : Nat) : Int)), (((127 : Nat) : Int), ((1 : Nat) : Int), ((115 : Nat) : Int)), (((127 : Nat) : Int), ((2 : Nat) : Int), ((107 : Nat) : Int))] h) := by
  refine a_entry RX2 rfl rfl (by decide) rfl (fun p e s m args below meth c C hr => ?_)
  have Z := zle.refl z 128
  have HF : ∀ i : Nat, 128 ≤ i → i < 128 → s.heap.size ≤ z.2.2.1 i := fun i a b => by omega
  show aG shC z 128 p l e _ s m args below meth c _ _ 0 0 0 [(0, (2, ((127 : Nat) : Int))), (1, (2, ((53 : Nat) : Int))), (2, (2, ((115 : Nat) : Int))), (3, (2, ((107 : Nat) : Int)))] [] h
  refine a_aload_n C dX2_init_0 rfl (by decide) rfl ?_
  refine a_objInit C (by decide) k_636 k_164 k_165 rfl rfl rfl dX2_init_1 ?_
  refine a_aload_n C dX2_init_4 rfl (by decide) rfl ?_
  refine a_new C 0 rfl (by decide) rfl iX1 tyX1 tyX1_ok rfl (by decide) k_637 k_197 k_138 rfl F.at rfl rfl dX2_init_5 (fun z1 hz hf C => ?_)
  replace HF := hf_trans HF hz hf
  replace Z := Z.trans hz (by decide)
  replace F := F.le (n' := 129) (by decide)
  refine a_dup C (show ¬ (2 : Nat) = 1 by decide) dX2_init_8 ?_
  refine a_iconst C ⟨by decide, by decide⟩ dX2_init_9 ?_
  refine a_callI C (av := [(0, 1)]) (np := 1) (ct_Drops (by decide) rfl rfl rfl rfl (by decide) F) k_638 k_199 k_138 k_200 rfl hdI_X1_init rfl rfl rfl rfl rfl dX2_init_10 rfl rfl (by decide) (fun z2 h1 hz hf C e1 => ?_)
  replace HF := hf_trans HF hz hf
  replace Z := Z.trans hz (by decide)
  replace F : Fr shC 132 h1 := by rw [e1]; exact Fr.ups (F.le (by decide)) (by decide)
  refine a_putE C 1 3 rfl (by decide) rfl iX2 (by decide) k_642 tyX2 tyX2_ok nmX2 rfl rfl (Or.inr (Or.inr (Or.inr (Or.inl ⟨_, rfl⟩)))) rfl dX2_init_13 (by decide) rfl trivial (fun h2 e2 => ?_)
  replace F : Fr shC 132 h2 := by rw [e2]; exact F.up (by decide)
  refine a_aload_n C dX2_init_16 rfl (by decide) rfl ?_
  refine a_new C 0 rfl (by decide) rfl iX1 tyX1 tyX1_ok rfl (by decide) k_637 k_197 k_138 rfl F.at rfl rfl dX2_init_17 (fun z3 hz hf C => ?_)
  replace HF := hf_trans HF hz hf
  replace Z := Z.trans hz (by decide)
  replace F := F.le (n' := 133) (by decide)
  refine a_dup C (show ¬ (2 : Nat) = 1 by decide) dX2_init_20 ?_
  refine a_iconst C ⟨by decide, by decide⟩ dX2_init_21 ?_
  refine a_callI C (av := [(0, 1)]) (np := 1) (ct_Drops (by decide) rfl rfl rfl rfl (by decide) F) k_638 k_199 k_138 k_200 rfl hdI_X1_init rfl rfl rfl rfl rfl dX2_init_22 rfl rfl (by decide) (fun z4 h3 hz hf C e3 => ?_)
  replace HF := hf_trans HF hz hf
  replace Z := Z.trans hz (by decide)
  replace F : Fr shC 136 h3 := by rw [e3]; exact Fr.ups (F.le (by decide)) (by decide)
  refine a_putE C 1 4 rfl (by decide) rfl iX2 (by decide) k_644 tyX2 tyX2_ok nmX2 rfl rfl (Or.inr (Or.inr (Or.inr (Or.inl ⟨_, rfl⟩)))) rfl dX2_init_25 (by decide) rfl trivial (fun h4 e4 => ?_)
  replace F : Fr shC 136 h4 := by rw [e4]; exact F.up (by decide)
  refine a_aload_n C dX2_init_28 rfl (by decide) rfl ?_
  refine a_sipush C ⟨by decide, by decide⟩ (by decide) dX2_init_29 ?_
  refine a_newi C 14 1 (atype := .int) (N' := 744) k_194 rfl rfl (by decide) rfl (by decide) rfl rfl (by decide) (by decide) F.at rfl rfl dX2_init_32 (fun z5 hz hf C => ?_)
  replace HF := hf_trans HF hz hf
  replace Z := Z.trans hz (by decide)
  replace F := F.le (n' := 137) (by decide)
  refine a_putE C 1 5 rfl (by decide) rfl iX2 (by decide) k_646 tyX2 tyX2_ok nmX2 rfl rfl (Or.inr (Or.inr (Or.inr (Or.inr ⟨_, rfl⟩)))) rfl dX2_init_34 (by decide) rfl trivial (fun h5 e5 => ?_)
  replace F : Fr shC 137 h5 := by rw [e5]; exact F.up (by decide)
  refine a_aload_n C dX2_init_37 rfl (by decide) rfl ?_
  refine a_sipush C ⟨by decide, by decide⟩ (by decide) dX2_init_38 ?_
  refine a_newi C 14 1 (atype := .int) (N' := 576) k_194 rfl rfl (by decide) rfl (by decide) rfl rfl (by decide) (by decide) F.at rfl rfl dX2_init_41 (fun z6 hz hf C => ?_)
  replace HF := hf_trans HF hz hf
  replace Z := Z.trans hz (by decide)
  replace F := F.le (n' := 138) (by decide)
  refine a_putE C 1 6 rfl (by decide) rfl iX2 (by decide) k_647 tyX2 tyX2_ok nmX2 rfl rfl (Or.inr (Or.inr (Or.inr (Or.inr ⟨_, rfl⟩)))) rfl dX2_init_43 (by decide) rfl trivial (fun h6 e6 => ?_)
  replace F : Fr shC 138 h6 := by rw [e6]; exact F.up (by decide)
  refine a_aload_n C dX2_init_46 rfl (by decide) rfl ?_
  refine a_new C 0 rfl (by decide) rfl iX1 tyX1 tyX1_ok rfl (by decide) k_637 k_197 k_138 rfl F.at rfl rfl dX2_init_47 (fun z7 hz hf C => ?_)
  replace HF := hf_trans HF hz hf
  replace Z := Z.trans hz (by decide)
  replace F := F.le (n' := 139) (by decide)
  refine a_dup C (show ¬ (2 : Nat) = 1 by decide) dX2_init_50 ?_
  refine a_bipush C ⟨by decide, by decide⟩ (by decide) dX2_init_51 ?_
  refine a_callI C (av := [(0, 24)]) (np := 1) (ct_Drops (by decide) rfl rfl rfl rfl (by decide) F) k_638 k_199 k_138 k_200 rfl hdI_X1_init rfl rfl rfl rfl rfl dX2_init_53 rfl rfl (by decide) (fun z8 h7 hz hf C e7 => ?_)
  replace HF := hf_trans HF hz hf
  replace Z := Z.trans hz (by decide)
  replace F : Fr shC 142 h7 := by rw [e7]; exact Fr.ups (F.le (by decide)) (by decide)
  refine a_putE C 1 7 rfl (by decide) rfl iX2 (by decide) k_648 tyX2 tyX2_ok nmX2 rfl rfl (Or.inr (Or.inr (Or.inr (Or.inl ⟨_, rfl⟩)))) rfl dX2_init_56 (by decide) rfl trivial (fun h8 e8 => ?_)
  replace F : Fr shC 142 h8 := by rw [e8]; exact F.up (by decide)
  refine a_aload_n C dX2_init_59 rfl (by decide) rfl ?_
  refine a_aload_n C dX2_init_60 rfl (by decide) rfl ?_
  refine a_putE C 1 0 rfl (by decide) rfl iX2 (by decide) k_639 tyX2 tyX2_ok nmX2 rfl rfl (Or.inr (Or.inr (Or.inr (Or.inl ⟨_, rfl⟩)))) rfl dX2_init_61 (by decide) rfl trivial (fun h9 e9 => ?_)
  replace F : Fr shC 142 h9 := by rw [e9]; exact F.up (by decide)
  refine a_aload_n C dX2_init_64 rfl (by decide) rfl ?_
  refine a_aload_n C dX2_init_65 rfl (by decide) rfl ?_
  refine a_putE C 1 1 rfl (by decide) rfl iX2 (by decide) k_640 tyX2 tyX2_ok nmX2 rfl rfl (Or.inr (Or.inr (Or.inr (Or.inl ⟨_, rfl⟩)))) rfl dX2_init_66 (by decide) rfl trivial (fun h10 e10 => ?_)
  replace F : Fr shC 142 h10 := by rw [e10]; exact F.up (by decide)
  refine a_aload_n C dX2_init_69 rfl (by decide) rfl ?_
  refine a_aload_n C dX2_init_70 rfl (by decide) rfl ?_
  refine a_putE C 1 2 rfl (by decide) rfl iX2 (by decide) k_641 tyX2 tyX2_ok nmX2 rfl rfl (Or.inr (Or.inr (Or.inr (Or.inl ⟨_, rfl⟩)))) rfl dX2_init_71 (by decide) rfl trivial (fun h11 e11 => ?_)
  replace F : Fr shC 142 h11 := by rw [e11]; exact F.up (by decide)
  exact a_ret C Z (by decide) HF hr dX2_init_74 (by rw [e11, e10, e9, e8, e7, e6, e5, e4, e3, e2, e1]; rfl)
