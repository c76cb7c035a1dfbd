/-! ===== the class's own constructor ===== -/
theorem mfin_arr {k j : Nat} (h : 13 ≤ k) (h17 : ¬ k = 17) : mfin k j = false := by
  unfold mfin
  rw [show mcl[k]? = none from List.getElem?_eq_none h]
  simp [h17]
def glen (i : Nat) : Nat := if (shC i).1 < 13 ∨ (shC i).1 = 17 then alen (shC i) else 0
theorem wl_arr {L : List (Int × Int × Int)} {a b : Nat} (h : ∀ i : Nat, i < b → a ≤ i → ∀ j : Nat, j < glen i → mfin (shC i).1 j = true → look L i j none = some (wrC i j)) : ∀ i : Nat, i < b → a ≤ i → ∀ j : Nat, j < alen (shC i) → mfin (shC i).1 j = true → look L i j none = some (wrC i j) := fun i hi ha j hj hf => by
  by_cases k : (shC i).1 < 13 ∨ (shC i).1 = 17
  · exact h i hi ha j (by unfold glen; rw [if_pos k]; exact hj) hf
  · rw [mfin_arr (by omega) (by omega)] at hf; cases hf
def KFin (h : Mh) : Prop := (∀ i : Nat, i < 142 → ∀ j : Nat, j < alen (shC i) → mfin (shC i).1 j = true → h i j = wrC i j) ∧ h 0 1 = 0 ∧ h 0 2 = 2 ∧ h 46 2 = 0 ∧ h 46 3 = -1 ∧ h 53 0 = 54 ∧ h 53 1 = 0 ∧ h 53 5 = 0 ∧ h 53 7 = 0 ∧ h 53 8 = 1 ∧ h 53 9 = 1 ∧ h 98 3 = 0 ∧ h 107 6 = 0 ∧ h 107 7 = -1 ∧ clr 54 h h
set_option maxRecDepth 20000 in
theorem ct_Reader {l : Launch} {z : Mz} {h : Mh} (F : Fr shC 1 h) : aCal shC l yX13_init cX13_init 1 4 87 141 20464 z 1 142 [(2, ((0 : Nat) : Int))] h KFin := by
  obtain ⟨LT, eLT⟩ : ∃ LT : List (Int × Int × Int), LT = [(((46 : Nat) : Int), ((3 : Nat) : Int), (-1)), (((46 : Nat) : Int), ((10 : Nat) : Int), ((47 : Nat) : Int)), (((46 : Nat) : Int), ((11 : Nat) : Int), ((48 : Nat) : Int)), (((49 : Nat) : Int), ((1 : Nat) : Int), ((50 : Nat) : Int)), (((49 : Nat) : Int), ((2 : Nat) : Int), ((51 : Nat) : Int)), (((49 : Nat) : Int), ((3 : Nat) : Int), ((52 : Nat) : Int)), (((49 : Nat) : Int), ((0 : Nat) : Int), ((1 : Nat) : Int)), (((46 : Nat) : Int), ((0 : Nat) : Int), ((49 : Nat) : Int)), (((46 : Nat) : Int), ((1 : Nat) : Int), ((2 : Nat) : Int))] := ⟨_, rfl⟩
  have F0 := F
  refine a_entry RX13 rfl rfl (by decide) rfl (fun p e s m args below meth c C hr => ?_)
  have Z := zle.refl z 1
  have HF : ∀ i : Nat, 1 ≤ i → i < 1 → s.heap.size ≤ z.2.2.1 i := fun i a b => by omega
  show aG shC z 1 p l e _ s m args below meth c _ _ 0 0 0 [(0, (2, ((0 : Nat) : Int)))] [] h
  refine a_aload_n C dX13_init_0 rfl (by decide) rfl ?_
  refine a_objInit C (by decide) k_163 k_164 k_165 rfl rfl rfl dX13_init_1 ?_
  refine a_aload_n C dX13_init_4 rfl (by decide) rfl ?_
  refine a_sipush C ⟨by decide, by decide⟩ (by decide) dX13_init_5 ?_
  refine a_newi C 13 0 (atype := .byte) (N' := 800) k_193 rfl rfl (by decide) rfl (by decide) rfl rfl (by decide) (by decide) F.at rfl rfl dX13_init_8 (fun z1 hz hf C => ?_)
  replace HF := hf_trans HF hz hf
  replace Z := Z.trans hz (by decide)
  replace F := F.le (n' := 2) (by decide)
  refine a_putE C 11 0 rfl (by decide) rfl iX13 (by decide) k_677 tyX13 tyX13_ok nmX13 rfl rfl (Or.inr (Or.inr (Or.inr (Or.inr ⟨_, rfl⟩)))) rfl dX13_init_10 (by decide) rfl trivial (fun h1 e1 => ?_)
  replace F : Fr shC 2 h1 := by rw [e1]; exact F.up (by decide)
  have S1 : ∀ q : Int, ¬ q = 0 → h1 q = h q := fun q y => by rw [e1]; exact up_other (show q ≠ ((0 : Nat) : Int) from y)
  have C1_0 : h1 0 0 = 1 := by rw [e1]; exact up_same _ _ _ _
  refine a_aload_n C dX13_init_13 rfl (by decide) rfl ?_
  refine a_new C 4 rfl (by decide) rfl iX5 tyX5 tyX5_ok rfl (by decide) k_166 k_167 k_135 rfl F.at rfl rfl dX13_init_14 (fun z2 hz hf C => ?_)
  replace HF := hf_trans HF hz hf
  replace Z := Z.trans hz (by decide)
  replace F := F.le (n' := 3) (by decide)
  refine a_dup C (show ¬ (2 : Nat) = 1 by decide) dX13_init_17 ?_
  have HW2 : aWdX 2 h1 := by
    have hh : ∀ i : Nat, i < 2 → (shC i).1 ≠ 11 → ∀ j : Nat, j < alen (shC i) → mfin (shC i).1 j = false := by decide +kernel
    intro i hi a b j hj hf
    rw [hh i hi a j hj] at hf; cases hf
  refine a_callI C (av := []) (np := 0) (ct_Pond_2 F HW2) k_168 k_169 k_135 k_170 rfl hdI_X5_init rfl rfl rfl rfl rfl dX13_init_18 rfl rfl (by decide) (fun z3 h2 hz hf C e2 => ?_)
  replace HF := hf_trans HF hz hf
  replace Z := Z.trans hz (by decide)
  have S2 : ∀ q : Int, ¬ (2 ≤ q ∧ q < 46) → h2 q = h1 q := fun q y => e2.1 q (by omega)
  replace F : Fr shC 46 h2 := fun q j y => by rw [S2 q (by omega)]; exact F q j (by omega)
  have C2_0 : h2 0 0 = 1 := by rw [S2 0 (by decide)]; exact C1_0
  refine a_putE C 11 2 rfl (by decide) rfl iX13 (by decide) k_679 tyX13 tyX13_ok nmX13 rfl rfl (Or.inr (Or.inr (Or.inr (Or.inl ⟨_, rfl⟩)))) rfl dX13_init_21 (by decide) rfl trivial (fun h3 e3 => ?_)
  replace F : Fr shC 46 h3 := by rw [e3]; exact F.up (by decide)
  have S3 : ∀ q : Int, ¬ q = 0 → h3 q = h2 q := fun q y => by rw [e3]; exact up_other (show q ≠ ((0 : Nat) : Int) from y)
  have C3_0 : h3 0 0 = 1 := by rw [e3]; exact (up_slot (show (0 : Int) ≠ ((2 : Nat) : Int) by decide)).trans C2_0
  have C3_2 : h3 0 2 = 2 := by rw [e3]; exact up_same _ _ _ _
  refine a_aload_n C dX13_init_24 rfl (by decide) rfl ?_
  refine a_new C 8 rfl (by decide) rfl iX9 tyX9 tyX9_ok rfl (by decide) k_372 k_373 k_140 rfl F.at rfl rfl dX13_init_25 (fun z4 hz hf C => ?_)
  replace HF := hf_trans HF hz hf
  replace Z := Z.trans hz (by decide)
  replace F := F.le (n' := 47) (by decide)
  refine a_dup C (show ¬ (2 : Nat) = 1 by decide) dX13_init_28 ?_
  refine a_aload_n C dX13_init_29 rfl (by decide) rfl ?_
  refine a_get C 11 0 rfl (by decide) rfl iX13 (by decide) k_677 rfl dX13_init_30 (x := ((1 : Nat) : Int)) (by decide) rfl C3_0 ?_
  refine a_aload_n C dX13_init_33 rfl (by decide) rfl ?_
  refine a_get C 11 2 rfl (by decide) rfl iX13 (by decide) k_679 rfl dX13_init_34 (x := ((2 : Nat) : Int)) (by decide) rfl C3_2 ?_
  refine a_callI C (av := [(2, ((1 : Nat) : Int)), (2, ((2 : Nat) : Int))]) (np := 2) (ct_Text F) k_374 k_375 k_140 k_376 rfl hdI_X9_init rfl rfl rfl rfl rfl dX13_init_37 rfl rfl (by decide) (fun z5 h4 hz hf C e4 => ?_)
  replace HF := hf_trans HF hz hf
  replace Z := Z.trans hz (by decide)
  replace F : Fr shC 53 h4 := by rw [e4]; exact Fr.ups (F.le (by decide)) (by decide)
  have S4 : ∀ q : Int, ¬ (46 ≤ q ∧ q < 53) → h4 q = h3 q := fun q y => by
    rw [e4]
    rcases Int.lt_or_le q 46 with t | t
    · exact ups_lo (by decide +kernel) t
    · exact ups_hi (b := 53) (by decide +kernel) (by omega)
  have C4_0 : h4 0 0 = 1 := by rw [S4 0 (by decide)]; exact C3_0
  have C4_2 : h4 0 2 = 2 := by rw [S4 0 (by decide)]; exact C3_2
  refine a_putE C 11 3 rfl (by decide) rfl iX13 (by decide) k_680 tyX13 tyX13_ok nmX13 rfl rfl (Or.inr (Or.inr (Or.inr (Or.inl ⟨_, rfl⟩)))) rfl dX13_init_40 (by decide) rfl trivial (fun h5 e5 => ?_)
  replace F : Fr shC 53 h5 := by rw [e5]; exact F.up (by decide)
  have S5 : ∀ q : Int, ¬ q = 0 → h5 q = h4 q := fun q y => by rw [e5]; exact up_other (show q ≠ ((0 : Nat) : Int) from y)
  have C5_0 : h5 0 0 = 1 := by rw [e5]; exact (up_slot (show (0 : Int) ≠ ((3 : Nat) : Int) by decide)).trans C4_0
  have C5_2 : h5 0 2 = 2 := by rw [e5]; exact (up_slot (show (2 : Int) ≠ ((3 : Nat) : Int) by decide)).trans C4_2
  have C5_3 : h5 0 3 = 46 := by rw [e5]; exact up_same _ _ _ _
  refine a_aload_n C dX13_init_43 rfl (by decide) rfl ?_
  refine a_new C 10 rfl (by decide) rfl iX11 tyX11 tyX11_ok rfl (by decide) k_473 k_474 k_142 rfl F.at rfl rfl dX13_init_44 (fun z6 hz hf C => ?_)
  replace HF := hf_trans HF hz hf
  replace Z := Z.trans hz (by decide)
  replace F := F.le (n' := 54) (by decide)
  refine a_dup C (show ¬ (2 : Nat) = 1 by decide) dX13_init_47 ?_
  refine a_new C 4 rfl (by decide) rfl iX5 tyX5 tyX5_ok rfl (by decide) k_166 k_167 k_135 rfl F.at rfl rfl dX13_init_48 (fun z7 hz hf C => ?_)
  replace HF := hf_trans HF hz hf
  replace Z := Z.trans hz (by decide)
  replace F := F.le (n' := 55) (by decide)
  refine a_dup C (show ¬ (2 : Nat) = 1 by decide) dX13_init_51 ?_
  have HW54 : aWdX 54 h5 := by
    intro i hi a b j hj hf
    have hh : ∀ i : Nat, i < 2 → (shC i).1 ≠ 11 → ∀ j : Nat, j < alen (shC i) → mfin (shC i).1 j = false := by decide +kernel
    by_cases t2 : i < 2
    · rw [hh i t2 a j hj] at hf; cases hf
    · have t53 : ¬ i = 53 := fun y => b (by rw [y]; rfl)
      by_cases t46 : i < 46
      · rw [S5 i (by omega), S4 i (by omega), S3 i (by omega)]; exact e2.2.1 i (by omega) (by omega) j hj hf
      · rw [S5 i (by omega), e4]
        have wL := wl_arr (L := LT) (a := 46) (b := 53) (by rw [eLT]; decide +kernel)
        rw [← eLT]
        exact ups_look LT _ i j none _ (fun v y => by cases y) (wL i (by omega) (by omega) j hj hf)
  refine a_callI C (av := []) (np := 0) (ct_Pond_54 F HW54) k_168 k_169 k_135 k_170 rfl hdI_X5_init rfl rfl rfl rfl rfl dX13_init_52 rfl rfl (by decide) (fun z8 h6 hz hf C e6 => ?_)
  replace HF := hf_trans HF hz hf
  replace Z := Z.trans hz (by decide)
  have S6 : ∀ q : Int, ¬ (54 ≤ q ∧ q < 98) → h6 q = h5 q := fun q y => e6.1 q (by omega)
  replace F : Fr shC 98 h6 := fun q j y => by rw [S6 q (by omega)]; exact F q j (by omega)
  have C6_0 : h6 0 0 = 1 := by rw [S6 0 (by decide)]; exact C5_0
  have C6_2 : h6 0 2 = 2 := by rw [S6 0 (by decide)]; exact C5_2
  have C6_3 : h6 0 3 = 46 := by rw [S6 0 (by decide)]; exact C5_3
  have HW98 : aWdX 98 h6 := by
    intro i hi a b j hj hf
    by_cases t : i < 54
    · rw [S6 i (by omega)]; exact HW54 i t a b j hj hf
    · exact e6.2.1 i (by omega) (by omega) j hj hf
  have h87 : h6 87 3 = 0 := by
    obtain ⟨g, hg⟩ := e6.2.2
    exact hg.2.2.2.2.2.2.2.2.2.2.2.2.2.2.2.2.1
  refine a_callI C (av := [(2, ((54 : Nat) : Int))]) (np := 1) (ct_Water F HW98 h87) k_475 k_476 k_142 k_477 rfl hdI_X11_init rfl rfl rfl rfl rfl dX13_init_55 rfl rfl (by decide) (fun z9 h7 hz hf C e7 => ?_)
  replace HF := hf_trans HF hz hf
  replace Z := Z.trans hz (by decide)
  have S7 : ∀ q : Int, ¬ (q = 53 ∨ (98 ≤ q ∧ q < 107)) → h7 q = h6 q := fun q y => e7.1 q (by omega) (by omega)
  replace F : Fr shC 107 h7 := fun q j y => by rw [S7 q (by omega)]; exact F q j (by omega)
  have C7_0 : h7 0 0 = 1 := by rw [S7 0 (by decide)]; exact C6_0
  have C7_2 : h7 0 2 = 2 := by rw [S7 0 (by decide)]; exact C6_2
  have C7_3 : h7 0 3 = 46 := by rw [S7 0 (by decide)]; exact C6_3
  refine a_putE C 11 4 rfl (by decide) rfl iX13 (by decide) k_681 tyX13 tyX13_ok nmX13 rfl rfl (Or.inr (Or.inr (Or.inr (Or.inl ⟨_, rfl⟩)))) rfl dX13_init_58 (by decide) rfl trivial (fun h8 e8 => ?_)
  replace F : Fr shC 107 h8 := by rw [e8]; exact F.up (by decide)
  have S8 : ∀ q : Int, ¬ q = 0 → h8 q = h7 q := fun q y => by rw [e8]; exact up_other (show q ≠ ((0 : Nat) : Int) from y)
  have C8_0 : h8 0 0 = 1 := by rw [e8]; exact (up_slot (show (0 : Int) ≠ ((4 : Nat) : Int) by decide)).trans C7_0
  have C8_2 : h8 0 2 = 2 := by rw [e8]; exact (up_slot (show (2 : Int) ≠ ((4 : Nat) : Int) by decide)).trans C7_2
  have C8_3 : h8 0 3 = 46 := by rw [e8]; exact (up_slot (show (3 : Int) ≠ ((4 : Nat) : Int) by decide)).trans C7_3
  have C8_4 : h8 0 4 = 53 := by rw [e8]; exact up_same _ _ _ _
  refine a_aload_n C dX13_init_61 rfl (by decide) rfl ?_
  refine a_new C 3 rfl (by decide) rfl iX4 tyX4 tyX4_ok rfl (by decide) k_536 k_537 k_143 rfl F.at rfl rfl dX13_init_62 (fun z10 hz hf C => ?_)
  replace HF := hf_trans HF hz hf
  replace Z := Z.trans hz (by decide)
  replace F := F.le (n' := 108) (by decide)
  refine a_dup C (show ¬ (2 : Nat) = 1 by decide) dX13_init_65 ?_
  refine a_callIN C (av := []) (np := 0) (ct_Notes F) k_538 k_539 k_143 k_540 rfl hdI_X4_init rfl rfl rfl rfl rfl dX13_init_66 rfl rfl (by decide) (fun z11 h9 hz hf C e9 => ?_)
  replace HF := hf_trans HF hz hf
  replace Z := Z.trans hz (by decide)
  replace F : Fr shC 115 h9 := by rw [e9]; exact Fr.ups (F.le (by decide)) (by decide)
  have S9 : ∀ q : Int, ¬ (107 ≤ q ∧ q < 115) → h9 q = h8 q := fun q y => by
    rw [e9]
    rcases Int.lt_or_le q 107 with t | t
    · exact ups_lo (by decide +kernel) t
    · exact ups_hi (b := 115) (by decide +kernel) (by omega)
  have C9_0 : h9 0 0 = 1 := by rw [S9 0 (by decide)]; exact C8_0
  have C9_2 : h9 0 2 = 2 := by rw [S9 0 (by decide)]; exact C8_2
  have C9_3 : h9 0 3 = 46 := by rw [S9 0 (by decide)]; exact C8_3
  have C9_4 : h9 0 4 = 53 := by rw [S9 0 (by decide)]; exact C8_4
  refine a_putE C 11 5 rfl (by decide) rfl iX13 (by decide) k_682 tyX13 tyX13_ok nmX13 rfl rfl (Or.inr (Or.inr (Or.inr (Or.inl ⟨_, rfl⟩)))) rfl dX13_init_69 (by decide) rfl trivial (fun h10 e10 => ?_)
  replace F : Fr shC 115 h10 := by rw [e10]; exact F.up (by decide)
  have S10 : ∀ q : Int, ¬ q = 0 → h10 q = h9 q := fun q y => by rw [e10]; exact up_other (show q ≠ ((0 : Nat) : Int) from y)
  have C10_0 : h10 0 0 = 1 := by rw [e10]; exact (up_slot (show (0 : Int) ≠ ((5 : Nat) : Int) by decide)).trans C9_0
  have C10_2 : h10 0 2 = 2 := by rw [e10]; exact (up_slot (show (2 : Int) ≠ ((5 : Nat) : Int) by decide)).trans C9_2
  have C10_3 : h10 0 3 = 46 := by rw [e10]; exact (up_slot (show (3 : Int) ≠ ((5 : Nat) : Int) by decide)).trans C9_3
  have C10_4 : h10 0 4 = 53 := by rw [e10]; exact (up_slot (show (4 : Int) ≠ ((5 : Nat) : Int) by decide)).trans C9_4
  have C10_5 : h10 0 5 = 107 := by rw [e10]; exact up_same _ _ _ _
  refine a_aload_n C dX13_init_72 rfl (by decide) rfl ?_
  refine a_new C 5 rfl (by decide) rfl iX6 tyX6 tyX6_ok rfl (by decide) k_574 k_575 k_144 rfl F.at rfl rfl dX13_init_73 (fun z12 hz hf C => ?_)
  replace HF := hf_trans HF hz hf
  replace Z := Z.trans hz (by decide)
  replace F := F.le (n' := 116) (by decide)
  refine a_dup C (show ¬ (2 : Nat) = 1 by decide) dX13_init_76 ?_
  refine a_aload_n C dX13_init_77 rfl (by decide) rfl ?_
  refine a_get C 11 4 rfl (by decide) rfl iX13 (by decide) k_681 rfl dX13_init_78 (x := ((53 : Nat) : Int)) (by decide) rfl C10_4 ?_
  refine a_callI C (av := [(2, ((53 : Nat) : Int))]) (np := 1) (ct_Ripples F) k_576 k_577 k_144 k_578 rfl hdI_X6_init rfl rfl rfl rfl rfl dX13_init_81 rfl rfl (by decide) (fun z13 h11 hz hf C e11 => ?_)
  replace HF := hf_trans HF hz hf
  replace Z := Z.trans hz (by decide)
  replace F : Fr shC 125 h11 := by rw [e11]; exact Fr.ups (F.le (by decide)) (by decide)
  have S11 : ∀ q : Int, ¬ (115 ≤ q ∧ q < 125) → h11 q = h10 q := fun q y => by
    rw [e11]
    rcases Int.lt_or_le q 115 with t | t
    · exact ups_lo (by decide +kernel) t
    · exact ups_hi (b := 125) (by decide +kernel) (by omega)
  have C11_0 : h11 0 0 = 1 := by rw [S11 0 (by decide)]; exact C10_0
  have C11_2 : h11 0 2 = 2 := by rw [S11 0 (by decide)]; exact C10_2
  have C11_3 : h11 0 3 = 46 := by rw [S11 0 (by decide)]; exact C10_3
  have C11_4 : h11 0 4 = 53 := by rw [S11 0 (by decide)]; exact C10_4
  have C11_5 : h11 0 5 = 107 := by rw [S11 0 (by decide)]; exact C10_5
  refine a_putE C 11 6 rfl (by decide) rfl iX13 (by decide) k_683 tyX13 tyX13_ok nmX13 rfl rfl (Or.inr (Or.inr (Or.inr (Or.inl ⟨_, rfl⟩)))) rfl dX13_init_84 (by decide) rfl trivial (fun h12 e12 => ?_)
  replace F : Fr shC 125 h12 := by rw [e12]; exact F.up (by decide)
  have S12 : ∀ q : Int, ¬ q = 0 → h12 q = h11 q := fun q y => by rw [e12]; exact up_other (show q ≠ ((0 : Nat) : Int) from y)
  have C12_0 : h12 0 0 = 1 := by rw [e12]; exact (up_slot (show (0 : Int) ≠ ((6 : Nat) : Int) by decide)).trans C11_0
  have C12_2 : h12 0 2 = 2 := by rw [e12]; exact (up_slot (show (2 : Int) ≠ ((6 : Nat) : Int) by decide)).trans C11_2
  have C12_3 : h12 0 3 = 46 := by rw [e12]; exact (up_slot (show (3 : Int) ≠ ((6 : Nat) : Int) by decide)).trans C11_3
  have C12_4 : h12 0 4 = 53 := by rw [e12]; exact (up_slot (show (4 : Int) ≠ ((6 : Nat) : Int) by decide)).trans C11_4
  have C12_5 : h12 0 5 = 107 := by rw [e12]; exact (up_slot (show (5 : Int) ≠ ((6 : Nat) : Int) by decide)).trans C11_5
  have C12_6 : h12 0 6 = 115 := by rw [e12]; exact up_same _ _ _ _
  refine a_aload_n C dX13_init_87 rfl (by decide) rfl ?_
  refine a_new C 7 rfl (by decide) rfl iX8 tyX8 tyX8_ok rfl (by decide) k_607 k_608 k_145 rfl F.at rfl rfl dX13_init_88 (fun z14 hz hf C => ?_)
  replace HF := hf_trans HF hz hf
  replace Z := Z.trans hz (by decide)
  replace F := F.le (n' := 126) (by decide)
  refine a_dup C (show ¬ (2 : Nat) = 1 by decide) dX13_init_91 ?_
  refine a_aload_n C dX13_init_92 rfl (by decide) rfl ?_
  refine a_get C 11 4 rfl (by decide) rfl iX13 (by decide) k_681 rfl dX13_init_93 (x := ((53 : Nat) : Int)) (by decide) rfl C12_4 ?_
  refine a_aload_n C dX13_init_96 rfl (by decide) rfl ?_
  refine a_get C 11 6 rfl (by decide) rfl iX13 (by decide) k_683 rfl dX13_init_97 (x := ((115 : Nat) : Int)) (by decide) rfl C12_6 ?_
  refine a_callI C (av := [(2, ((53 : Nat) : Int)), (2, ((115 : Nat) : Int))]) (np := 2) (ct_Skating F) k_609 k_610 k_145 k_611 rfl hdI_X8_init rfl rfl rfl rfl rfl dX13_init_100 rfl rfl (by decide) (fun z15 h13 hz hf C e13 => ?_)
  replace HF := hf_trans HF hz hf
  replace Z := Z.trans hz (by decide)
  replace F : Fr shC 127 h13 := by rw [e13]; exact Fr.ups (F.le (by decide)) (by decide)
  have S13 : ∀ q : Int, ¬ (125 ≤ q ∧ q < 127) → h13 q = h12 q := fun q y => by
    rw [e13]
    rcases Int.lt_or_le q 125 with t | t
    · exact ups_lo (by decide +kernel) t
    · exact ups_hi (b := 127) (by decide +kernel) (by omega)
  have C13_0 : h13 0 0 = 1 := by rw [S13 0 (by decide)]; exact C12_0
  have C13_2 : h13 0 2 = 2 := by rw [S13 0 (by decide)]; exact C12_2
  have C13_3 : h13 0 3 = 46 := by rw [S13 0 (by decide)]; exact C12_3
  have C13_4 : h13 0 4 = 53 := by rw [S13 0 (by decide)]; exact C12_4
  have C13_5 : h13 0 5 = 107 := by rw [S13 0 (by decide)]; exact C12_5
  have C13_6 : h13 0 6 = 115 := by rw [S13 0 (by decide)]; exact C12_6
  refine a_putE C 11 7 rfl (by decide) rfl iX13 (by decide) k_684 tyX13 tyX13_ok nmX13 rfl rfl (Or.inr (Or.inr (Or.inr (Or.inl ⟨_, rfl⟩)))) rfl dX13_init_103 (by decide) rfl trivial (fun h14 e14 => ?_)
  replace F : Fr shC 127 h14 := by rw [e14]; exact F.up (by decide)
  have S14 : ∀ q : Int, ¬ q = 0 → h14 q = h13 q := fun q y => by rw [e14]; exact up_other (show q ≠ ((0 : Nat) : Int) from y)
  have C14_0 : h14 0 0 = 1 := by rw [e14]; exact (up_slot (show (0 : Int) ≠ ((7 : Nat) : Int) by decide)).trans C13_0
  have C14_2 : h14 0 2 = 2 := by rw [e14]; exact (up_slot (show (2 : Int) ≠ ((7 : Nat) : Int) by decide)).trans C13_2
  have C14_3 : h14 0 3 = 46 := by rw [e14]; exact (up_slot (show (3 : Int) ≠ ((7 : Nat) : Int) by decide)).trans C13_3
  have C14_4 : h14 0 4 = 53 := by rw [e14]; exact (up_slot (show (4 : Int) ≠ ((7 : Nat) : Int) by decide)).trans C13_4
  have C14_5 : h14 0 5 = 107 := by rw [e14]; exact (up_slot (show (5 : Int) ≠ ((7 : Nat) : Int) by decide)).trans C13_5
  have C14_6 : h14 0 6 = 115 := by rw [e14]; exact (up_slot (show (6 : Int) ≠ ((7 : Nat) : Int) by decide)).trans C13_6
  have C14_7 : h14 0 7 = 125 := by rw [e14]; exact up_same _ _ _ _
  refine a_aload_n C dX13_init_106 rfl (by decide) rfl ?_
  refine a_new C 1 rfl (by decide) rfl iX2 tyX2 tyX2_ok rfl (by decide) k_631 k_632 k_146 rfl F.at rfl rfl dX13_init_107 (fun z16 hz hf C => ?_)
  replace HF := hf_trans HF hz hf
  replace Z := Z.trans hz (by decide)
  replace F := F.le (n' := 128) (by decide)
  refine a_dup C (show ¬ (2 : Nat) = 1 by decide) dX13_init_110 ?_
  refine a_aload_n C dX13_init_111 rfl (by decide) rfl ?_
  refine a_get C 11 4 rfl (by decide) rfl iX13 (by decide) k_681 rfl dX13_init_112 (x := ((53 : Nat) : Int)) (by decide) rfl C14_4 ?_
  refine a_aload_n C dX13_init_115 rfl (by decide) rfl ?_
  refine a_get C 11 6 rfl (by decide) rfl iX13 (by decide) k_683 rfl dX13_init_116 (x := ((115 : Nat) : Int)) (by decide) rfl C14_6 ?_
  refine a_aload_n C dX13_init_119 rfl (by decide) rfl ?_
  refine a_get C 11 5 rfl (by decide) rfl iX13 (by decide) k_682 rfl dX13_init_120 (x := ((107 : Nat) : Int)) (by decide) rfl C14_5 ?_
  refine a_callI C (av := [(2, ((53 : Nat) : Int)), (2, ((115 : Nat) : Int)), (2, ((107 : Nat) : Int))]) (np := 3) (ct_Guesses F) k_633 k_634 k_146 k_635 rfl hdI_X2_init rfl rfl rfl rfl rfl dX13_init_123 rfl rfl (by decide) (fun z17 h15 hz hf C e15 => ?_)
  replace HF := hf_trans HF hz hf
  replace Z := Z.trans hz (by decide)
  replace F : Fr shC 142 h15 := by rw [e15]; exact Fr.ups (F.le (by decide)) (by decide)
  have S15 : ∀ q : Int, ¬ (127 ≤ q ∧ q < 142) → h15 q = h14 q := fun q y => by
    rw [e15]
    rcases Int.lt_or_le q 127 with t | t
    · exact ups_lo (by decide +kernel) t
    · exact ups_hi (b := 142) (by decide +kernel) (by omega)
  have C15_0 : h15 0 0 = 1 := by rw [S15 0 (by decide)]; exact C14_0
  have C15_2 : h15 0 2 = 2 := by rw [S15 0 (by decide)]; exact C14_2
  have C15_3 : h15 0 3 = 46 := by rw [S15 0 (by decide)]; exact C14_3
  have C15_4 : h15 0 4 = 53 := by rw [S15 0 (by decide)]; exact C14_4
  have C15_5 : h15 0 5 = 107 := by rw [S15 0 (by decide)]; exact C14_5
  have C15_6 : h15 0 6 = 115 := by rw [S15 0 (by decide)]; exact C14_6
  have C15_7 : h15 0 7 = 125 := by rw [S15 0 (by decide)]; exact C14_7
  refine a_putE C 11 8 rfl (by decide) rfl iX13 (by decide) k_685 tyX13 tyX13_ok nmX13 rfl rfl (Or.inr (Or.inr (Or.inr (Or.inl ⟨_, rfl⟩)))) rfl dX13_init_126 (by decide) rfl trivial (fun h16 e16 => ?_)
  replace F : Fr shC 142 h16 := by rw [e16]; exact F.up (by decide)
  have S16 : ∀ q : Int, ¬ q = 0 → h16 q = h15 q := fun q y => by rw [e16]; exact up_other (show q ≠ ((0 : Nat) : Int) from y)
  have C16_0 : h16 0 0 = 1 := by rw [e16]; exact (up_slot (show (0 : Int) ≠ ((8 : Nat) : Int) by decide)).trans C15_0
  have C16_2 : h16 0 2 = 2 := by rw [e16]; exact (up_slot (show (2 : Int) ≠ ((8 : Nat) : Int) by decide)).trans C15_2
  have C16_3 : h16 0 3 = 46 := by rw [e16]; exact (up_slot (show (3 : Int) ≠ ((8 : Nat) : Int) by decide)).trans C15_3
  have C16_4 : h16 0 4 = 53 := by rw [e16]; exact (up_slot (show (4 : Int) ≠ ((8 : Nat) : Int) by decide)).trans C15_4
  have C16_5 : h16 0 5 = 107 := by rw [e16]; exact (up_slot (show (5 : Int) ≠ ((8 : Nat) : Int) by decide)).trans C15_5
  have C16_6 : h16 0 6 = 115 := by rw [e16]; exact (up_slot (show (6 : Int) ≠ ((8 : Nat) : Int) by decide)).trans C15_6
  have C16_7 : h16 0 7 = 125 := by rw [e16]; exact (up_slot (show (7 : Int) ≠ ((8 : Nat) : Int) by decide)).trans C15_7
  have C16_8 : h16 0 8 = 127 := by rw [e16]; exact up_same _ _ _ _
  refine a_aload_n C dX13_init_129 rfl (by decide) rfl ?_
  refine a_iconst C ⟨by decide, by decide⟩ dX13_init_130 ?_
  refine a_putE C 11 1 rfl (by decide) rfl iX13 (by decide) k_678 tyX13 tyX13_ok nmX13 rfl rfl (Or.inl rfl) rfl dX13_init_131 (by decide) rfl ⟨by decide, by decide⟩ (fun h17 e17 => ?_)
  replace F : Fr shC 142 h17 := by rw [e17]; exact F.up (by decide)
  have S17 : ∀ q : Int, ¬ q = 0 → h17 q = h16 q := fun q y => by rw [e17]; exact up_other (show q ≠ ((0 : Nat) : Int) from y)
  have C17_0 : h17 0 0 = 1 := by rw [e17]; exact (up_slot (show (0 : Int) ≠ ((1 : Nat) : Int) by decide)).trans C16_0
  have C17_1 : h17 0 1 = 0 := by rw [e17]; exact up_same _ _ _ _
  have C17_2 : h17 0 2 = 2 := by rw [e17]; exact (up_slot (show (2 : Int) ≠ ((1 : Nat) : Int) by decide)).trans C16_2
  have C17_3 : h17 0 3 = 46 := by rw [e17]; exact (up_slot (show (3 : Int) ≠ ((1 : Nat) : Int) by decide)).trans C16_3
  have C17_4 : h17 0 4 = 53 := by rw [e17]; exact (up_slot (show (4 : Int) ≠ ((1 : Nat) : Int) by decide)).trans C16_4
  have C17_5 : h17 0 5 = 107 := by rw [e17]; exact (up_slot (show (5 : Int) ≠ ((1 : Nat) : Int) by decide)).trans C16_5
  have C17_6 : h17 0 6 = 115 := by rw [e17]; exact (up_slot (show (6 : Int) ≠ ((1 : Nat) : Int) by decide)).trans C16_6
  have C17_7 : h17 0 7 = 125 := by rw [e17]; exact (up_slot (show (7 : Int) ≠ ((1 : Nat) : Int) by decide)).trans C16_7
  have C17_8 : h17 0 8 = 127 := by rw [e17]; exact (up_slot (show (8 : Int) ≠ ((1 : Nat) : Int) by decide)).trans C16_8
  have R2 : ∀ q : Int, 2 ≤ q → q < 46 → h17 q = h2 q := fun q y z => by rw [S17 q (by omega), S16 q (by omega), S15 q (by omega), S14 q (by omega), S13 q (by omega), S12 q (by omega), S11 q (by omega), S10 q (by omega), S9 q (by omega), S8 q (by omega), S7 q (by omega), S6 q (by omega), S5 q (by omega), S4 q (by omega), S3 q (by omega)]
  have R46 : ∀ q : Int, 46 ≤ q → q < 53 → h17 q = h4 q := fun q y z => by rw [S17 q (by omega), S16 q (by omega), S15 q (by omega), S14 q (by omega), S13 q (by omega), S12 q (by omega), S11 q (by omega), S10 q (by omega), S9 q (by omega), S8 q (by omega), S7 q (by omega), S6 q (by omega), S5 q (by omega)]
  have R54 : ∀ q : Int, 54 ≤ q → q < 98 → h17 q = h6 q := fun q y z => by rw [S17 q (by omega), S16 q (by omega), S15 q (by omega), S14 q (by omega), S13 q (by omega), S12 q (by omega), S11 q (by omega), S10 q (by omega), S9 q (by omega), S8 q (by omega), S7 q (by omega)]
  have R53 : ∀ q : Int, 53 ≤ q → q < 54 → h17 q = h7 q := fun q y z => by rw [S17 q (by omega), S16 q (by omega), S15 q (by omega), S14 q (by omega), S13 q (by omega), S12 q (by omega), S11 q (by omega), S10 q (by omega), S9 q (by omega), S8 q (by omega)]
  have R98 : ∀ q : Int, 98 ≤ q → q < 107 → h17 q = h7 q := fun q y z => by rw [S17 q (by omega), S16 q (by omega), S15 q (by omega), S14 q (by omega), S13 q (by omega), S12 q (by omega), S11 q (by omega), S10 q (by omega), S9 q (by omega), S8 q (by omega)]
  have R107 : ∀ q : Int, 107 ≤ q → q < 115 → h17 q = h9 q := fun q y z => by rw [S17 q (by omega), S16 q (by omega), S15 q (by omega), S14 q (by omega), S13 q (by omega), S12 q (by omega), S11 q (by omega), S10 q (by omega)]
  have R115 : ∀ q : Int, 115 ≤ q → q < 125 → h17 q = h11 q := fun q y z => by rw [S17 q (by omega), S16 q (by omega), S15 q (by omega), S14 q (by omega), S13 q (by omega), S12 q (by omega)]
  have R125 : ∀ q : Int, 125 ≤ q → q < 127 → h17 q = h13 q := fun q y z => by rw [S17 q (by omega), S16 q (by omega), S15 q (by omega), S14 q (by omega)]
  have R127 : ∀ q : Int, 127 ≤ q → q < 142 → h17 q = h15 q := fun q y z => by rw [S17 q (by omega), S16 q (by omega)]
  have V46 : h17 46 2 = 0 := by
    rw [R46 46 (by decide) (by decide), e4, look_none _ _ _ _ (by decide +kernel), S3 46 (by decide), S2 46 (by decide), S1 46 (by decide), F0 46 2 (by decide)]
    rfl
  have V46b : h17 46 3 = -1 := by rw [R46 46 (by decide) (by decide), e4]; exact ups_look _ _ 46 3 none _ (fun v y => by cases y) (by decide +kernel)
  have V107 : h17 107 6 = 0 := by
    rw [R107 107 (by decide) (by decide), e9, look_none _ _ _ _ (by decide +kernel), S8 107 (by decide), S7 107 (by decide), S6 107 (by decide), S5 107 (by decide), S4 107 (by decide), S3 107 (by decide), S2 107 (by decide), S1 107 (by decide), F0 107 6 (by decide)]
    rfl
  have V107b : h17 107 7 = -1 := by rw [R107 107 (by decide) (by decide), e9]; exact ups_look _ _ 107 7 none _ (fun v y => by cases y) (by decide +kernel)
  obtain ⟨g6, c6⟩ := e6.2.2
  have R54b : ∀ q : Int, 54 ≤ q → q ≤ 93 → h17 q = h6 q := fun q y z => R54 q y (by omega)
  refine a_ret C Z (by decide) HF hr dX13_init_134 ⟨fun i hi j hj hf => ?_, C17_1, C17_2, V46, V46b, ?_, ?_, ?_, ?_, ?_, ?_, ?_, V107, V107b, ?_⟩
  · by_cases t0 : i = 0
    · subst t0
      have hh : ∀ j : Nat, j < alen (shC ((0 : Nat) : Int)) → mfin (shC ((0 : Nat) : Int)).1 j = true → j = 0 ∨ j = 3 ∨ j = 4 ∨ j = 5 ∨ j = 6 ∨ j = 7 ∨ j = 8 := by decide +kernel
      rcases hh j hj hf with y | y | y | y | y | y | y <;> subst y
      · exact C17_0
      · exact C17_3
      · exact C17_4
      · exact C17_5
      · exact C17_6
      · exact C17_7
      · exact C17_8
    · by_cases t1 : i < 2
      · have hh : ∀ i : Nat, i < 2 → ¬ i = 0 → ∀ j : Nat, j < alen (shC i) → mfin (shC i).1 j = false := by decide +kernel
        rw [hh i t1 t0 j hj] at hf; cases hf
      · by_cases t46 : i < 46
        · rw [R2 i (by omega) (by omega)]; exact e2.2.1 i (by omega) (by omega) j hj hf
        · by_cases t53 : i < 53
          · rw [R46 i (by omega) (by omega), e4, ← eLT]
            have wL := wl_arr (L := LT) (a := 46) (b := 53) (by rw [eLT]; decide +kernel)
            exact ups_look LT _ i j none _ (fun v y => by cases y) (wL i t53 (by omega) j hj hf)
          · by_cases t53b : i = 53
            · rw [R53 i (by omega) (by omega)]; exact e7.2.1 i (Or.inl t53b) j hj hf
            · by_cases t98 : i < 98
              · rw [R54 i (by omega) (by omega)]; exact e6.2.1 i (by omega) (by omega) j hj hf
              · by_cases t107 : i < 107
                · rw [R98 i (by omega) (by omega)]; exact e7.2.1 i (Or.inr ⟨by omega, t107⟩) j hj hf
                · by_cases t115 : i < 115
                  · rw [R107 i (by omega) (by omega), e9]
                    exact ups_look _ _ i j none _ (fun v y => by cases y) (wl_arr (a := 107) (b := 115) (by decide +kernel) i (by omega) (by omega) j hj hf)
                  · by_cases t125 : i < 125
                    · rw [R115 i (by omega) (by omega), e11]
                      exact ups_look _ _ i j none _ (fun v y => by cases y) (wl_arr (a := 115) (b := 125) (by decide +kernel) i (by omega) (by omega) j hj hf)
                    · by_cases t127 : i < 127
                      · rw [R125 i (by omega) (by omega), e13]
                        exact ups_look _ _ i j none _ (fun v y => by cases y) (wl_arr (a := 125) (b := 127) (by decide +kernel) i (by omega) (by omega) j hj hf)
                      · rw [R127 i (by omega) (by omega), e15]
                        exact ups_look _ _ i j none _ (fun v y => by cases y) (wl_arr (a := 127) (b := 142) (by decide +kernel) i (by omega) (by omega) j hj hf)
  · rw [R53 53 (by decide) (by decide)]; exact e7.2.2.1
  · rw [R53 53 (by decide) (by decide), e7.2.2.2.1]; exact c6.2.2.2.2.1
  · rw [R53 53 (by decide) (by decide)]; exact e7.2.2.2.2.1
  · rw [R53 53 (by decide) (by decide)]; exact e7.2.2.2.2.2.1
  · rw [R53 53 (by decide) (by decide)]; exact e7.2.2.2.2.2.2.1
  · rw [R53 53 (by decide) (by decide)]; exact e7.2.2.2.2.2.2.2.1
  · rw [R98 98 (by decide) (by decide)]; exact e7.2.2.2.2.2.2.2.2
  · refine ⟨fun q y => rfl, ?_⟩
    rw [R54b 54 (by decide) (by decide), R54b (54 + 1) (by decide) (by decide), R54b (54 + 10) (by decide) (by decide), R54b (54 + 12) (by decide) (by decide), R54b (54 + 23) (by decide) (by decide), R54b (54 + 25) (by decide) (by decide), R54b (54 + 27) (by decide) (by decide), R54b (54 + 29) (by decide) (by decide), R54b (54 + 31) (by decide) (by decide), R54b (54 + 33) (by decide) (by decide), R54b (54 + 37) (by decide) (by decide)]
    obtain ⟨_, b1, b2, b3, b4, b5, b6, b7, b8, b9, b10, b11, b12, b13, b14, b15, b16, b17, b18, b19⟩ := c6
    exact ⟨b1, b2, b3, b4, b5, b6, b7, b8, b9, b10, b11, b12, b13, b14, b15, b16, b17, fun k k0 k1 => by rw [R54b _ (by omega) (by omega)]; exact b18 k k0 k1, fun k k0 k1 => by rw [R54b _ (by omega) (by omega)]; exact b19 k k0 k1⟩
