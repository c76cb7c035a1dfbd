/-! ===== a world that is laid is a world ===== -/
theorem XW_C {z : Mz} : XW shC z 142 wrC = XC z := by
  have e : (fun i : Int => if i < ((142 : Nat) : Int) then shC i else (99, 0)) = shC := by
    funext i
    by_cases t : i < ((142 : Nat) : Int)
    · rw [if_pos t]
    · rw [if_neg t]
      unfold shC
      have hl : shCl.length = 142 := by decide +kernel
      rw [if_pos (by omega), List.getD_eq_getElem?_getD, List.getElem?_eq_none (by rw [hl]; omega)]; rfl
  unfold XW XC
  rw [e]
theorem conv_W {sh : Int → Nat × Nat} {z : Mz} {n : Nat} {W : Int → Int → Int} {h : Mh} {H : Heap} (hI : mInj (XP sh z n)) (ho : aok sh n h) (hw : aWd sh n W h) (hP : va_P (mxD (XP sh z n)) mcl (mW (XP sh z n) h) H) : mInj (XW sh z n W) ∧ mokH (XW sh z n W) h ∧ va_P (mxD (XW sh z n W)) mcl (mW (XW sh z n W) h) H := ⟨hI, mokH_W ho hw, hP⟩
theorem conv_C {z : Mz} {h : Mh} {H : Heap} (hI : mInj (XP shC z 142)) (ho : aok shC 142 h) (hk : KFin h) (hP : va_P (mxD (XP shC z 142)) mcl (mW (XP shC z 142) h) H) : mInj (XC z) ∧ mokH (XC z) h ∧ va_P (mxD (XC z)) mcl (mW (XC z) h) H := by
  have := conv_W hI ho hk.1 hP
  rw [XW_C] at this
  exact this
theorem conv_R {z : Mz} {h : Mh} {H : Heap} (hI : mInj (XP shR z 41)) (ho : aok shR 41 h) (hk : KRf h0R h) (hP : va_P (mxD (XP shR z 41)) mcl (mW (XP shR z 41) h) H) : mInj (XR z) ∧ mokH (XR z) h ∧ va_P (mxD (XR z)) mcl (mW (XR z) h) H := by
  obtain ⟨r, s1, e1, e2, e3, e4, e5, e6⟩ := hk
  have := conv_W hI ho e6 hP
  rw [XW_R] at this
  exact this
theorem shC_neg (o : Int) (h : o < 0) : shC o = (99, 0) := by
  unfold shC
  rw [if_neg (by omega)]
theorem shR_neg (o : Int) (h : o < 0) : shR o = (99, 0) := by
  unfold shR
  rw [if_neg (by omega)]
theorem mD_W {X : Mx} {h : Mh} {A : Nat → Prop} (hI : mInj X) (hA : ∀ i : Nat, i < mxN X → A (mxA X i)) : va_D A (mW X h) := by
  refine ⟨fun i j a b hi hj e => ?_, fun k q hk => ?_⟩
  · obtain ⟨i1, i2⟩ := mW_in hi
    obtain ⟨j1, j2⟩ := mW_in hj
    exact hI.1 i j i1 j1 (by rw [← i2, ← j2]; exact e)
  · obtain ⟨k1, k2⟩ := mW_in hk
    rw [k2]; exact hA k k1
/-- the tables at the entry -/
theorem ground_z {s : State} {args : Array Value} (hts : ∀ w ∈ lw_tbl, w.before args s = true) (hgv : (Jvm.Cond.and given_1 narrow_1).before args s = true) (hb1 : Cond.arrayClass .byte ∈ mtb) (hi1 : Cond.arrayClass .int ∈ mtb) (hl1 : Cond.arrayClass .long ∈ mtb) (hz1 : Cond.arrayClass .boolean ∈ mtb) : ∃ z0 : Mz, va_K (mxD (XC z0)) mcl (mtys (XC z0)) s ∧ mST (XC z0) (fun q => s.heap.size ≤ q) s s.heap := by
  have hm := ground_mtb hts
  obtain ⟨D, hD⟩ := ground_cl hm
  obtain ⟨cb, b1, b2⟩ := ground_ar (hm _ hb1) (Or.inl rfl)
  obtain ⟨ci, i1, i2⟩ := ground_ar (hm _ hi1) (Or.inr (Or.inl rfl))
  obtain ⟨cl, l1, l2⟩ := ground_ar (hm _ hl1) (Or.inr (Or.inr (Or.inl rfl)))
  obtain ⟨cz, z1, z2⟩ := ground_ar (hm _ hz1) (Or.inr (Or.inr (Or.inr rfl)))
  obtain ⟨co, o1, o2⟩ := ground_ao (va_AO.of (hts _ nf_a5))
  obtain ⟨eA, t, u, hE, hZ, hT, hY, hU⟩ := ground_ST hts hgv
  refine ⟨(D, (fun k => if k = 13 then cb else if k = 14 then ci else if k = 15 then cl else if k = 16 then cz else co), (fun _ => 0), eA, t, u), ⟨hD, fun k q hk => ?_⟩, hE, hZ, hT, hY, hU⟩
  match k, hk with
  | 0, hk => cases hk; exact ⟨b1, b2⟩
  | 1, hk => cases hk; exact ⟨i1, i2⟩
  | 2, hk => cases hk; exact ⟨l1, l2⟩
  | 3, hk => cases hk; exact ⟨z1, z2⟩
  | 4, hk => cases hk; exact ⟨o1, o2⟩
  | k + 5, hk => cases hk
