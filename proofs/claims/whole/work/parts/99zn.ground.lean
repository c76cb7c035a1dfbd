theorem k_159 : Cond.instantiable RX13 9 ∈ mtb := mk_s1 26 rfl rfl
theorem k_1541 : Cond.instantiable RX14 100 ∈ mtb := mk_s6 208 rfl rfl
/-! ===== what stands at the law's entry ===== -/
theorem ground_cl {s : State} {args : Array Value} (hts : ∀ w ∈ mtb, w.before args s = true) : ∃ D : va_G, ∀ (k : Nat) (q : vw_C), mcl[k]? = some q → u_Kn s q.1 q.2.1 q.2.2 (D.1 k) (D.2 k) := by
  have h0 : ∀ (k : Nat) (q : vw_C), mcl[k]? = some q → ∃ (cC : ClassId) (iS : Nat → Nat), u_Kn s q.1 q.2.1 q.2.2 cC iS := by
    intro k q hq
    match k, hq with
    | 0, hq => cases hq; exact u_known hts iX1 (hts _ k_197)
    | 1, hq => cases hq; exact u_known hts iX2 (hts _ k_632)
    | 2, hq => cases hq; exact u_known hts iX3 (hts _ k_227)
    | 3, hq => cases hq; exact u_known hts iX4 (hts _ k_537)
    | 4, hq => cases hq; exact u_known hts iX5 (hts _ k_167)
    | 5, hq => cases hq; exact u_known hts iX6 (hts _ k_575)
    | 6, hq => cases hq; exact u_known hts iX7 (hts _ k_173)
    | 7, hq => cases hq; exact u_known hts iX8 (hts _ k_608)
    | 8, hq => cases hq; exact u_known hts iX9 (hts _ k_373)
    | 9, hq => cases hq; exact u_known hts iX10 (hts _ k_379)
    | 10, hq => cases hq; exact u_known hts iX11 (hts _ k_474)
    | 11, hq => cases hq; exact u_known hts iX13 (hts _ k_159)
    | 12, hq => cases hq; exact u_known hts iX14 (hts _ k_1541)
    | k + 13, hq => simp [mcl] at hq
  have h1 : ∀ k : Nat, ∃ (d : ClassId × (Nat → Nat)), ∀ q : vw_C, mcl[k]? = some q → u_Kn s q.1 q.2.1 q.2.2 d.1 d.2 := by
    intro k
    cases hk : mcl[k]? with
    | none => exact ⟨(default, fun _ => 0), fun q hq => by cases hq⟩
    | some q =>
      obtain ⟨a, b, h⟩ := h0 k q hk
      exact ⟨(a, b), fun q' hq => by cases hq; exact h⟩
  exact ⟨(fun k => (Classical.choose (h1 k)).1, fun k => (Classical.choose (h1 k)).2), fun k q hq => Classical.choose_spec (h1 k) q hq⟩
theorem ground_ar {s : State} {args : Array Value} {ty : FieldType} (h : (Cond.arrayClass ty).before args s = true) (hty : ty = .byte ∨ ty = .int ∨ ty = .long ∨ ty = .boolean) : ∃ cA : ClassId, ArrOfT s cA ty ∧ va_RA s cA ty := by
  obtain ⟨cA, kA, comp, h1, h2, h3⟩ := Cond.arrayClass_spec h
  refine ⟨cA, fun n z => ⟨fun k h => (by cases h), kA, h2, comp, h3⟩, ?_⟩
  rcases hty with rfl | rfl | rfl | rfl <;> exact h1
theorem ground_ao {s : State} (h : va_AO RX7 s) : ∃ cA : ClassId, ArrOfT s cA (.object RX7) ∧ va_RA s cA (.object RX7) := by
  obtain ⟨comp, cA, kA, h1, h2, h3, h4, h5⟩ := Cond.arrayOver_spec h
  refine ⟨cA, fun n z => ⟨fun k h => (by cases h), kA, h3, comp, h4⟩, kA, comp, h3, h4, h1, h5⟩
theorem ground_mtb {s : State} {args : Array Value} (hts : ∀ w ∈ lw_tbl, w.before args s = true) : ∀ w ∈ mtb, w.before args s = true := fun w hw => hts w (List.mem_filter.mp hw).1
theorem ground_N {s : State} {args : Array Value} (hts : ∀ w ∈ lw_tbl, w.before args s = true) : mNs s := by
  intro w hw
  have h1 := hts w (List.mem_filter.mp hw).1
  have h2 := (List.mem_filter.mp hw).2
  cases w <;> first | exact va_Nw.of rfl h1 | exact absurd h2 (by simp [mnest])
