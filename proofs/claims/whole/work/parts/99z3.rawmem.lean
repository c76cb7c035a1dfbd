def okty (t : FieldType) : Bool := match t with
  | .int => true | .long => true | .boolean => true | .byte => true | .object _ => true | .array _ => true | _ => false
theorem mcv_d {X : Mx} {t : FieldType} (h : okty t = true) : mcv X (mtag t, if mtag t = 2 then -1 else 0) = defaultValue t := by
  cases t <;> first | (cases h; done) | rfl
section AM
variable {sh : Int → Nat × Nat} {z : Mz} {n : Nat} {p : Program} {l : Launch} {e : Env} {R : Room} {s : State} {m : MethodId} {args : Array Value} {below : List Frame} {meth : Method} {c : Code} {cc : ByteArray} {nL : Nat} {own : String} {Q : State → Prop} {cells slots pc : Nat} {lo : List (Nat × Mv)} {st : List Mv} {h : Mh}
theorem mD_P (hI : mInj (XP sh z n)) (sz : Nat) : va_D (mA (XP sh z n) sz) (mW (XP sh z n) h) := mD hI _ (fun q hq => Or.inl ⟨q, hq, rfl⟩)
theorem a_new (C : aC sh z n p l e R s m args below meth c cc nL own) {N index : Nat} {Cn : String} {T : u_T} (ci : Nat) (hc : mcl[ci]? = some (Cn, T, N)) (hci : ci < 13) (hN : mnf ci = N) (hin : ∀ w ∈ u_ws Cn T N, w ∈ mtb) (ty0 : Nat → FieldType) (hty : ∀ k, k < N → parseFieldDescriptor (T k).2.2.1 = some (ty0 k)) (hm : mty ci = ty0) (hot : ∀ k, k < N → okty (ty0 k) = true) (hcl : Cond.classLink own index Cn ∈ mtb) (hinst : Cond.instantiable Cn N ∈ mtb) (hini : Cond.initialized Cn ∈ mtb) (hsh : sh n = (ci, 0)) (hn : ∀ j : Int, h n j = dfl sh n j) (hcells : Nat.ble (cells + 1) R.cells = true) (hslots : Nat.ble (slots + N) R.slots = true) (hd : decode cc pc = .ok (.new index, 3))
    (k : ∀ z', zle z z' n → (∀ i : Nat, n ≤ i → i < n + 1 → s.heap.size ≤ z'.2.2.1 i) → aC sh z' (n + 1) p l e R s m args below meth c cc nL own → aG sh z' (n + 1) p l e R s m args below meth c nL Q (cells + 1) (slots + N) (pc + 3) lo ((2, (n : Int)) :: st) h) : aG sh z n p l e R s m args below meth c nL Q cells slots pc lo st h := by
  intro H locs ls hs hl hh hP hS hv
  obtain ⟨hx, hb, hml2, hown, hts, hK, hI, hNs, hT, hlk⟩ := id C.1
  refine va_new (fs := (List.range N).map fun j => defaultValue (ty0 j)) hx hb hts hin ty0 hty hown (hts _ hcl) (hts _ hinst) (hts _ hini) hK hP (mD_P hI s.heap.size) hS (fun q hq => Or.inr hq) hc (fun j hj => ?_) (Nat.le_of_ble_eq_true hcells) (Nat.le_of_ble_eq_true hslots) hd (fun q H1 hP1 hD1 hS1 => ?_)
  · unfold vp_V
    simp [List.getD, hj]
  · obtain ⟨hq, hI'⟩ := a_fresh (h := h) rfl hD1 hI (fun _ => trivial) (by rw [hsh]; show 0 < 2147483648; decide)
    refine a_more C hq hI' hs hl hh hn ?_ hS1 hv k
    have e : mE (XP sh (zup z n q) (n + 1)) (sh n) (h n) = .inr (ci, (List.range N).map fun j => defaultValue (ty0 j)) := by
      rw [hsh]
      unfold mE
      rw [if_pos hci]
      congr 2
      unfold mobj
      rw [hN]
      refine List.map_congr_left (fun j hj => ?_)
      have hj' := List.mem_range.mp hj
      rw [hn]
      unfold dfl aty
      rw [hsh, Int.toNat_natCast, if_pos hci, hm]
      rw [show (if (0 : Int) ≤ (j : Int) ∧ mtag (ty0 j) = 2 then (-1 : Int) else 0) = (if mtag (ty0 j) = 2 then -1 else 0) by
        by_cases t : mtag (ty0 j) = 2
        · rw [if_pos ⟨by omega, t⟩, if_pos t]
        · rw [if_neg (fun y => t y.2), if_neg t]]
      exact mcv_d (hot j hj')
    rw [e]; exact hP1
theorem a_arrC {ty : FieldType} {cA : ClassId} {t0 kd : Nat} (hK : va_K (mxD (XP sh z n)) mcl (mtys (XP sh z n) ++ [(cA, ty)]) s) (ht : (mtys (XP sh z n))[t0]? = some (mxC (XP sh z n) kd, ty)) (h5 : t0 < 5) : cA = mxC (XP sh z n) kd := by
  have hl : (mtys (XP sh z n)).length = 5 := rfl
  have h1 := (hK.2 t0 (mxC (XP sh z n) kd, ty) (by rw [List.getElem?_append_left (by omega)]; exact ht)).2
  have h2 := (hK.2 5 (cA, ty) (by rw [List.getElem?_append_right (by omega), hl]; rfl)).2
  unfold va_RA at h1 h2
  cases ty
  case object C =>
    obtain ⟨_, _, _, _, _, a⟩ := h1
    obtain ⟨_, _, _, _, _, b⟩ := h2
    exact Option.some.inj (b.symm.trans a)
  all_goals exact Option.some.inj (h2.symm.trans h1)
theorem a_newi (C : aC sh z n p l e R s m args below meth c cc nL own) {atype : ArrayType} {ty : FieldType} (kd t0 : Nat) {N' : Nat} {len : Int} (harr : Cond.arrayClass (newarray.typeOf atype) ∈ mtb) (hty : newarray.typeOf atype = ty) (ht : (mtys (XP sh z n))[t0]? = some (mxC (XP sh z n) kd, ty)) (h5 : t0 < 5) (hdv : defaultValue ty = .int 0) (hkd : kd = 13 ∨ kd = 14 ∨ kd = 16) (hsh : sh n = (kd, N')) (hlen : len = N') (hN : N' < 100000) (hcb : componentBytes ty ≤ 8) (hn : ∀ j : Int, h n j = dfl sh n j) (hcells : Nat.ble (cells + 1) R.cells = true) (hslots : Nat.ble (slots + N') R.slots = true) (hd : decode cc pc = .ok (.newarray atype, 2))
    (k : ∀ z', zle z z' n → (∀ i : Nat, n ≤ i → i < n + 1 → s.heap.size ≤ z'.2.2.1 i) → aC sh z' (n + 1) p l e R s m args below meth c cc nL own → aG sh z' (n + 1) p l e R s m args below meth c nL Q (cells + 1) (slots + N') (pc + 2) lo ((2, (n : Int)) :: st) h) : aG sh z n p l e R s m args below meth c nL Q cells slots pc lo ((0, len) :: st) h := by
  intro H locs ls hs hl hh hP hS hv
  obtain ⟨hx, hb, hml2, hown, hts, hK, hI, hNs, hT, hlk⟩ := id C.1
  have hr : r32 len := by unfold r32; omega
  have t1 : (Int32.ofInt len).toInt = len := i32_toInt hr
  rw [List.map_cons]
  refine va_newa (A := mA (XP sh z n) s.heap.size) (N' := N') (n := Int32.ofInt len) (a0 := (N', .inl fun _ => 0)) hx hb (hts _ harr) hty hK hP (mD_P hI s.heap.size) hS (fun q hq => Or.inr hq) (fun cA => ?_) ?_ ?_ ?_ (Nat.le_of_ble_eq_true hcells) (Nat.le_of_ble_eq_true hslots) hd (fun q cA H1 hK1 hP1 hD1 hS1 => ?_)
  · rw [hdv]; rfl
  · rw [Int32.lt_iff_toInt_lt, t1]
    show ¬ len < (0 : Int32).toInt
    have : (0 : Int32).toInt = 0 := by decide
    omega
  · show (Int32.ofInt len).toInt.toNat = N'
    rw [t1]; omega
  · have : N' * componentBytes ty ≤ 100000 * 8 := Nat.mul_le_mul (by omega) hcb
    omega
  · obtain ⟨hq, hI'⟩ := a_fresh (h := h) rfl hD1 hI (fun _ => trivial) (by rw [hsh]; show N' < _; omega)
    refine a_more C hq hI' (avk_tl hs) hl hh hn ?_ hS1 hv k
    have ecA := a_arrC hK1 ht h5
    have e : mE (XP sh (zup z n q) (n + 1)) (sh n) (h n) = .inl (cA, N', .inl fun _ => 0) := by
      rw [hsh]
      unfold mE
      have mt : ∀ j : Int, h n j = 0 := fun j => by
        rw [hn]
        unfold dfl aty mel
        rw [hsh]
        rcases hkd with e | e | e <;> subst e <;> simp [mtag]
      have ef : (fun j : Nat => Int32.ofInt (h n j)) = fun _ => 0 := by
        funext j
        rw [mt]
        rfl
      rw [if_neg (show ¬ kd < 13 by omega), if_neg (show ¬ kd = 15 by omega), if_neg (show ¬ kd = 17 by omega), ef, ecA]
      rfl
    rw [e]; exact hP1
theorem a_newl (C : aC sh z n p l e R s m args below meth c cc nL own) {N' : Nat} {len : Int} (harr : Cond.arrayClass (newarray.typeOf .long) ∈ mtb) (hsh : sh n = (15, N')) (hlen : len = N') (hN : N' < 100000) (hn : ∀ j : Int, h n j = dfl sh n j) (hcells : Nat.ble (cells + 1) R.cells = true) (hslots : Nat.ble (slots + N') R.slots = true) (hd : decode cc pc = .ok (.newarray .long, 2))
    (k : ∀ z', zle z z' n → (∀ i : Nat, n ≤ i → i < n + 1 → s.heap.size ≤ z'.2.2.1 i) → aC sh z' (n + 1) p l e R s m args below meth c cc nL own → aG sh z' (n + 1) p l e R s m args below meth c nL Q (cells + 1) (slots + N') (pc + 2) lo ((2, (n : Int)) :: st) h) : aG sh z n p l e R s m args below meth c nL Q cells slots pc lo ((0, len) :: st) h := by
  intro H locs ls hs hl hh hP hS hv
  obtain ⟨hx, hb, hml2, hown, hts, hK, hI, hNs, hT, hlk⟩ := id C.1
  have hr : r32 len := by unfold r32; omega
  have t1 : (Int32.ofInt len).toInt = len := i32_toInt hr
  rw [List.map_cons]
  refine va_newa (A := mA (XP sh z n) s.heap.size) (N' := N') (n := Int32.ofInt len) (ty := .long) (a0 := (N', .inr (.inl fun _ => 0))) hx hb (hts _ harr) rfl hK hP (mD_P hI s.heap.size) hS (fun q hq => Or.inr hq) (fun cA => rfl) ?_ ?_ ?_ (Nat.le_of_ble_eq_true hcells) (Nat.le_of_ble_eq_true hslots) hd (fun q cA H1 hK1 hP1 hD1 hS1 => ?_)
  · rw [Int32.lt_iff_toInt_lt, t1]
    have : (0 : Int32).toInt = 0 := by decide
    omega
  · show (Int32.ofInt len).toInt.toNat = N'
    rw [t1]; omega
  · have : N' * componentBytes .long ≤ 100000 * 8 := Nat.mul_le_mul (by omega) (by decide)
    omega
  · obtain ⟨hq, hI'⟩ := a_fresh (h := h) rfl hD1 hI (fun _ => trivial) (by rw [hsh]; show N' < _; omega)
    refine a_more C hq hI' (avk_tl hs) hl hh hn ?_ hS1 hv k
    have ecA := a_arrC (t0 := 2) (kd := 15) hK1 rfl (by decide)
    have e : mE (XP sh (zup z n q) (n + 1)) (sh n) (h n) = .inl (cA, N', .inr (.inl fun _ => 0)) := by
      rw [hsh]
      unfold mE
      have mt : ∀ j : Int, h n j = 0 := fun j => by
        rw [hn]
        unfold dfl aty mel
        rw [hsh]
        simp [mtag]
      have ef : (fun j : Nat => Int64.ofInt (h n j)) = fun _ => 0 := by
        funext j
        rw [mt]
        rfl
      rw [if_neg (show ¬ 15 < 13 by decide), if_pos rfl, ef, ecA]
      rfl
    rw [e]; exact hP1
theorem a_newq (C : aC sh z n p l e R s m args below meth c cc nL own) {index : Nat} {N' : Nat} {len : Int} (hcl : Cond.classLink own index RX7 ∈ mtb) (hsh : sh n = (17, N')) (hlen : len = N') (hN : N' < 100000) (hn : ∀ j : Nat, h n (j : Int) = -1) (hcells : Nat.ble (cells + 1) R.cells = true) (hslots : Nat.ble (slots + N') R.slots = true) (hd : decode cc pc = .ok (.anewarray index, 3))
    (hn2 : ∀ j : Int, h n j = dfl sh n j) (k : ∀ z', zle z z' n → (∀ i : Nat, n ≤ i → i < n + 1 → s.heap.size ≤ z'.2.2.1 i) → aC sh z' (n + 1) p l e R s m args below meth c cc nL own → aG sh z' (n + 1) p l e R s m args below meth c nL Q (cells + 1) (slots + N') (pc + 3) lo ((2, (n : Int)) :: st) h) : aG sh z n p l e R s m args below meth c nL Q cells slots pc lo ((0, len) :: st) h := by
  intro H locs ls hs hl hh hP hS hv
  obtain ⟨hx, hb, hml2, hown, hts, hK, hI, hNs, hT, hlk⟩ := id C.1
  have hr : r32 len := by unfold r32; omega
  have t1 : (Int32.ofInt len).toInt = len := i32_toInt hr
  rw [List.map_cons]
  refine va_newq (A := mA (XP sh z n) s.heap.size) (N' := N') (n := Int32.ofInt len) hx hb hown (hts _ hcl) C.2.1 hK hP (mD_P hI s.heap.size) hS (fun q hq => Or.inr hq) ?_ ?_ (by omega) (Nat.le_of_ble_eq_true hcells) (Nat.le_of_ble_eq_true hslots) hd (fun q cA H1 hK1 hP1 hD1 hS1 => ?_)
  · rw [Int32.lt_iff_toInt_lt, t1]
    have : (0 : Int32).toInt = 0 := by decide
    omega
  · show (Int32.ofInt len).toInt.toNat = N'
    rw [t1]; omega
  · obtain ⟨hq, hI'⟩ := a_fresh (h := h) rfl hD1 hI (fun _ => trivial) (by rw [hsh]; show N' < _; omega)
    refine a_more C hq hI' (avk_tl hs) hl hh hn2 ?_ hS1 hv k
    have ecA := a_arrC (t0 := 4) (kd := 17) hK1 rfl (by decide)
    have e : mE (XP sh (zup z n q) (n + 1)) (sh n) (h n) = .inl (cA, N', .inr (.inr (.inr (.inr fun _ => none)))) := by
      rw [hsh]
      unfold mE
      have ef : (fun j : Nat => if h n j < 0 then none else some (mxA (XP sh (zup z n q) (n + 1)) (h n j))) = fun _ => none := by
        funext j
        rw [hn, if_pos (by decide)]
      rw [if_neg (show ¬ 17 < 13 by decide), if_neg (show ¬ 17 = 15 by decide), if_pos rfl, ef, ecA]
      rfl
    rw [e]; exact hP1
end AM
