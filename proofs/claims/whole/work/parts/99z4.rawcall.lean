section AP
variable {sh : Int → Nat × Nat} {z : Mz} {n : Nat} {p : Program} {l : Launch} {e : Env} {R : Room} {s : State} {m : MethodId} {args : Array Value} {below : List Frame} {meth : Method} {c : Code} {cc : ByteArray} {nL : Nat} {own : String} {Q : State → Prop} {cells slots pc : Nat} {lo : List (Nat × Mv)} {st : List Mv} {h : Mh}
theorem aW_at {i : Nat} (hi : i < n) : (mW (XP sh z n) h)[i]? = some (z.2.2.1 i, mE (XP sh z n) (sh i) (h i)) := by
  rw [mW_at (X := XP sh z n) hi, XP_S (by omega)]
  rfl
theorem a_put (C : aC sh z n p l e R s m args below meth c cc nL own) {N index : Nat} {Cn : String} {T : u_T} (ci j : Nat) (hc : mcl[ci]? = some (Cn, T, N)) (hci : ci < 13) (hN : mnf ci = N) (hin : ∀ w ∈ u_ws Cn T N, w ∈ mtb) (hj : j < N) (hlink : Cond.fieldLink own index (T j).1 (T j).2.1 (T j).2.2.1 ∈ mtb) (ty0 : Nat → FieldType) (hty : ∀ k, k < N → parseFieldDescriptor (T k).2.2.1 = some (ty0 k)) (hnm : ∀ a, a < N → ∀ b, b < N → a ≠ b → (T a).2.1 ≠ (T b).2.1) (hm : mty ci = ty0) (hdecl : (T j).1 = own) (htt : ty0 j = .int ∨ ty0 j = .long ∨ ty0 j = .boolean ∨ (∃ n, ty0 j = .object n) ∨ ∃ n, ty0 j = .array n) {tag : Nat} (htag : mtag (ty0 j) = tag) (hd : decode cc pc = .ok (.putfield index, 3)) {o : Nat} {v : Int} (ho : o < n) (hsh : sh o = (ci, 0)) (hok : mokT (ty0 j) v) (k : aG sh z n p l e R s m args below meth c nL Q cells slots (pc + 3) lo st (up h o j v)) : aG sh z n p l e R s m args below meth c nL Q cells slots pc lo ((tag, v) :: (2, (o : Int)) :: st) h := by
  intro H locs ls hs hl hh hP hS hv
  subst htag
  obtain ⟨⟨hx, hb, hml2, hown, hts, hK, hI, hNs, hT, hlk⟩, hAO, hnmi⟩ := id C
  have hwi : (mW (XP sh z n) h)[o]? = some (z.2.2.1 o, .inr (ci, mobj (XP sh z n) ci (h o))) := by
    rw [aW_at ho, hsh]; unfold mE; rw [if_pos hci]
  have hvv := avk_hd hs
  obtain ⟨hn1, hn2⟩ := mfits (X := XP sh z n) hok htt
  have hao : aok sh n (up h o j v) := by
    refine aok_up hh ho (by omega) ?_ ?_
    · unfold aty; rw [hsh, if_pos hci, Int.toNat_natCast, hm]; exact hok
    · unfold aty
      rw [hsh, if_pos hci, Int.toNat_natCast, hm]
      by_cases t : mtag (ty0 j) = 2
      · exact Or.inl (hvv.2.2 t)
      · exact Or.inr ⟨t, show ci ≠ 17 by omega⟩
  have fin : ∀ (H1 : Heap) (locs1 : List Loc), va_P (mxD (XP sh z n)) mcl ((mW (XP sh z n) h).set o (z.2.2.1 o, .inr (ci, (mobj (XP sh z n) ci (h o)).set j (mcv (XP sh z n) (mtag (ty0 j), v))))) H1 → va_S (mA (XP sh z n) s.heap.size) s.heap H1 locs1 → W p l e R s m args below meth c H1 locs1 cells slots Q (F0 m (pc + 3) ls (st.map (mcv (XP sh z n)))) := by
    intro H1 locs1 hP1 hS1
    rw [← hm, mobj_set (X := XP sh z n) (h := h)] at hP1
    have e1 := mW_set (X := XP sh z n) (h := h) (o := o) (k := j) (v := v) ho (e := .inr (ci, mobj (XP sh z n) ci (up h o j v o))) (by rw [XP_S (by omega), hsh]; unfold mE; rw [if_pos hci])
    have e2 : (mW (XP sh z n) h).set o (z.2.2.1 o, .inr (ci, mobj (XP sh z n) ci (up h o j v o))) = mW (XP sh z n) (up h o j v) := e1
    rw [e2] at hP1
    exact k H1 locs1 ls (avk_tl (avk_tl hs)) hl hao hP1 hS1 hv
  rw [List.map_cons, List.map_cons, mcv_p (by omega)]
  by_cases hf : (T j).2.2.2 = true
  · exact va_putF (A := mA (XP sh z n) s.heap.size) hx hb hts hin ty0 hty hnm hown hK hP (mD_P hI s.heap.size) hS o hwi hc j hj (hts _ hlink) (fun _ h9 => h9) hf hnmi hdecl (ty := ty0 j) (hty j hj) hn1 hn2 (by simp [mobj, hN]; exact hj) hd (fun H1 locs1 hP1 hD1 hS1 => fin H1 locs1 hP1 hS1)
  · exact va_put (A := mA (XP sh z n) s.heap.size) hx hb hts hin ty0 hty hnm hown hK hP (mD_P hI s.heap.size) hS o hwi hc j hj (hts _ hlink) (fun _ h9 => h9) (Bool.eq_false_iff.mpr hf) (ty := ty0 j) (hty j hj) hn1 hn2 (by simp [mobj, hN]; exact hj) hd (fun H1 locs1 hP1 hD1 hS1 => fin H1 locs1 hP1 hS1)
theorem a_get (C : aC sh z n p l e R s m args below meth c cc nL own) {N index : Nat} {Cn : String} {T : u_T} (ci j : Nat) (hc : mcl[ci]? = some (Cn, T, N)) (hci : ci < 13) (hN : mnf ci = N) (hin : ∀ w ∈ u_ws Cn T N, w ∈ mtb) (hj : j < N) (hlink : Cond.fieldLink own index (T j).1 (T j).2.1 (T j).2.2.1 ∈ mtb) {tag : Nat} (htag : mtag (mty ci j) = tag) (hd : decode cc pc = .ok (.getfield index, 3)) {o : Nat} {x : Int} (ho : o < n) (hsh : sh o = (ci, 0)) (hx : h o j = x) (k : aG sh z n p l e R s m args below meth c nL Q cells slots (pc + 3) lo ((tag, x) :: st) h) : aG sh z n p l e R s m args below meth c nL Q cells slots pc lo ((2, (o : Int)) :: st) h := by
  intro H locs ls hs hl hh hP hS hv
  subst htag hx
  obtain ⟨hxx, hb, hml2, hown, hts, hK, hI, hNs, hT, hlk⟩ := id C.1
  have hwi : (mW (XP sh z n) h)[o]? = some (z.2.2.1 o, .inr (ci, mobj (XP sh z n) ci (h o))) := by
    rw [aW_at ho, hsh]; unfold mE; rw [if_pos hci]
  have ok := (hh o ho).1 j (by unfold alen; rw [hsh, if_pos hci, hN]; exact hj)
  unfold aty at ok
  rw [hsh, if_pos hci] at ok
  have k := k H locs ls (avk_cons ⟨mokT_ok ok.1, mtag_le _, ok.2⟩ (avk_tl hs)) hl hh hP hS hv
  rw [List.map_cons, mcv_p (by omega)]
  exact va_get hxx hb hts hin hown hK hP o hwi hc j hj (hts _ hlink) (fun _ h9 => h9) (mobj_at (by rw [hN]; exact hj)) hd k
theorem a_iastore (C : aC sh z n p l e R s m args below meth c cc nL own) {a : Nat} {len : Nat} {i v : Int} (hd : decode cc pc = .ok (.iastore, 1)) (ha : a < n) (hsh : sh a = (14, len)) (h0 : 0 ≤ i) (h1 : i < len) (k : aG sh z n p l e R s m args below meth c nL Q cells slots (pc + 1) lo st (up h a i v)) : aG sh z n p l e R s m args below meth c nL Q cells slots pc lo ((0, v) :: (0, i) :: (2, (a : Int)) :: st) h := by
  intro H locs ls hs hl hh hP hS hv
  obtain ⟨hx, hb, hml2, hown, hts, hK, hI, hNs, hT, hlk⟩ := id C.1
  have hwq : (mW (XP sh z n) h)[a]? = some (z.2.2.1 a, .inl (mxC (XP sh z n) 14, len, .inl fun j => Int32.ofInt (h a j))) := by
    rw [aW_at ha, hsh]; unfold mE; rw [if_neg (show ¬ 14 < 13 by decide), if_neg (show ¬ 14 = 15 by decide), if_neg (show ¬ 14 = 17 by decide)]
  obtain ⟨b1, b2⟩ := mix h0 h1 (avk_hd (avk_tl hs)).1
  have rv : r32 v := (avk_hd hs).1
  obtain ⟨j, rfl⟩ := Int.eq_ofNat_of_zero_le h0
  have b3 : (Int32.ofInt (j : Int)).toNatClampNeg = j := by omega
  rw [List.map_cons, List.map_cons, List.map_cons, mcv_p (by omega)]
  refine va_iast (A := mA (XP sh z n) s.heap.size) (x := Int32.ofInt v) (f := fun j => Int32.ofInt (h a j)) hx hb hK hP (mD_P hI s.heap.size) hS a 1 hwq rfl b1 hd (fun H1 locs1 hP1 hD1 hS1 => ?_)
  have e2 := mW_set (X := XP sh z n) (h := h) (o := a) (k := j) (v := v) ha (e := .inl (mxC (XP sh z n) 14, len, .inl (upd (fun j => Int32.ofInt (h a j)) (Int32.ofInt (j : Int)).toNatClampNeg (Int32.ofInt v)))) ?_
  · have e3 : (mW (XP sh z n) h).set a (z.2.2.1 a, .inl (mxC (XP sh z n) 14, len, .inl (upd (fun j => Int32.ofInt (h a j)) (Int32.ofInt (j : Int)).toNatClampNeg (Int32.ofInt v)))) = mW (XP sh z n) (up h a j v) := e2
    rw [e3] at hP1
    refine k H1 locs1 ls (avk_tl (avk_tl (avk_tl hs))) hl (aok_up hh ha (by omega) ?_ ?_) hP1 hS1 hv
    · unfold aty mel; rw [hsh]; exact rv
    · unfold aty mel; rw [hsh]; exact Or.inr ⟨show (0 : Nat) ≠ 2 by decide, show (14 : Nat) ≠ 17 by decide⟩
  · rw [XP_S (by omega), hsh, b3]
    unfold mE
    rw [if_neg (show ¬ 14 < 13 by decide), if_neg (show ¬ 14 = 15 by decide), if_neg (show ¬ 14 = 17 by decide)]
    have ef : upd (fun j => Int32.ofInt (h a j)) j (Int32.ofInt v) = fun x : Nat => Int32.ofInt (up h a j v a x) := by
      funext x
      unfold upd
      by_cases ez : x = j
      · subst ez
        rw [if_pos rfl, up_same]
      · rw [if_neg ez, up_ne h (by omega)]
    rw [ef]
theorem a_aastore (C : aC sh z n p l e R s m args below meth c cc nL own) {a v : Nat} {len : Nat} {i : Int} (hd : decode cc pc = .ok (.aastore, 1)) (ha : a < n) (hsh : sh a = (17, len)) (hv0 : v < n) (hsv : sh v = (6, 0)) (h0 : 0 ≤ i) (h1 : i < len) (k : aG sh z n p l e R s m args below meth c nL Q cells slots (pc + 1) lo st (up h a i v)) : aG sh z n p l e R s m args below meth c nL Q cells slots pc lo ((2, (v : Int)) :: (0, i) :: (2, (a : Int)) :: st) h := by
  intro H locs ls hs hl hh hP hS hv
  obtain ⟨hx, hb, hml2, hown, hts, hK, hI, hNs, hT, hlk⟩ := id C.1
  have hwq : (mW (XP sh z n) h)[a]? = some (z.2.2.1 a, .inl (mxC (XP sh z n) 17, len, .inr (.inr (.inr (.inr fun j => if h a j < 0 then none else some (mxA (XP sh z n) (h a j))))))) := by
    rw [aW_at ha, hsh]; unfold mE; rw [if_neg (show ¬ 17 < 13 by decide), if_neg (show ¬ 17 = 15 by decide), if_pos rfl]
  have hwv : (mW (XP sh z n) h)[v]? = some (z.2.2.1 v, .inr (6, mobj (XP sh z n) 6 (h v))) := by
    rw [aW_at hv0, hsv]; unfold mE; rw [if_pos (show 6 < 13 by decide)]
  obtain ⟨b1, b2⟩ := mix h0 h1 (avk_hd (avk_tl hs)).1
  obtain ⟨j, rfl⟩ := Int.eq_ofNat_of_zero_le h0
  have b3 : (Int32.ofInt (j : Int)).toNatClampNeg = j := by omega
  rw [List.map_cons, List.map_cons, List.map_cons, mcv_p (by omega), mcv_p (by omega)]
  refine va_astq (A := mA (XP sh z n) s.heap.size) (r := (RX7, TX7, 2)) hx hb hK hP (mD_P hI s.heap.size) hS a 4 v 6 hwq rfl hwv rfl b1 hd (fun H1 locs1 hP1 hD1 hS1 => ?_)
  have e2 := mW_set (X := XP sh z n) (h := h) (o := a) (k := j) (v := v) ha (e := .inl (mxC (XP sh z n) 17, len, .inr (.inr (.inr (.inr (va_up (fun j => if h a j < 0 then none else some (mxA (XP sh z n) (h a j))) (Int32.ofInt (j : Int)).toNatClampNeg (some (z.2.2.1 v)))))))) ?_
  · have e3 : (mW (XP sh z n) h).set a (z.2.2.1 a, .inl (mxC (XP sh z n) 17, len, .inr (.inr (.inr (.inr (va_up (fun j => if h a j < 0 then none else some (mxA (XP sh z n) (h a j))) (Int32.ofInt (j : Int)).toNatClampNeg (some (z.2.2.1 v)))))))) = mW (XP sh z n) (up h a j v) := e2
    rw [e3] at hP1
    refine k H1 locs1 ls (avk_tl (avk_tl (avk_tl hs))) hl (aok_up hh ha (by omega) ?_ (Or.inl (by omega))) hP1 hS1 hv
    unfold aty mel; rw [hsh]; trivial
  · rw [XP_S (by omega), hsh, b3]
    unfold mE
    rw [if_neg (show ¬ 17 < 13 by decide), if_neg (show ¬ 17 = 15 by decide), if_pos rfl]
    have ef : va_up (fun j : Nat => if h a j < 0 then none else some (mxA (XP sh z n) (h a j))) j (some (z.2.2.1 v)) = fun x : Nat => if up h a j v a x < 0 then none else some (mxA (XP sh z n) (up h a j v a x)) := by
      funext x
      unfold va_up
      by_cases ez : x = j
      · subst ez
        rw [if_pos rfl, up_same, if_neg (by omega)]
        rfl
      · rw [if_neg ez, up_ne h (by omega)]
    rw [ef]
theorem a_mmax (C : aC sh z n p l e R s m args below meth c cc nL own) {index : Nat} {a b x : Int} (hml : Cond.methodLink own index yJ9_max_7cf53 ∈ mtb) (him : Cond.static yJ9_max_7cf53 ∈ mtb) (hin : Cond.initialized "java/lang/Math" ∈ mtb) (hco : Cond.code yJ9_max_7cf53 cJ9_max_7cf53 2 (some .int) ∈ mtb) (hR : Nat.ble 1 R.frames = true) (hR2 : Nat.ble 21 R.locals = true) (hrm : Nat.ble (mwords st) 8 = true) (hd : decode cc pc = .ok (.invokestatic index, 3)) (hx : (if a < b then b else a) = x) (k : aG sh z n p l e R s m args below meth c nL Q cells slots (pc + 3) lo ((0, x) :: st) h) (hcs : cells ≤ R.cells) (hss : slots ≤ R.slots) : aG sh z n p l e R s m args below meth c nL Q cells slots pc lo ((0, b) :: (0, a) :: st) h := by
  intro H locs ls hs hl hh hP hS hv
  subst hx
  have ra : r32 a := (avk_hd (avk_tl hs)).1
  have rb : r32 b := (avk_hd hs).1
  have hts := C.1.2.2.2.2.1
  have k := k H locs ls (avk_cons (avk_i (show r32 (if a < b then b else a) from by split <;> assumption)) (avk_tl (avk_tl hs))) hl hh hP hS hv
  refine va_mmax (x := Int32.ofInt a) (y := Int32.ofInt b) C.1.1 C.1.2.1 (by rw [C.1.2.2.1, hv.1]) C.1.2.2.2.1 (hts _ hml) (hts _ him) (hts _ hin) (hts _ hco) (Nat.le_of_ble_eq_true hR) (by rw [mwords_cat]; have := Nat.le_of_ble_eq_true hR2; have := Nat.le_of_ble_eq_true hrm; omega) hcs hss hd ?_
  rw [show (if Int32.ofInt a < Int32.ofInt b then Int32.ofInt b else Int32.ofInt a) = Int32.ofInt (if a < b then b else a) from ?_]
  · exact k
  · by_cases q : a < b
    · rw [if_pos q, if_pos ((i32_lt ra rb).mpr q)]
    · rw [if_neg q, if_neg (fun z => q ((i32_lt ra rb).mp z))]
end AP
