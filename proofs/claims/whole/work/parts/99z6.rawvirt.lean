/-! ===== a method called while cells are laid ===== -/
def XW (sh : Int → Nat × Nat) (z : Mz) (n : Nat) (W : Int → Int → Int) : Mx := (z.1, z.2.1, z.2.2.1, fun i => if i < (n : Int) then sh i else (99, 0), W, n, z.2.2.2.1, z.2.2.2.2.1, z.2.2.2.2.2)
/-- wired as W says -/
def aWd (sh : Int → Nat × Nat) (n : Nat) (W : Int → Int → Int) (h : Mh) : Prop := ∀ i : Nat, i < n → ∀ j : Nat, j < alen (sh i) → mfin (sh i).1 j = true → h i j = W i j
theorem mokH_W {sh : Int → Nat × Nat} {z : Mz} {n : Nat} {W : Int → Int → Int} {h : Mh} (ho : aok sh n h) (hw : aWd sh n W h) : mokH (XW sh z n W) h := by
  intro i hi j hj
  have hi' : i < n := hi
  have eS : mxS (XW sh z n W) i = sh i := by
    show (if (i : Int) < (n : Int) then sh i else (99, 0)) = sh i
    rw [if_pos (by omega)]
  rw [eS] at hj ⊢
  exact ⟨((ho i hi').1 j hj).1, fun hf => hw i hi' j hj hf⟩
section AV
variable {sh : Int → Nat × Nat} {z : Mz} {n : Nat} {p : Program} {l : Launch} {e : Env} {R : Room} {s : State} {m : MethodId} {args : Array Value} {below : List Frame} {meth : Method} {c : Code} {cc : ByteArray} {nL : Nat} {own : String} {Q : State → Prop} {cells slots pc : Nat} {lo : List (Nat × Mv)} {st : List Mv} {h : Mh}
theorem a_callV (C : aC sh z n p l e R s m args below meth c cc nL own) (W : Int → Int → Int) {y : MethodName} {bytes : ByteArray} {maxL fr lc index np ci N : Nat} {Cn : String} {T : u_T} {av : List Mv} {o : Nat} {K : Mh → Prop} {st0 : List Mv} (hM : mCal (XW sh z n W) l y bytes maxL none fr lc ((2, (o : Int)) :: av) h (mKv K)) (hwd : aWd sh n W h)
    (hml : Cond.methodLink own index y ∈ mtb) (him : Cond.instanceMethod y ∈ mtb) (hse : Cond.selects Cn y y ∈ mtb) (hin : Cond.initialized Cn ∈ mtb) (hco : Cond.code y bytes maxL none ∈ mtb) (hd : y.cls = Cn ∧ y.cls ≠ "java/lang/invoke/MethodHandle" ∧ y.cls ≠ "java/lang/invoke/VarHandle" ∧ (parseMethodDescriptor y.desc).map (fun d => d.parameters.length) = some np)
    (hR : Nat.ble (fr + 1) R.frames = true) (hR2 : Nat.ble (8 + (maxL + 11) + lc) R.locals = true) (hci : ci < 13) (hc : mcl[ci]? = some (Cn, T, N)) (ho : o < n) (hsh : sh o = (ci, 0)) (hlen : av.length = np) (hst : st0 = av.reverse ++ (2, (o : Int)) :: st) (hrm : Nat.ble (mwords st) 8 = true) (hdg : decode cc pc = .ok (.invokevirtual index, 3)) (hcs : Nat.ble cells R.cells = true) (hss : Nat.ble slots R.slots = true)
    (hka : aok sh n h → ∀ h', K h' → mokH (XW sh z n W) h' → aok sh n h') (k : ∀ h', K h' → mokH (XW sh z n W) h' → aG sh z n p l e R s m args below meth c nL Q cells slots (pc + 3) lo st h') : aG sh z n p l e R s m args below meth c nL Q cells slots pc lo st0 h := by
  intro H locs ls hs hl hh hP hS hv
  have e0 : st0 = ((2, (o : Int)) :: av).reverse ++ st := by rw [hst]; simp
  rw [e0] at hs ⊢
  have hav : ∀ v ∈ (2, (o : Int)) :: av, avk n v := fun v hv => hs v (List.mem_append_left _ (List.mem_reverse.mpr hv))
  have hst' : ∀ v ∈ st, avk n v := fun v hv => hs v (List.mem_append_right _ hv)
  obtain ⟨hx, hb, hml2, hown, hts, hK, hI, hN, hT, hlk⟩ := id C.1
  have hwi : (mW (XP sh z n) h)[o]? = some (z.2.2.1 o, .inr (ci, mobj (XP sh z n) ci (h o))) := by
    rw [aW_at ho, hsh]; unfold mE; rw [if_pos hci]
  have hGd : GoodIn mtb (wsV own index Cn y (Cond.code y bytes maxL none :: mtb)) := mgi hml (mgi him (mgi hse (mgi hin (mgi hco mtb_good))))
  have hrec := va_recv hK hP hc hwi
  have hmok := mokH_W (z := z) hh hwd
  have hpre : ∀ U : State, U.heap = H → s.WarmedH U.vm → mPc (XW sh z n W) ((2, (o : Int)) :: av) h H.size (((2, (o : Int)) :: av).map (mcv (XP sh z n))).toArray U := by
    intro U hU hW
    exact ⟨rfl, by rw [hU], by rw [hU]; exact hP, va_K.moved hW.alike hK, hmok, fun v hv => (hav v hv).1, hN.warm hW, by rw [hU]; exact hT.at hS hW.alike, hI⟩
  have er : mcv (XP sh z n) (2, (o : Int)) = .ref (z.2.2.1 o) := mcv_p (by omega)
  have hrun : va_Run p l e R s m args below meth c H locs cells slots 0 0 (F0 m pc ls ((((2, (o : Int)) :: av).reverse ++ st).map (mcv (XP sh z n)))) (st.map (mcv (XP sh z n))) (mQc (XW sh z n W) (mKv K) (mA (XP sh z n) H.size) (((2, (o : Int)) :: av).map (mcv (XP sh z n))).toArray) (mA (XP sh z n) H.size) := by
    rw [List.map_cons, er] at hpre ⊢
    refine va_runV (b := z.2.2.1 o) (As := av.map (mcv (XP sh z n))) ⟨hx, hb, hml2, hown, hts⟩ (hM H.size) (cwV np hts hGd rfl rfl rfl hd ⟨Nat.le_of_ble_eq_true hR, Nat.le_of_ble_eq_true hR2⟩) ⟨m_blind, hrec, hpre⟩ rfl (by rw [List.length_map]; exact hlen) hv.1 ?_ (lv_room (by rw [mwords_cat]; exact Nat.le_of_ble_eq_true hrm)) hdg ⟨Nat.le_of_ble_eq_true hcs, Nat.le_of_ble_eq_true hss⟩
    show ((((2, (o : Int)) :: av).reverse ++ st).map (mcv (XP sh z n))) = _
    simp [er]
  intro T' hT' Z
  obtain ⟨v, st₀, t, T2, L, h0, X', hL, e1, e2, ⟨⟨r, h', hv2, ⟨hrn, hk⟩, hok, hh', hP'⟩, hzz, hkk⟩, stp⟩ := hrun T' hT' Z
  subst hrn
  cases hv2
  rw [h0] at hzz hkk
  have hA2 : ∀ q, mA (XP sh z n) H.size q → mA (XP sh z n) s.heap.size q := fun q hq => by
    rcases hq with hq | hq
    · exact Or.inl hq
    · exact Or.inr (Nat.le_trans hS.1 hq)
  have hS' : va_S (mA (XP sh z n) s.heap.size) s.heap T2.heap (locs ++ L) := by
    refine ⟨Nat.le_trans hS.1 (by rw [e1]; exact hzz), fun q h1 h2 => ?_, fun q hq => ?_⟩
    · rw [e1, hkk q (Nat.lt_of_lt_of_le h1 hS.1) (fun y => h2 (hA2 q y))]
      exact hS.2.1 q h1 h2
    · rcases List.mem_append.mp hq with h | h
      · exact hS.2.2 q h
      · exact hA2 _ (hL q h)
  obtain ⟨t2, a1, b1⟩ := k h' hk hh' T2.heap (locs ++ L) ls hst' hl (hka hh h' hk hh') (by rw [e1]; exact hP') hS' hv T2 rfl X'
  exact ⟨t2, stp t2 a1, b1⟩
end AV
/-- cells from n on are as they come -/
def Fr (sh : Int → Nat × Nat) (n : Nat) (h : Mh) : Prop := ∀ o j : Int, (n : Int) ≤ o → h o j = dfl sh o j
theorem Fr.up {sh : Int → Nat × Nat} {n : Nat} {h : Mh} (f : Fr sh n h) {o k v : Int} (ho : o < (n : Int)) : Fr sh n (up h o k v) := fun x j y => by rw [up_other (by omega)]; exact f x j y
theorem Fr.le {sh : Int → Nat × Nat} {n n' : Nat} {h : Mh} (f : Fr sh n h) (hn : n ≤ n') : Fr sh n' h := fun x j y => f x j (by omega)
theorem Fr.at {sh : Int → Nat × Nat} {n : Nat} {h : Mh} (f : Fr sh n h) : ∀ j : Int, h n j = dfl sh n j := fun j => f n j (Int.le_refl _)
theorem Fr.q {sh : Int → Nat × Nat} {n : Nat} {h : Mh} (f : Fr sh n h) {N : Nat} (hs : sh n = (17, N)) : ∀ j : Nat, h n (j : Int) = -1 := fun j => by
  rw [f.at]
  unfold dfl aty mel
  rw [hs]
  rw [if_pos ⟨by omega, rfl⟩]
theorem hf_trans {z z' : Mz} {n0 n n' sz : Nat} (h1 : ∀ i : Nat, n0 ≤ i → i < n → sz ≤ z.2.2.1 i) (hz : zle z z' n) (h2 : ∀ i : Nat, n ≤ i → i < n' → sz ≤ z'.2.2.1 i) : ∀ i : Nat, n0 ≤ i → i < n' → sz ≤ z'.2.2.1 i := fun i a b => by
  by_cases t : i < n
  · rw [hz.2.2.2 i (by omega)]; exact h1 i a t
  · exact h2 i (by omega) b
/-- one write behind the other -/
def ups (L : List (Int × Int × Int)) (h : Mh) : Mh := L.foldl (fun h q => up h q.1 q.2.1 q.2.2) h
section AE
variable {sh : Int → Nat × Nat} {z : Mz} {n : Nat} {p : Program} {l : Launch} {e : Env} {R : Room} {s : State} {m : MethodId} {args : Array Value} {below : List Frame} {meth : Method} {c : Code} {cc : ByteArray} {nL : Nat} {own : String} {Q : State → Prop} {cells slots pc : Nat} {lo : List (Nat × Mv)} {st : List Mv} {h : Mh}
theorem a_putE (C : aC sh z n p l e R s m args below meth c cc nL own) {N index : Nat} {Cn : String} {T : u_T} (ci j : Nat) (hc : mcl[ci]? = some (Cn, T, N)) (hci : ci < 13) (hN : mnf ci = N) (hin : ∀ w ∈ u_ws Cn T N, w ∈ mtb) (hj : j < N) (hlink : Cond.fieldLink own index (T j).1 (T j).2.1 (T j).2.2.1 ∈ mtb) (ty0 : Nat → FieldType) (hty : ∀ k, k < N → parseFieldDescriptor (T k).2.2.1 = some (ty0 k)) (hnm : ∀ a, a < N → ∀ b, b < N → a ≠ b → (T a).2.1 ≠ (T b).2.1) (hm : mty ci = ty0) (hdecl : (T j).1 = own) (htt : ty0 j = .int ∨ ty0 j = .long ∨ ty0 j = .boolean ∨ (∃ n, ty0 j = .object n) ∨ ∃ n, ty0 j = .array n) {tag : Nat} (htag : mtag (ty0 j) = tag) (hd : decode cc pc = .ok (.putfield index, 3)) {o : Nat} {v : Int} (ho : o < n) (hsh : sh o = (ci, 0)) (hok : mokT (ty0 j) v) (k : ∀ h1 : Mh, h1 = up h o j v → aG sh z n p l e R s m args below meth c nL Q cells slots (pc + 3) lo st h1) : aG sh z n p l e R s m args below meth c nL Q cells slots pc lo ((tag, v) :: (2, (o : Int)) :: st) h := a_put C ci j hc hci hN hin hj hlink ty0 hty hnm hm hdecl htt htag hd ho hsh hok (k _ rfl)
theorem a_iastoreE (C : aC sh z n p l e R s m args below meth c cc nL own) {a : Nat} {len : Nat} {i v : Int} (hd : decode cc pc = .ok (.iastore, 1)) (ha : a < n) (hsh : sh a = (14, len)) (h0 : 0 ≤ i) (h1 : i < len) (k : ∀ h1 : Mh, h1 = up h a i v → aG sh z n p l e R s m args below meth c nL Q cells slots (pc + 1) lo st h1) : aG sh z n p l e R s m args below meth c nL Q cells slots pc lo ((0, v) :: (0, i) :: (2, (a : Int)) :: st) h := a_iastore C hd ha hsh h0 h1 (k _ rfl)
theorem a_aastoreE (C : aC sh z n p l e R s m args below meth c cc nL own) {a v : Nat} {len : Nat} {i : Int} (hd : decode cc pc = .ok (.aastore, 1)) (ha : a < n) (hsh : sh a = (17, len)) (hv0 : v < n) (hsv : sh v = (6, 0)) (h0 : 0 ≤ i) (h1 : i < len) (k : ∀ h1 : Mh, h1 = up h a i v → aG sh z n p l e R s m args below meth c nL Q cells slots (pc + 1) lo st h1) : aG sh z n p l e R s m args below meth c nL Q cells slots pc lo ((2, (v : Int)) :: (0, i) :: (2, (a : Int)) :: st) h := a_aastore C hd ha hsh hv0 hsv h0 h1 (k _ rfl)
end AE
