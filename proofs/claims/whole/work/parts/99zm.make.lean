/-! ===== the law lays its two objects ===== -/
section LM
variable {p : Program} {l : Launch} {e : Env} {s : State} {m : MethodId} {b : Nat} {below : List Frame} {meth : Method} {c : Code} {Q : State → Prop} {cells slots pc : Nat} {st : List Value}
theorem l_make {sh : Int → Nat × Nat} {z0 : Mz} (hx : p.tables.exec = Jvm.exec) (hb : c.code = cL_law) (hml2 : c.maxLocals = 7) (hown : s.vm.findClass RL = some m.cls) (hts : ∀ w ∈ mtb, w.before #[Value.ref b] s = true) (hK : va_K (mxD (XP sh z0 0)) mcl (mtys (XP sh z0 0)) s) (hN : mNs s) (hT : mST (XP sh z0 0) (fun q => s.heap.size ≤ q) s s.heap) (hAO : va_AO RX7 s)
    (hneg : ∀ o : Int, o < 0 → sh o = (99, 0)) (hlt : ∀ o : Int, (sh o).2 < 2147483648)
    {N index ix2 : Nat} {Cn : String} {T : u_T} (ci : Nat) (hc : mcl[ci]? = some (Cn, T, N)) (hci : ci < 13) (hNf : mnf ci = N) (hin : ∀ w ∈ u_ws Cn T N, w ∈ mtb) (ty0 : Nat → FieldType) (hty : ∀ k, k < N → parseFieldDescriptor (T k).2.2.1 = some (ty0 k)) (hm : mty ci = ty0) (hot : ∀ k, k < N → okty (ty0 k) = true) (hcl : Cond.classLink RL index Cn ∈ mtb) (hinst : Cond.instantiable Cn N ∈ mtb) (hini : Cond.initialized Cn ∈ mtb) (hsh : sh ((0 : Nat) : Int) = (ci, 0)) (hcells : cells + 1 ≤ 601024) (hslots : slots + N ≤ 7293033) (hd : decode cL_law pc = .ok (.new index, 3)) (hd1 : decode cL_law (pc + 3) = .ok (.dup, 1)) (hd2 : decode cL_law (pc + 3 + 1) = .ok (.invokespecial ix2, 3))
    {y : MethodName} {bytes : ByteArray} {maxL fr lc mc ms n' : Nat} {K : Mh → Prop} (hM : ∀ z : Mz, aCal sh l y bytes maxL fr lc mc ms z 1 n' [(2, ((0 : Nat) : Int))] (fun o j => dfl sh o j) K) (hn' : 1 ≤ n')
    (hml : Cond.methodLink RL ix2 y ∈ mtb) (him : Cond.instanceMethod y ∈ mtb) (hiny : Cond.initialized y.cls ∈ mtb) (hco : Cond.code y bytes maxL none ∈ mtb) (hnm : y.name = "<init>") (hdy : y.cls ≠ "java/lang/invoke/MethodHandle" ∧ y.cls ≠ "java/lang/invoke/VarHandle" ∧ (parseMethodDescriptor y.desc).map (fun d => d.parameters.length) = some 0)
    (hR : Nat.ble (fr + 1) 10 = true) (hR2 : Nat.ble (8 + (maxL + 11) + lc) 440 = true) (hrm : ((st.map fun v => v.category).sum + 1) ≤ 8) (hcs : cells + 1 + mc ≤ 601024) (hss : slots + N + ms ≤ 7293033)
    {ws : va_W} {H : Heap} {locs : List Loc} {ls : Array Slot} (hP : va_P (mxD (XP sh z0 0)) mcl ws H) (hD : va_D (fun q => s.heap.size ≤ q) ws) (hS : va_S (fun q => s.heap.size ≤ q) s.heap H locs) (hls : ls.size = 7)
    (k : ∀ (z' : Mz) (h' : Mh) (H1 : Heap) (locs1 : List Loc), z'.1 = z0.1 → z'.2.1 = z0.2.1 → z'.2.2.2 = z0.2.2.2 → (∀ i : Nat, i < n' → s.heap.size ≤ z'.2.2.1 i) → (∀ (i k : Nat) (w : Nat × va_E), i < n' → ws[k]? = some w → z'.2.2.1 i ≠ w.1) → mInj (XP sh z' n') → K h' → aok sh n' h' → va_P (mxD (XP sh z' n')) mcl (mW (XP sh z' n') h') H1 → va_P (mxD (XP sh z0 0)) mcl ws H1 → va_S (fun q => s.heap.size ≤ q) s.heap H1 locs1 → W p l e room_1 s m #[Value.ref b] below meth c H1 locs1 (cells + 1 + mc) (slots + N + ms) Q (F0 m (pc + 3 + 1 + 3) ls (.ref (z'.2.2.1 ((0 : Nat) : Int)) :: st))) :
    W p l e room_1 s m #[Value.ref b] below meth c H locs cells slots Q (F0 m pc ls st) := by
  refine va_new (fs := (List.range N).map fun j => defaultValue (ty0 j)) hx hb hts hin ty0 hty hown (hts _ hcl) (hts _ hinst) (hts _ hini) hK hP hD hS (fun q hq => hq) hc (fun j hj => ?_) hcells hslots hd (fun q H1 hP1 hD1 hS1 => ?_)
  · unfold vp_V
    simp [List.getD, hj]
  refine lv_dup hx hb hd1 rfl ?_
  obtain ⟨z1, ez1⟩ : ∃ z1 : Mz, z1 = (z0.1, z0.2.1, (fun _ => q), z0.2.2.2) := ⟨_, rfl⟩
  have eM : mE (XP sh z1 1) (sh ((0 : Nat) : Int)) ((fun o j => dfl sh o j : Mh) ((0 : Nat) : Int)) = .inr (ci, (List.range N).map fun j => defaultValue (ty0 j)) := by
    have e5 : mobj (XP sh z1 1) ci ((fun o j => dfl sh o j : Mh) ((0 : Nat) : Int)) = (List.range N).map fun j => defaultValue (ty0 j) := by
      unfold mobj
      rw [hNf]
      refine List.map_congr_left (fun j hj => ?_)
      have hj' := List.mem_range.mp hj
      show mcv (XP sh z1 1) (mtag (mty ci j), dfl sh ((0 : Nat) : Int) j) = _
      unfold dfl aty
      rw [hsh, Int.toNat_natCast, if_pos hci, hm]
      rw [show (if (0 : Int) ≤ (j : Int) ∧ mtag (ty0 j) = 2 then (-1 : Int) else 0) = (if mtag (ty0 j) = 2 then -1 else 0) by
        by_cases t : mtag (ty0 j) = 2
        · rw [if_pos ⟨by omega, t⟩, if_pos t]
        · rw [if_neg (fun y => t y.2), if_neg t]]
      exact mcv_d (hot j hj')
    rw [hsh]
    unfold mE
    rw [if_pos hci, e5]
  have hlast : (ws ++ [(q, (.inr (ci, (List.range N).map fun j => defaultValue (ty0 j)) : va_E))])[ws.length]? = some (q, .inr (ci, (List.range N).map fun j => defaultValue (ty0 j))) := by
    rw [List.getElem?_append_right (Nat.le_refl _)]; simp
  have hold : ∀ (k : Nat) (w : Nat × va_E), ws[k]? = some w → (ws ++ [(q, (.inr (ci, (List.range N).map fun j => defaultValue (ty0 j)) : va_E))])[k]? = some w ∧ k < ws.length := fun k w hk => by
    have t : k < ws.length := (List.getElem?_eq_some_iff.mp hk).1
    exact ⟨by rw [List.getElem?_append_left t]; exact hk, t⟩
  have hq0 : s.heap.size ≤ q := hD1.2 _ _ hlast
  have hW1 : va_P (mxD (XP sh z1 1)) mcl (mW (XP sh z1 1) (fun o j => dfl sh o j)) H1 := by
    have em : mW (XP sh z1 1) (fun o j => dfl sh o j) = [(q, .inr (ci, (List.range N).map fun j => defaultValue (ty0 j)))] := by
      unfold mW
      show [(mxA (XP sh z1 1) ((0 : Nat) : Int), mE (XP sh z1 1) (mxS (XP sh z1 1) ((0 : Nat) : Int)) ((fun o j => dfl sh o j : Mh) ((0 : Nat) : Int)))] = _
      rw [XP_S (by decide), eM, ez1]
      rfl
    rw [em]
    intro k w hk
    rcases k with _ | k
    · cases hk
      have := hP1 _ _ hlast
      rw [ez1]; exact this
    · cases hk
  have hI1 : mInj (XP sh z1 1) := by
    refine ⟨fun i j a b _ => ?_, fun o ho => ?_, fun o => ?_⟩
    · have a' : i < 1 := a
      have b' : j < 1 := b
      omega
    · have ho' : (if o < ((1 : Nat) : Int) then sh o else (99, 0)).1 < 90 := ho
      by_cases t : o < ((1 : Nat) : Int)
      · rw [if_pos t] at ho'
        refine ⟨Int.not_lt.mp (fun y => ?_), t⟩
        rw [hneg o y] at ho'
        exact absurd ho' (by decide)
      · rw [if_neg t] at ho'
        exact absurd ho' (by decide)
    · show (if o < ((1 : Nat) : Int) then sh o else (99, 0)).2 < 2147483648
      by_cases t : o < ((1 : Nat) : Int)
      · rw [if_pos t]; exact hlt o
      · rw [if_neg t]; decide
  have hok1 : aok sh 1 (fun o j => dfl sh o j) := aok_new (n := 0) (fun i hi => by omega) (fun j => rfl)
  have hA2 : ∀ x, mA (XP sh z1 1) H1.size x → s.heap.size ≤ x := fun x hx => by
    rcases hx with ⟨i, a, b⟩ | hx
    · rw [b, ez1]; exact hq0
    · exact Nat.le_trans hS1.1 hx
  have er : mcv (XP sh z1 1) (2, ((0 : Nat) : Int)) = .ref q := by rw [mcv_p (by decide), ez1]
  have hpre : ∀ U : State, U.heap = H1 → s.WarmedH U.vm → aPc sh z1 1 [(2, ((0 : Nat) : Int))] (fun o j => dfl sh o j) H1.size ([(2, ((0 : Nat) : Int))].map (mcv (XP sh z1 1))).toArray U := by
    intro U hU hW
    refine ⟨rfl, by rw [hU], by rw [hU]; exact hW1, va_K.moved hW.alike ?_, hok1, fun v hv => ?_, hN.warm hW, ?_, hI1, hAO.moved hW.alike⟩
    · rw [ez1]; exact hK
    · rw [List.mem_singleton.mp hv]
      exact ⟨trivial, Nat.le_refl 2, fun _ => by decide⟩
    · rw [hU]
      have hT1 : mST (XP sh z1 1) (fun q => s.heap.size ≤ q) s s.heap := by rw [ez1]; exact hT
      exact ((hT1.moved hW.alike).kept hS1.2.1).narrow hA2
  rw [List.map_cons, List.map_nil, er] at hpre
  have hrun : va_Run p l e room_1 s m #[Value.ref b] below meth c H1 locs (cells + 1) (slots + N) mc ms (F0 m (pc + 3 + 1) ls (.ref q :: .ref q :: st)) (.ref q :: st) (aQc sh z1 1 n' H1.size K (mA (XP sh z1 1) H1.size) [Value.ref q].toArray) (mA (XP sh z1 1) H1.size) :=
    va_runI (b := q) (As := []) ⟨hx, hb, hml2, hown, hts⟩ (hM z1 H1.size) (cwI 0 hts (mgi hco mtb_good) rfl rfl rfl (hts _ hiny) (hts _ hml) (hts _ him) hnm hdy ⟨Nat.le_of_ble_eq_true hR, Nat.le_of_ble_eq_true hR2⟩) ⟨a_blind, hpre⟩ rfl rfl hls rfl (lv_room (by show 1 + (st.map fun v => v.category).sum ≤ 8; omega)) hd2 ⟨hcs, hss⟩
  intro T' hT' Z
  obtain ⟨v, st₀, t, T2, L, h0, X', hL, e1, e2, ⟨⟨z', h', hv2, hz, hf, hI', hk, hh', hP'⟩, hzz, hkk⟩, stp⟩ := hrun T' hT' Z
  cases hv2
  rw [h0] at hzz hkk
  have hS' : va_S (fun q => s.heap.size ≤ q) s.heap T2.heap (locs ++ L) := by
    refine ⟨Nat.le_trans hS1.1 (by rw [e1]; exact hzz), fun x h1 h2 => ?_, fun x hq => ?_⟩
    · rw [e1, hkk x (Nat.lt_of_lt_of_le h1 hS1.1) (fun y => h2 (hA2 x y))]
      exact hS1.2.1 x h1 h2
    · rcases List.mem_append.mp hq with h | h
      · exact hS1.2.2 x h
      · exact hA2 _ (hL x h)
  have z0q : z'.2.2.1 ((0 : Nat) : Int) = q := by rw [hz.2.2.2 _ (by decide), ez1]
  have hws : ∀ (k : Nat) (w : Nat × va_E), ws[k]? = some w → w.1 < H1.size ∧ w.1 ≠ q := fun k w hk => by
    obtain ⟨y1, y2⟩ := hold k w hk
    refine ⟨(hP1 k w y1).lt, fun y => ?_⟩
    have := hD1.1 k ws.length w _ y1 hlast y
    omega
  obtain ⟨t2, a1, b1⟩ := k z' h' T2.heap (locs ++ L) (hz.1.trans (by rw [ez1])) (hz.2.1.trans (by rw [ez1])) (hz.2.2.1.trans (by rw [ez1])) (fun i hi => by
      by_cases t : i < 1
      · rw [show i = 0 by omega, z0q]; exact hq0
      · exact Nat.le_trans hS1.1 (hf i (by omega) hi)) (fun i k w hi hk y => by
      obtain ⟨y1, y2⟩ := hws k w hk
      by_cases t : i < 1
      · rw [show i = 0 by omega, z0q] at y; exact y2 y.symm
      · have := hf i (by omega) hi; omega) hI' hk hh' (by rw [e1]; exact hP') (va_P.kept (H := H1) (fun k w hk => hP1 k w (hold k w hk).1) (fun k w hk => by
      obtain ⟨y1, y2⟩ := hws k w hk
      rw [e1]
      exact hkk _ y1 (fun y => by
        rcases y with ⟨i, a, b⟩ | y
        · rw [ez1] at b; exact y2 b
        · omega))) hS' T2 rfl X'
  rw [z0q] at a1
  exact ⟨t2, stp t2 a1, b1⟩
end LM
