/-! ===== rows of what lays cells ===== -/
theorem avk_cons {n : Nat} {v : Mv} {st : List Mv} (h1 : avk n v) (h2 : ∀ w ∈ st, avk n w) : ∀ w ∈ v :: st, avk n w := fun w hw => by
  rcases List.mem_cons.mp hw with q | q
  · exact q ▸ h1
  · exact h2 w q
theorem avk_tl {n : Nat} {v : Mv} {st : List Mv} (h : ∀ w ∈ v :: st, avk n w) : ∀ w ∈ st, avk n w := fun w hw => h w (List.mem_cons_of_mem _ hw)
theorem avk_hd {n : Nat} {v : Mv} {st : List Mv} (h : ∀ w ∈ v :: st, avk n w) : avk n v := h v List.mem_cons_self
theorem avk_i {n : Nat} {x : Int} (h : r32 x) : avk n (0, x) := ⟨h, Nat.zero_le 2, fun q => absurd (show (0 : Nat) = 2 from q) (by decide)⟩
theorem mcv_p {sh : Int → Nat × Nat} {z : Mz} {n : Nat} {x : Int} (h : 0 ≤ x) : mcv (XP sh z n) (2, x) = .ref (z.2.2.1 x) := by
  show (if x < 0 then Value.null else .ref (z.2.2.1 x)) = _
  rw [if_neg (by omega)]
/-- one cell more: its address is the newest -/
def zup (z : Mz) (n a : Nat) : Mz := (z.1, z.2.1, fun i => if i = (n : Int) then a else z.2.2.1 i, z.2.2.2)
theorem zup_le (z : Mz) (n a : Nat) : zle z (zup z n a) n := ⟨rfl, rfl, rfl, fun i hi => by show (if i = (n : Int) then a else z.2.2.1 i) = _; rw [if_neg (by omega)]⟩
theorem zup_at (z : Mz) (n a : Nat) : (zup z n a).2.2.1 n = a := by show (if (n : Int) = n then a else _) = a; rw [if_pos rfl]
section AR
variable {sh : Int → Nat × Nat} {z : Mz} {n : Nat} {p : Program} {l : Launch} {e : Env} {R : Room} {s : State} {m : MethodId} {args : Array Value} {below : List Frame} {meth : Method} {c : Code} {cc : ByteArray} {nL : Nat} {own : String} {Q : State → Prop} {cells slots pc : Nat} {lo : List (Nat × Mv)} {st : List Mv} {h : Mh}
theorem a_aload_n (C : aC sh z n p l e R s m args below meth c cc nL own) {j : Fin 4} {i : Nat} {x : Int} (hd : decode cc pc = .ok (.aload_n j, 1)) (hi : (j : Nat) = i) (h0 : 0 ≤ x) (hk : lo.lookup i = some (2, x)) (k : aG sh z n p l e R s m args below meth c nL Q cells slots (pc + 1) lo ((2, x) :: st) h) : aG sh z n p l e R s m args below meth c nL Q cells slots pc lo st h := by
  intro H locs ls hs hl hh hP hS hv
  have g := lv_get hv hk
  have k := k H locs ls (avk_cons (hl _ (mlook hk)) hs) hl hh hP hS hv
  rw [mcv_p h0] at g
  rw [List.map_cons, mcv_p h0] at k
  exact lv_aload_n C.1.1 C.1.2.1 hd hi g k
theorem a_iload_n (C : aC sh z n p l e R s m args below meth c cc nL own) {j : Fin 4} {i : Nat} {x : Int} (hd : decode cc pc = .ok (.iload_n j, 1)) (hi : (j : Nat) = i) (hk : lo.lookup i = some (0, x)) (k : aG sh z n p l e R s m args below meth c nL Q cells slots (pc + 1) lo ((0, x) :: st) h) : aG sh z n p l e R s m args below meth c nL Q cells slots pc lo st h := by
  intro H locs ls hs hl hh hP hS hv
  exact lv_iload_n (x := Int32.ofInt x) C.1.1 C.1.2.1 hd hi (lv_get hv hk) (k H locs ls (avk_cons (hl _ (mlook hk)) hs) hl hh hP hS hv)
theorem a_iconst (C : aC sh z n p l e R s m args below meth c cc nL own) {k : Int} (hr : r32 k) (hd : decode cc pc = .ok (.iconst k, 1)) (kk : aG sh z n p l e R s m args below meth c nL Q cells slots (pc + 1) lo ((0, k) :: st) h) : aG sh z n p l e R s m args below meth c nL Q cells slots pc lo st h := by
  intro H locs ls hs hl hh hP hS hv
  exact lv_iconst (v := Int32.ofInt k) C.1.1 C.1.2.1 hd rfl (kk H locs ls (avk_cons (avk_i hr) hs) hl hh hP hS hv)
theorem a_bipush (C : aC sh z n p l e R s m args below meth c cc nL own) {k : Int} (hr : r32 k) (hv8 : (Int8.ofInt k).toInt32 = Int32.ofInt k) (hd : decode cc pc = .ok (.bipush k, 2)) (kk : aG sh z n p l e R s m args below meth c nL Q cells slots (pc + 2) lo ((0, k) :: st) h) : aG sh z n p l e R s m args below meth c nL Q cells slots pc lo st h := by
  intro H locs ls hs hl hh hP hS hv
  exact lv_bipush (v := Int32.ofInt k) C.1.1 C.1.2.1 hd hv8 (kk H locs ls (avk_cons (avk_i hr) hs) hl hh hP hS hv)
theorem a_sipush (C : aC sh z n p l e R s m args below meth c cc nL own) {k : Int} (hr : r32 k) (hv8 : (Int16.ofInt k).toInt32 = Int32.ofInt k) (hd : decode cc pc = .ok (.sipush k, 3)) (kk : aG sh z n p l e R s m args below meth c nL Q cells slots (pc + 3) lo ((0, k) :: st) h) : aG sh z n p l e R s m args below meth c nL Q cells slots pc lo st h := by
  intro H locs ls hs hl hh hP hS hv
  exact lv_sipush (v := Int32.ofInt k) C.1.1 C.1.2.1 hd hv8 (kk H locs ls (avk_cons (avk_i hr) hs) hl hh hP hS hv)
theorem a_dup (C : aC sh z n p l e R s m args below meth c cc nL own) {v : Mv} (hv1 : ¬ v.1 = 1) (hd : decode cc pc = .ok (.dup, 1)) (kk : aG sh z n p l e R s m args below meth c nL Q cells slots (pc + 1) lo (v :: v :: st) h) : aG sh z n p l e R s m args below meth c nL Q cells slots pc lo (v :: st) h := by
  intro H locs ls hs hl hh hP hS hv
  exact lv_dup C.1.1 C.1.2.1 hd (mcat1 hv1) (kk H locs ls (avk_cons (avk_hd hs) hs) hl hh hP hS hv)
theorem a_objInit (C : aC sh z n p l e R s m args below meth c cc nL own) {idx : Nat} {x : Int} (h0 : 0 ≤ x) (hml : Cond.methodLink own idx Lib.objectInit ∈ mtb) (him : Cond.instanceMethod Lib.objectInit ∈ mtb) (hco : Cond.code Lib.objectInit ⟨#[0xb1]⟩ 1 none ∈ mtb) (hR : Nat.ble 1 R.frames = true) (hR2 : Nat.ble 20 R.locals = true) (hrm : Nat.ble (mwords st) 8 = true) (hd : decode cc pc = .ok (.invokespecial idx, 3)) (kk : aG sh z n p l e R s m args below meth c nL Q cells slots (pc + 3) lo st h) : aG sh z n p l e R s m args below meth c nL Q cells slots pc lo ((2, x) :: st) h := by
  intro H locs ls hs hl hh hP hS hv
  have hts := C.1.2.2.2.2.1
  have kk := kk H locs ls (avk_tl hs) hl hh hP hS hv
  rw [List.map_cons, mcv_p h0]
  refine W.objInit C.1.1 C.1.2.1 C.1.2.2.2.1 (hts _ hml) (hts _ him) (hts _ hco) rfl (by rw [C.1.2.2.1]; exact hv.1) rfl hd (Nat.le_of_ble_eq_true hR) ?_ ?_
  · have := Nat.le_of_ble_eq_true hR2
    have h8 : 2 * (F0 m pc ls (.ref (z.2.2.1 x) :: st.map (mcv (XP sh z n)))).monitorRoom + ((st.map (mcv (XP sh z n))).map fun v => v.category).sum ≤ 8 := lv_room (by rw [mwords_cat]; exact Nat.le_of_ble_eq_true hrm)
    omega
  · exact kk
/-- a new cell is fresh -/
theorem a_fresh {ws : va_W} {q : Nat} {e' : va_E} {sz : Nat} (hw : ws = mW (XP sh z n) h) (hD : va_D (mA (XP sh z n) sz) (ws ++ [(q, e')])) (hI : mInj (XP sh z n)) (hsh : (sh n).1 < 90 → True) (hl : (sh n).2 < 2147483648) : sz ≤ q ∧ mInj (XP sh (zup z n q) (n + 1)) := by
  have hlen : (mW (XP sh z n) h).length = n := by
    show ((List.range n).map _).length = n
    rw [List.length_map, List.length_range]
  have hlast : (ws ++ [(q, e')])[n]? = some (q, e') := by rw [hw, List.getElem?_append_right (by omega), hlen]; simp
  have hin : ∀ i : Nat, i < n → (ws ++ [(q, e')])[i]? = some (z.2.2.1 i, mE (XP sh z n) (mxS (XP sh z n) i) (h i)) := fun i hi => by
    rw [hw, List.getElem?_append_left (by omega)]
    exact mW_at (X := XP sh z n) hi
  have hne : ∀ i : Nat, i < n → z.2.2.1 i ≠ q := fun i hi y => by
    have := hD.1 i n _ _ (hin i hi) hlast y
    omega
  refine ⟨?_, ?_, ?_, ?_⟩
  · rcases hD.2 n _ hlast with ⟨i, h1, h2⟩ | h2
    · exact absurd h2.symm (hne i h1)
    · exact h2
  · intro i j hi hj e1
    have hi' : i < n + 1 := hi
    have hj' : j < n + 1 := hj
    have e2 : (if (i : Int) = n then q else z.2.2.1 i) = (if (j : Int) = n then q else z.2.2.1 j) := e1
    by_cases a : i = n
    · by_cases b : j = n
      · omega
      · rw [if_pos (by omega), if_neg (by omega)] at e2
        exact absurd e2.symm (hne j (by omega))
    · by_cases b : j = n
      · rw [if_neg (by omega), if_pos (by omega)] at e2
        exact absurd e2 (hne i (by omega))
      · rw [if_neg (by omega), if_neg (by omega)] at e2
        exact hI.1 i j (show i < n by omega) (show j < n by omega) e2
  · intro o ho
    have ho' : (if o < ((n + 1 : Nat) : Int) then sh o else (99, 0)).1 < 90 := ho
    by_cases a : o < ((n + 1 : Nat) : Int)
    · by_cases b : o < (n : Int)
      · have := hI.2.1 o (by rw [XP_S b]; rw [if_pos a] at ho'; exact ho')
        exact ⟨this.1, by show o < ((n + 1 : Nat) : Int); omega⟩
      · exact ⟨by omega, by show o < ((n + 1 : Nat) : Int); omega⟩
    · rw [if_neg a] at ho'
      exact absurd ho' (by decide)
  · intro o
    show (if o < ((n + 1 : Nat) : Int) then sh o else (99, 0)).2 < 2147483648
    by_cases a : o < ((n + 1 : Nat) : Int)
    · rw [if_pos a]
      by_cases b : o < (n : Int)
      · have := hI.2.2 o
        rw [XP_S b] at this
        exact this
      · rw [show o = (n : Int) by omega]; exact hl
    · rw [if_neg a]; decide
/-- whatever was written for the old cells holds for one cell more -/
theorem a_more (C : aC sh z n p l e R s m args below meth c cc nL own) {q : Nat} {H1 : Heap} {locs : List Loc} {ls : Array Slot} (hq : s.heap.size ≤ q) (hI : mInj (XP sh (zup z n q) (n + 1))) (hs : ∀ v ∈ st, avk n v) (hl : ∀ v ∈ lo, avk n v.2) (hh : aok sh n h) (hn : ∀ j : Int, h n j = dfl sh n j)
    (hP : va_P (mxD (XP sh z n)) mcl (mW (XP sh z n) h ++ [(q, mE (XP sh (zup z n q) (n + 1)) (sh n) (h n))]) H1) (hS : va_S (mA (XP sh z n) s.heap.size) s.heap H1 locs) (hv : lv_has ls nL (lo.map fun q => (q.1, mcv (XP sh z n) q.2)))
    (k : ∀ z', zle z z' n → (∀ i : Nat, n ≤ i → i < n + 1 → s.heap.size ≤ z'.2.2.1 i) → aC sh z' (n + 1) p l e R s m args below meth c cc nL own → aG sh z' (n + 1) p l e R s m args below meth c nL Q cells slots pc lo ((2, (n : Int)) :: st) h) : W p l e R s m args below meth c H1 locs cells slots Q (F0 m pc ls (.ref q :: st.map (mcv (XP sh z n)))) := by
  have hz := zup_le z n q
  have hat := zup_at z n q
  have C' := C.go (n' := n + 1) hz (fun i a b => by rw [show i = n by omega, hat]; exact hq) hI
  have kk := k _ hz (fun i a b => by rw [show i = n by omega, hat]; exact hq) C' H1 locs ls (avk_cons ⟨trivial, Nat.le_refl 2, fun _ => by show (n : Int) < ((n + 1 : Nat) : Int); omega⟩ (fun v y => (hs v y).le (by omega))) (fun v y => (hl v y).le (by omega)) (aok_new hh hn) (by rw [mW_one hh hz, hat]; exact hP) ⟨hS.1, fun x a b => hS.2.1 x a (fun y => b (mA_ge hz (by omega) y)), fun x a => mA_ge hz (by omega) (hS.2.2 x a)⟩ (by
    have e1 : (lo.map fun x => (x.1, mcv (XP sh (zup z n q) (n + 1)) x.2)) = lo.map fun x => (x.1, mcv (XP sh z n) x.2) := List.map_congr_left (fun v y => by rw [mcv_le (hl v y) hz])
    rw [e1]; exact hv)
  rw [List.map_cons, mcv_p (by omega), hat, List.map_congr_left (fun v y => mcv_le (hs v y) hz)] at kk
  exact kk
end AR
