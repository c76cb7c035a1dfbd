/-! ===== the enum at the law's entry ===== -/
theorem mw_1 (j : Nat) {w : Cond} (hj : tables_1_1[j]? = some w) : w ∈ lw_tbl := mk_t (have h := List.mem_of_getElem? hj; List.mem_append_left _ h)
theorem mw_2 (j : Nat) {w : Cond} (hj : tables_1_2[j]? = some w) : w ∈ lw_tbl := mk_t (have h := List.mem_of_getElem? hj; List.mem_append_right _ (List.mem_append_left _ h))
theorem mw_3 (j : Nat) {w : Cond} (hj : tables_1_3[j]? = some w) : w ∈ lw_tbl := mk_t (have h := List.mem_of_getElem? hj; List.mem_append_right _ (List.mem_append_right _ (List.mem_append_left _ h)))
theorem mw_4 (j : Nat) {w : Cond} (hj : tables_1_4[j]? = some w) : w ∈ lw_tbl := mk_t (have h := List.mem_of_getElem? hj; List.mem_append_right _ (List.mem_append_right _ (List.mem_append_right _ (List.mem_append_left _ h))))
theorem mw_5 (j : Nat) {w : Cond} (hj : tables_1_5[j]? = some w) : w ∈ lw_tbl := mk_t (have h := List.mem_of_getElem? hj; List.mem_append_right _ (List.mem_append_right _ (List.mem_append_right _ (List.mem_append_right _ (List.mem_append_left _ h)))))
theorem mw_6 (j : Nat) {w : Cond} (hj : tables_1_6[j]? = some w) : w ∈ lw_tbl := mk_t (have h := List.mem_of_getElem? hj; List.mem_append_right _ (List.mem_append_right _ (List.mem_append_right _ (List.mem_append_right _ (List.mem_append_right _ (List.mem_append_left _ h))))))
theorem mw_7 (j : Nat) {w : Cond} (hj : tables_1_7[j]? = some w) : w ∈ lw_tbl := mk_t (have h := List.mem_of_getElem? hj; List.mem_append_right _ (List.mem_append_right _ (List.mem_append_right _ (List.mem_append_right _ (List.mem_append_right _ (List.mem_append_right _ (List.mem_append_left _ h)))))))
theorem mw_8 (j : Nat) {w : Cond} (hj : tables_1_8[j]? = some w) : w ∈ lw_tbl := mk_t (have h := List.mem_of_getElem? hj; List.mem_append_right _ (List.mem_append_right _ (List.mem_append_right _ (List.mem_append_right _ (List.mem_append_right _ (List.mem_append_right _ (List.mem_append_right _ (List.mem_append_left _ h))))))))
theorem mw_9 (j : Nat) {w : Cond} (hj : tables_1_9[j]? = some w) : w ∈ lw_tbl := mk_t (have h := List.mem_of_getElem? hj; List.mem_append_right _ (List.mem_append_right _ (List.mem_append_right _ (List.mem_append_right _ (List.mem_append_right _ (List.mem_append_right _ (List.mem_append_right _ (List.mem_append_right _ (List.mem_append_left _ h)))))))))
theorem mw_10 (j : Nat) {w : Cond} (hj : tables_1_10[j]? = some w) : w ∈ lw_tbl := mk_t (have h := List.mem_of_getElem? hj; List.mem_append_right _ (List.mem_append_right _ (List.mem_append_right _ (List.mem_append_right _ (List.mem_append_right _ (List.mem_append_right _ (List.mem_append_right _ (List.mem_append_right _ (List.mem_append_right _ (h))))))))))
theorem nf_l : ∀ i : Nat, i < 22 → Cond.laysStatic "PondReader$Word" (mWn.getD i "") "LPondReader$Word;" ∈ lw_tbl := by
  intro i hi
  match i, hi with
  | 0, _ => exact mw_10 15 rfl
  | 1, _ => exact mw_10 16 rfl
  | 2, _ => exact mw_10 17 rfl
  | 3, _ => exact mw_4 113 rfl
  | 4, _ => exact mw_10 18 rfl
  | 5, _ => exact mw_4 14 rfl
  | 6, _ => exact mw_10 19 rfl
  | 7, _ => exact mw_10 20 rfl
  | 8, _ => exact mw_10 21 rfl
  | 9, _ => exact mw_10 22 rfl
  | 10, _ => exact mw_10 23 rfl
  | 11, _ => exact mw_10 24 rfl
  | 12, _ => exact mw_10 25 rfl
  | 13, _ => exact mw_10 26 rfl
  | 14, _ => exact mw_10 27 rfl
  | 15, _ => exact mw_10 28 rfl
  | 16, _ => exact mw_10 29 rfl
  | 17, _ => exact mw_10 30 rfl
  | 18, _ => exact mw_10 31 rfl
  | 19, _ => exact mw_10 32 rfl
  | 20, _ => exact mw_10 33 rfl
  | 21, _ => exact mw_10 34 rfl
  | i + 22, hi => omega
theorem nf_a1 : Cond.laysStatic "PondReader$Word" "ALL" "[LPondReader$Word;" ∈ lw_tbl := mw_3 132 rfl
theorem nf_a2 : Cond.laysStatic "PondReader$1" "$SwitchMap$PondReader$Word" "[I" ∈ lw_tbl := mw_3 166 rfl
theorem nf_a3 : Cond.initialized "PondReader$Word" ∈ lw_tbl := mw_1 16 rfl
theorem nf_a4 : Cond.initialized "PondReader$1" ∈ lw_tbl := mw_1 17 rfl
theorem nf_a5 : Cond.arrayOver (.object RX7) ∈ lw_tbl := mw_1 62 rfl
def prL : List (Nat × Nat × Nat) := [(5, 3, 64), (5, 0, 71), (3, 0, 72), (5, 1, 77), (3, 1, 78), (0, 1, 79), (5, 2, 84), (3, 2, 85), (0, 2, 86), (1, 2, 87), (5, 4, 92), (3, 4, 93), (0, 4, 94), (1, 4, 95), (2, 4, 96), (5, 6, 101), (3, 6, 102), (0, 6, 103), (1, 6, 104), (2, 6, 105), (4, 6, 106), (5, 7, 111), (3, 7, 112), (0, 7, 113), (1, 7, 114), (2, 7, 115), (4, 7, 116), (6, 7, 117), (5, 8, 122), (3, 8, 123), (0, 8, 124), (1, 8, 125), (2, 8, 126), (4, 8, 127), (6, 8, 128), (7, 8, 129), (5, 9, 134), (3, 9, 135), (0, 9, 136), (1, 9, 137), (2, 9, 138), (4, 9, 139), (6, 9, 140), (7, 9, 141), (8, 9, 142), (5, 10, 147), (3, 10, 148), (0, 10, 149), (1, 10, 150), (2, 10, 151), (4, 10, 152), (6, 10, 153), (7, 10, 154), (8, 10, 155), (9, 10, 156), (5, 11, 161), (3, 11, 162), (0, 11, 163), (1, 11, 164), (2, 11, 165), (4, 11, 166), (6, 11, 167), (7, 11, 168), (8, 11, 169), (9, 11, 170), (10, 11, 171), (5, 12, 176), (3, 12, 177), (0, 12, 178), (1, 12, 179), (2, 12, 180), (4, 12, 181), (6, 12, 182), (7, 12, 183), (8, 12, 184), (9, 12, 185), (10, 12, 186), (11, 12, 187), (5, 13, 192), (3, 13, 193), (0, 13, 194), (1, 13, 195), (2, 13, 196), (4, 13, 197), (6, 13, 198), (7, 13, 199), (8, 13, 200), (9, 13, 201), (10, 13, 202), (11, 13, 203), (12, 13, 204), (5, 14, 209), (3, 14, 210), (0, 14, 211), (1, 14, 212), (2, 14, 213), (4, 14, 214), (6, 14, 215), (7, 14, 216), (8, 14, 217), (9, 14, 218), (10, 14, 219), (11, 14, 220), (12, 14, 221), (13, 14, 222), (5, 15, 227), (3, 15, 228), (0, 15, 229), (1, 15, 230), (2, 15, 231), (4, 15, 232), (6, 15, 233), (7, 15, 234), (8, 15, 235), (9, 15, 236), (10, 15, 237), (11, 15, 238), (12, 15, 239), (13, 15, 240), (14, 15, 241), (5, 16, 246), (3, 16, 247), (0, 16, 248), (1, 16, 249), (2, 16, 250), (4, 16, 251), (6, 16, 252), (7, 16, 253), (8, 16, 254), (9, 16, 255), (10, 16, 256), (11, 16, 257), (12, 16, 258), (13, 16, 259), (14, 16, 260), (15, 16, 261), (5, 17, 266), (3, 17, 267), (0, 17, 268), (1, 17, 269), (2, 17, 270), (4, 17, 271), (6, 17, 272), (7, 17, 273), (8, 17, 274), (9, 17, 275), (10, 17, 276), (11, 17, 277), (12, 17, 278), (13, 17, 279), (14, 17, 280), (15, 17, 281), (16, 17, 282), (5, 18, 287), (3, 18, 288), (0, 18, 289), (1, 18, 290), (2, 18, 291), (4, 18, 292), (6, 18, 293), (7, 18, 294), (8, 18, 295), (9, 18, 296), (10, 18, 297), (11, 18, 298), (12, 18, 299), (13, 18, 300), (14, 18, 301), (15, 18, 302), (16, 18, 303), (17, 18, 304), (5, 19, 309), (3, 19, 310), (0, 19, 311), (1, 19, 312), (2, 19, 313), (4, 19, 314), (6, 19, 315), (7, 19, 316), (8, 19, 317), (9, 19, 318), (10, 19, 319), (11, 19, 320), (12, 19, 321), (13, 19, 322), (14, 19, 323), (15, 19, 324), (16, 19, 325), (17, 19, 326), (18, 19, 327), (5, 20, 332), (3, 20, 333), (0, 20, 334), (1, 20, 335), (2, 20, 336), (4, 20, 337), (6, 20, 338), (7, 20, 339), (8, 20, 340), (9, 20, 341), (10, 20, 342), (11, 20, 343), (12, 20, 344), (13, 20, 345), (14, 20, 346), (15, 20, 347), (16, 20, 348), (17, 20, 349), (18, 20, 350), (19, 20, 351), (5, 21, 356), (3, 21, 357), (0, 21, 358), (1, 21, 359), (2, 21, 360), (4, 21, 361), (6, 21, 362), (7, 21, 363), (8, 21, 364), (9, 21, 365), (10, 21, 366), (11, 21, 367), (12, 21, 368), (13, 21, 369), (14, 21, 370), (15, 21, 371), (16, 21, 372), (17, 21, 373), (18, 21, 374), (19, 21, 375), (20, 21, 376)]
set_option maxRecDepth 100000 in
theorem nf_p : ∀ t ∈ prL, nfl[t.2.2]? = some (Cond.not (.eq (.static "PondReader$Word" (mWn.getD t.1 "") "LPondReader$Word;") (.static "PondReader$Word" (mWn.getD t.2.1 "") "LPondReader$Word;"))) := by decide +kernel
set_option maxRecDepth 100000 in
theorem nf_q : ∀ i : Nat, i < 22 → ∀ j : Nat, j < 22 → i ≠ j → (prL.any fun t => (Nat.beq t.1 i && Nat.beq t.2.1 j) || (Nat.beq t.1 j && Nat.beq t.2.1 i)) = true := by decide +kernel
theorem nf_d (i j : Nat) (hi : i < 22) (hj : j < 22) (hn : i ≠ j) : Cond.not (.eq (.static "PondReader$Word" (mWn.getD i "") "LPondReader$Word;") (.static "PondReader$Word" (mWn.getD j "") "LPondReader$Word;")) ∈ nfl ∨ Cond.not (.eq (.static "PondReader$Word" (mWn.getD j "") "LPondReader$Word;") (.static "PondReader$Word" (mWn.getD i "") "LPondReader$Word;")) ∈ nfl := by
  obtain ⟨t, ht, h⟩ := List.any_eq_true.mp (nf_q i hi j hj hn)
  have hm := List.mem_of_getElem? (nf_p t ht)
  rw [Bool.or_eq_true, Bool.and_eq_true, Bool.and_eq_true] at h
  rcases h with ⟨a, b⟩ | ⟨a, b⟩
  · rw [Nat.eq_of_beq_eq_true a, Nat.eq_of_beq_eq_true b] at hm; exact Or.inl hm
  · rw [Nat.eq_of_beq_eq_true a, Nat.eq_of_beq_eq_true b] at hm; exact Or.inr hm
theorem ground_ST {s : State} {args : Array Value} (hts : ∀ w ∈ lw_tbl, w.before args s = true) (hgv : (Jvm.Cond.and given_1 narrow_1).before args s = true) : ∃ (eA : Nat → Nat) (t u : Nat), va_En "PondReader$Word" "LPondReader$Word;" mWn mWF eA (fun q => s.heap.size ≤ q) s s.heap ∧ va_Z "PondReader$Word" "ALL" "[LPondReader$Word;" (.ref t) (fun q => s.heap.size ≤ q) s s.heap ∧ va_T (.object "PondReader$Word") t 22 (fun j => .ref (eA j)) (fun q => s.heap.size ≤ q) s s.heap ∧
    va_Z "PondReader$1" "$SwitchMap$PondReader$Word" "[I" (.ref u) (fun q => s.heap.size ≤ q) s s.heap ∧ va_T .int u 22 (fun j => .int (mSm.getD j 0)) (fun q => s.heap.size ≤ q) s s.heap := by
  have hs : ∀ w ∈ nfl, w.before args s = true := flat_of_before _ hgv
  have hA : ∀ a : Nat, a < s.heap.size → ¬ (fun q => s.heap.size ≤ q) a := fun a h => Nat.not_le.mpr h
  obtain ⟨eA, hE, he⟩ := va_Enof2 (nm := mWn) (F := mWF) (A := fun q => s.heap.size ≤ q) (fun i hi => hts _ (nf_l i hi)) (hts _ nf_a3) (fun i hi => hs _ (nf_ex i hi)) (fun q hq i hi => hs _ (nf_f q hq i hi)) (fun i j hi hj hn => (nf_d i j hi hj hn).elim (fun y => Or.inl (hs _ y)) (fun y => Or.inr (hs _ y))) hA
  obtain ⟨t, ht, hT⟩ := va_Tof (N := 22) (f := fun j => .ref (eA j)) (A := fun q => s.heap.size ≤ q) (by decide) (hs _ nf_b.1) (va_eqt (hs _ nf_b.2.1)) (fun j hj => va_eqv (hs _ (nf_e j hj)) (he j hj)) hA
  obtain ⟨u, hu, hU⟩ := va_Tof (N := 22) (f := fun j => .int (mSm.getD j 0)) (A := fun q => s.heap.size ≤ q) (by decide) (hs _ nf_b.2.2.1) (va_eqt (hs _ nf_b.2.2.2)) (fun j hj => va_eqt (hs _ (nf_m j hj))) hA
  exact ⟨eA, t, u, hE, va_Zof (hts _ nf_a1) (hts _ nf_a3) ht hA, hT, va_Zof (hts _ nf_a2) (hts _ nf_a4) hu hA, hU⟩
