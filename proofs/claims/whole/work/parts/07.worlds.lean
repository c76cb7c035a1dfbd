/-! ===== the two worlds as their constructors lay them ===== -/
abbrev Mz : Type := va_G × (Nat → ClassId) × (Int → Nat) × (Nat → Nat) × Nat × Nat
def mWir (X : Mx) : Prop := (∀ r : Int, (mxS X r).1 = 0 → mxW X r 0 = r + 1 ∧ (mxS X (r + 1)).1 = 14) ∧ (∀ r : Int, (mxS X r).1 = 0 → mxW X r 1 = r + 2 ∧ (mxS X (r + 2)).1 = 14) ∧ (∀ r : Int, (mxS X r).1 = 0 → mxW X r 2 = r + 3 ∧ (mxS X (r + 3)).1 = 14) ∧ (∀ r : Int, (mxS X r).1 = 2 → mxW X r 0 = r + 1 ∧ (mxS X (r + 1)).1 = 14) ∧ (∀ r : Int, (mxS X r).1 = 2 → mxW X r 1 = r + 2 ∧ (mxS X (r + 2)).1 = 14) ∧ (∀ r : Int, (mxS X r).1 = 2 → mxW X r 2 = r + 3 ∧ (mxS X (r + 3)).1 = 15) ∧ (∀ r : Int, (mxS X r).1 = 2 → mxW X r 3 = r + 4 ∧ (mxS X (r + 4)).1 = 15) ∧ (∀ r : Int, (mxS X r).1 = 4 → mxW X r 4 = r + 1 ∧ (mxS X (r + 1)).1 = 6) ∧ (∀ r : Int, (mxS X r).1 = 4 → mxW X r 5 = r + 3 ∧ (mxS X (r + 3)).1 = 17) ∧ (∀ r : Int, (mxS X r).1 = 4 → mxW X r 6 = r + 10 ∧ (mxS X (r + 10)).1 = 6) ∧ (∀ r : Int, (mxS X r).1 = 4 → mxW X r 7 = r + 12 ∧ (mxS X (r + 12)).1 = 6) ∧ (∀ r : Int, (mxS X r).1 = 4 → mxW X r 8 = r + 14 ∧ (mxS X (r + 14)).1 = 17) ∧ (∀ r : Int, (mxS X r).1 = 4 → mxW X r 9 = r + 23 ∧ (mxS X (r + 23)).1 = 6) ∧ (∀ r : Int, (mxS X r).1 = 4 → mxW X r 10 = r + 25 ∧ (mxS X (r + 25)).1 = 6) ∧ (∀ r : Int, (mxS X r).1 = 4 → mxW X r 11 = r + 27 ∧ (mxS X (r + 27)).1 = 6) ∧ (∀ r : Int, (mxS X r).1 = 4 → mxW X r 12 = r + 29 ∧ (mxS X (r + 29)).1 = 6) ∧ (∀ r : Int, (mxS X r).1 = 4 → mxW X r 13 = r + 31 ∧ (mxS X (r + 31)).1 = 6) ∧ (∀ r : Int, (mxS X r).1 = 4 → mxW X r 14 = r + 33 ∧ (mxS X (r + 33)).1 = 0) ∧ (∀ r : Int, (mxS X r).1 = 4 → mxW X r 15 = r + 37 ∧ (mxS X (r + 37)).1 = 2) ∧ (∀ r : Int, (mxS X r).1 = 4 → mxW X r 16 = r + 42 ∧ (mxS X (r + 42)).1 = 6) ∧ (∀ r : Int, (mxS X r).1 = 6 → mxW X r 0 = r + 1 ∧ (mxS X (r + 1)).1 = 14) ∧ (∀ a i : Int, (mxS X a).1 = 17 → 0 ≤ i → i < (mxS X a).2 → mxW X a i = a + 1 + 2 * i ∧ (mxS X (a + 1 + 2 * i)).1 = 6)
theorem wir_0_0 {X : Mx} {r : Int} (hW : mWir X) (q : (mxS X r).1 = 0) : mxW X r 0 = r + 1 := (hW.1 r q).1
theorem kid_0_0 {X : Mx} {r : Int} (hW : mWir X) (q : (mxS X r).1 = 0) : (mxS X (r + 1)).1 = 14 := (hW.1 r q).2
theorem wir_0_1 {X : Mx} {r : Int} (hW : mWir X) (q : (mxS X r).1 = 0) : mxW X r 1 = r + 2 := (hW.2.1 r q).1
theorem kid_0_1 {X : Mx} {r : Int} (hW : mWir X) (q : (mxS X r).1 = 0) : (mxS X (r + 2)).1 = 14 := (hW.2.1 r q).2
theorem wir_0_2 {X : Mx} {r : Int} (hW : mWir X) (q : (mxS X r).1 = 0) : mxW X r 2 = r + 3 := (hW.2.2.1 r q).1
theorem kid_0_2 {X : Mx} {r : Int} (hW : mWir X) (q : (mxS X r).1 = 0) : (mxS X (r + 3)).1 = 14 := (hW.2.2.1 r q).2
theorem wir_2_0 {X : Mx} {r : Int} (hW : mWir X) (q : (mxS X r).1 = 2) : mxW X r 0 = r + 1 := (hW.2.2.2.1 r q).1
theorem kid_2_0 {X : Mx} {r : Int} (hW : mWir X) (q : (mxS X r).1 = 2) : (mxS X (r + 1)).1 = 14 := (hW.2.2.2.1 r q).2
theorem wir_2_1 {X : Mx} {r : Int} (hW : mWir X) (q : (mxS X r).1 = 2) : mxW X r 1 = r + 2 := (hW.2.2.2.2.1 r q).1
theorem kid_2_1 {X : Mx} {r : Int} (hW : mWir X) (q : (mxS X r).1 = 2) : (mxS X (r + 2)).1 = 14 := (hW.2.2.2.2.1 r q).2
theorem wir_2_2 {X : Mx} {r : Int} (hW : mWir X) (q : (mxS X r).1 = 2) : mxW X r 2 = r + 3 := (hW.2.2.2.2.2.1 r q).1
theorem kid_2_2 {X : Mx} {r : Int} (hW : mWir X) (q : (mxS X r).1 = 2) : (mxS X (r + 3)).1 = 15 := (hW.2.2.2.2.2.1 r q).2
theorem wir_2_3 {X : Mx} {r : Int} (hW : mWir X) (q : (mxS X r).1 = 2) : mxW X r 3 = r + 4 := (hW.2.2.2.2.2.2.1 r q).1
theorem kid_2_3 {X : Mx} {r : Int} (hW : mWir X) (q : (mxS X r).1 = 2) : (mxS X (r + 4)).1 = 15 := (hW.2.2.2.2.2.2.1 r q).2
theorem wir_4_4 {X : Mx} {r : Int} (hW : mWir X) (q : (mxS X r).1 = 4) : mxW X r 4 = r + 1 := (hW.2.2.2.2.2.2.2.1 r q).1
theorem kid_4_4 {X : Mx} {r : Int} (hW : mWir X) (q : (mxS X r).1 = 4) : (mxS X (r + 1)).1 = 6 := (hW.2.2.2.2.2.2.2.1 r q).2
theorem wir_4_5 {X : Mx} {r : Int} (hW : mWir X) (q : (mxS X r).1 = 4) : mxW X r 5 = r + 3 := (hW.2.2.2.2.2.2.2.2.1 r q).1
theorem kid_4_5 {X : Mx} {r : Int} (hW : mWir X) (q : (mxS X r).1 = 4) : (mxS X (r + 3)).1 = 17 := (hW.2.2.2.2.2.2.2.2.1 r q).2
theorem wir_4_6 {X : Mx} {r : Int} (hW : mWir X) (q : (mxS X r).1 = 4) : mxW X r 6 = r + 10 := (hW.2.2.2.2.2.2.2.2.2.1 r q).1
theorem kid_4_6 {X : Mx} {r : Int} (hW : mWir X) (q : (mxS X r).1 = 4) : (mxS X (r + 10)).1 = 6 := (hW.2.2.2.2.2.2.2.2.2.1 r q).2
theorem wir_4_7 {X : Mx} {r : Int} (hW : mWir X) (q : (mxS X r).1 = 4) : mxW X r 7 = r + 12 := (hW.2.2.2.2.2.2.2.2.2.2.1 r q).1
theorem kid_4_7 {X : Mx} {r : Int} (hW : mWir X) (q : (mxS X r).1 = 4) : (mxS X (r + 12)).1 = 6 := (hW.2.2.2.2.2.2.2.2.2.2.1 r q).2
theorem wir_4_8 {X : Mx} {r : Int} (hW : mWir X) (q : (mxS X r).1 = 4) : mxW X r 8 = r + 14 := (hW.2.2.2.2.2.2.2.2.2.2.2.1 r q).1
theorem kid_4_8 {X : Mx} {r : Int} (hW : mWir X) (q : (mxS X r).1 = 4) : (mxS X (r + 14)).1 = 17 := (hW.2.2.2.2.2.2.2.2.2.2.2.1 r q).2
theorem wir_4_9 {X : Mx} {r : Int} (hW : mWir X) (q : (mxS X r).1 = 4) : mxW X r 9 = r + 23 := (hW.2.2.2.2.2.2.2.2.2.2.2.2.1 r q).1
theorem kid_4_9 {X : Mx} {r : Int} (hW : mWir X) (q : (mxS X r).1 = 4) : (mxS X (r + 23)).1 = 6 := (hW.2.2.2.2.2.2.2.2.2.2.2.2.1 r q).2
theorem wir_4_10 {X : Mx} {r : Int} (hW : mWir X) (q : (mxS X r).1 = 4) : mxW X r 10 = r + 25 := (hW.2.2.2.2.2.2.2.2.2.2.2.2.2.1 r q).1
theorem kid_4_10 {X : Mx} {r : Int} (hW : mWir X) (q : (mxS X r).1 = 4) : (mxS X (r + 25)).1 = 6 := (hW.2.2.2.2.2.2.2.2.2.2.2.2.2.1 r q).2
theorem wir_4_11 {X : Mx} {r : Int} (hW : mWir X) (q : (mxS X r).1 = 4) : mxW X r 11 = r + 27 := (hW.2.2.2.2.2.2.2.2.2.2.2.2.2.2.1 r q).1
theorem kid_4_11 {X : Mx} {r : Int} (hW : mWir X) (q : (mxS X r).1 = 4) : (mxS X (r + 27)).1 = 6 := (hW.2.2.2.2.2.2.2.2.2.2.2.2.2.2.1 r q).2
theorem wir_4_12 {X : Mx} {r : Int} (hW : mWir X) (q : (mxS X r).1 = 4) : mxW X r 12 = r + 29 := (hW.2.2.2.2.2.2.2.2.2.2.2.2.2.2.2.1 r q).1
theorem kid_4_12 {X : Mx} {r : Int} (hW : mWir X) (q : (mxS X r).1 = 4) : (mxS X (r + 29)).1 = 6 := (hW.2.2.2.2.2.2.2.2.2.2.2.2.2.2.2.1 r q).2
theorem wir_4_13 {X : Mx} {r : Int} (hW : mWir X) (q : (mxS X r).1 = 4) : mxW X r 13 = r + 31 := (hW.2.2.2.2.2.2.2.2.2.2.2.2.2.2.2.2.1 r q).1
theorem kid_4_13 {X : Mx} {r : Int} (hW : mWir X) (q : (mxS X r).1 = 4) : (mxS X (r + 31)).1 = 6 := (hW.2.2.2.2.2.2.2.2.2.2.2.2.2.2.2.2.1 r q).2
theorem wir_4_14 {X : Mx} {r : Int} (hW : mWir X) (q : (mxS X r).1 = 4) : mxW X r 14 = r + 33 := (hW.2.2.2.2.2.2.2.2.2.2.2.2.2.2.2.2.2.1 r q).1
theorem kid_4_14 {X : Mx} {r : Int} (hW : mWir X) (q : (mxS X r).1 = 4) : (mxS X (r + 33)).1 = 0 := (hW.2.2.2.2.2.2.2.2.2.2.2.2.2.2.2.2.2.1 r q).2
theorem wir_4_15 {X : Mx} {r : Int} (hW : mWir X) (q : (mxS X r).1 = 4) : mxW X r 15 = r + 37 := (hW.2.2.2.2.2.2.2.2.2.2.2.2.2.2.2.2.2.2.1 r q).1
theorem kid_4_15 {X : Mx} {r : Int} (hW : mWir X) (q : (mxS X r).1 = 4) : (mxS X (r + 37)).1 = 2 := (hW.2.2.2.2.2.2.2.2.2.2.2.2.2.2.2.2.2.2.1 r q).2
theorem wir_4_16 {X : Mx} {r : Int} (hW : mWir X) (q : (mxS X r).1 = 4) : mxW X r 16 = r + 42 := (hW.2.2.2.2.2.2.2.2.2.2.2.2.2.2.2.2.2.2.2.1 r q).1
theorem kid_4_16 {X : Mx} {r : Int} (hW : mWir X) (q : (mxS X r).1 = 4) : (mxS X (r + 42)).1 = 6 := (hW.2.2.2.2.2.2.2.2.2.2.2.2.2.2.2.2.2.2.2.1 r q).2
theorem wir_6_0 {X : Mx} {r : Int} (hW : mWir X) (q : (mxS X r).1 = 6) : mxW X r 0 = r + 1 := (hW.2.2.2.2.2.2.2.2.2.2.2.2.2.2.2.2.2.2.2.2.1 r q).1
theorem kid_6_0 {X : Mx} {r : Int} (hW : mWir X) (q : (mxS X r).1 = 6) : (mxS X (r + 1)).1 = 14 := (hW.2.2.2.2.2.2.2.2.2.2.2.2.2.2.2.2.2.2.2.2.1 r q).2
theorem wir_17 {X : Mx} {a i : Int} (hW : mWir X) (q : (mxS X a).1 = 17) (h0 : 0 ≤ i) (h1 : i < (mxS X a).2) : mxW X a i = a + 1 + 2 * i := (hW.2.2.2.2.2.2.2.2.2.2.2.2.2.2.2.2.2.2.2.2.2 a i q h0 h1).1
theorem kid_17 {X : Mx} {a i : Int} (hW : mWir X) (q : (mxS X a).1 = 17) (h0 : 0 ≤ i) (h1 : i < (mxS X a).2) : (mxS X (a + 1 + 2 * i)).1 = 6 := (hW.2.2.2.2.2.2.2.2.2.2.2.2.2.2.2.2.2.2.2.2.2 a i q h0 h1).2
def shCl : List (Nat × Nat) := [(11, 0), (13, 800), (4, 0), (6, 0), (14, 3), (17, 3), (6, 0), (14, 3), (6, 0), (14, 3), (6, 0), (14, 3), (6, 0), (14, 3), (6, 0), (14, 4), (17, 4), (6, 0), (14, 6), (6, 0), (14, 6), (6, 0), (14, 6), (6, 0), (14, 6), (6, 0), (14, 4), (6, 0), (14, 6), (6, 0), (14, 6), (6, 0), (14, 3), (6, 0), (14, 3), (0, 0), (14, 8), (14, 8), (14, 8), (2, 0), (14, 64), (14, 64), (15, 64), (15, 6), (6, 0), (14, 0), (8, 0), (14, 72), (14, 72), (9, 0), (14, 800), (14, 800), (14, 800), (10, 0), (4, 0), (6, 0), (14, 3), (17, 3), (6, 0), (14, 3), (6, 0), (14, 3), (6, 0), (14, 3), (6, 0), (14, 3), (6, 0), (14, 4), (17, 4), (6, 0), (14, 6), (6, 0), (14, 6), (6, 0), (14, 6), (6, 0), (14, 6), (6, 0), (14, 4), (6, 0), (14, 6), (6, 0), (14, 6), (6, 0), (14, 3), (6, 0), (14, 3), (0, 0), (14, 8), (14, 8), (14, 8), (2, 0), (14, 64), (14, 64), (15, 64), (15, 6), (6, 0), (14, 0), (0, 0), (14, 16), (14, 16), (14, 16), (0, 0), (14, 16), (14, 16), (14, 16), (14, 20), (3, 0), (14, 32), (14, 32), (14, 32), (14, 32), (16, 32), (6, 0), (14, 32), (5, 0), (14, 240), (14, 2304), (14, 2304), (14, 48), (14, 9600), (6, 0), (14, 6), (6, 0), (14, 6), (7, 0), (14, 101), (1, 0), (0, 0), (14, 1), (14, 1), (14, 1), (0, 0), (14, 1), (14, 1), (14, 1), (14, 744), (14, 576), (0, 0), (14, 24), (14, 24), (14, 24)]
def shC (o : Int) : Nat × Nat := if 0 ≤ o then shCl.getD o.toNat (99, 0) else (99, 0)
def wrCl : List (List Int) := [[1, -1, 2, 46, 53, 107, 115, 125, 127], [], [-1, -1, -1, -1, 3, 5, 12, 14, 16, 25, 27, 29, 31, 33, 35, 39, 44], [4], [], [6, 8, 10], [7], [], [9], [], [11], [], [13], [], [15], [], [17, 19, 21, 23], [18], [], [20], [], [22], [], [24], [], [26], [], [28], [], [30], [], [32], [], [34], [], [36, 37, 38], [], [], [], [40, 41, 42, 43], [], [], [], [], [45], [], [49, 2, -1, -1, -1, -1, -1, -1, -1, -1, 47, 48], [], [], [1, 50, 51, 52], [], [], [], [-1, -1, 98, 102, -1, -1, 106], [-1, -1, -1, -1, 55, 57, 64, 66, 68, 77, 79, 81, 83, 85, 87, 91, 96], [56], [], [58, 60, 62], [59], [], [61], [], [63], [], [65], [], [67], [], [69, 71, 73, 75], [70], [], [72], [], [74], [], [76], [], [78], [], [80], [], [82], [], [84], [], [86], [], [88, 89, 90], [], [], [], [92, 93, 94, 95], [], [], [], [], [97], [], [99, 100, 101], [], [], [], [103, 104, 105], [], [], [], [], [108, 109, 110, 111, 112, 113], [], [], [], [], [], [114], [], [53, 116, 117, 118, 119, 120, 121, 123], [], [], [], [], [], [122], [], [124], [], [53, 115, 126], [], [53, 115, 107, 128, 132, 136, 137, 138], [129, 130, 131], [], [], [], [133, 134, 135], [], [], [], [], [], [139, 140, 141], [], [], []]
def wrC (o k : Int) : Int := if 0 ≤ o ∧ 0 ≤ k then (wrCl.getD o.toNat []).getD k.toNat (-1) else -1
def XC (z : Mz) : Mx := (z.1, z.2.1, z.2.2.1, shC, wrC, 142, z.2.2.2.1, z.2.2.2.2.1, z.2.2.2.2.2)
theorem skC_0 : shC 0 = (11, 0) := rfl
theorem kdC_0 {z : Mz} : (mxS (XC z) 0).1 = 11 := rfl
theorem wwC_0_0 {z : Mz} : mxW (XC z) 0 0 = 1 := rfl
theorem wwC_0_2 {z : Mz} : mxW (XC z) 0 2 = 2 := rfl
theorem wwC_0_3 {z : Mz} : mxW (XC z) 0 3 = 46 := rfl
theorem wwC_0_4 {z : Mz} : mxW (XC z) 0 4 = 53 := rfl
theorem wwC_0_5 {z : Mz} : mxW (XC z) 0 5 = 107 := rfl
theorem wwC_0_6 {z : Mz} : mxW (XC z) 0 6 = 115 := rfl
theorem wwC_0_7 {z : Mz} : mxW (XC z) 0 7 = 125 := rfl
theorem wwC_0_8 {z : Mz} : mxW (XC z) 0 8 = 127 := rfl
theorem skC_1 : shC 1 = (13, 800) := rfl
theorem kdC_1 {z : Mz} : (mxS (XC z) 1).1 = 13 := rfl
theorem skC_2 : shC 2 = (4, 0) := rfl
theorem kdC_2 {z : Mz} : (mxS (XC z) 2).1 = 4 := rfl
theorem wwC_2_4 {z : Mz} : mxW (XC z) 2 4 = 3 := rfl
theorem wwC_2_5 {z : Mz} : mxW (XC z) 2 5 = 5 := rfl
theorem wwC_2_6 {z : Mz} : mxW (XC z) 2 6 = 12 := rfl
theorem wwC_2_7 {z : Mz} : mxW (XC z) 2 7 = 14 := rfl
theorem wwC_2_8 {z : Mz} : mxW (XC z) 2 8 = 16 := rfl
theorem wwC_2_9 {z : Mz} : mxW (XC z) 2 9 = 25 := rfl
theorem wwC_2_10 {z : Mz} : mxW (XC z) 2 10 = 27 := rfl
theorem wwC_2_11 {z : Mz} : mxW (XC z) 2 11 = 29 := rfl
theorem wwC_2_12 {z : Mz} : mxW (XC z) 2 12 = 31 := rfl
theorem wwC_2_13 {z : Mz} : mxW (XC z) 2 13 = 33 := rfl
theorem wwC_2_14 {z : Mz} : mxW (XC z) 2 14 = 35 := rfl
theorem wwC_2_15 {z : Mz} : mxW (XC z) 2 15 = 39 := rfl
theorem wwC_2_16 {z : Mz} : mxW (XC z) 2 16 = 44 := rfl
theorem skC_3 : shC 3 = (6, 0) := rfl
theorem kdC_3 {z : Mz} : (mxS (XC z) 3).1 = 6 := rfl
theorem wwC_3_0 {z : Mz} : mxW (XC z) 3 0 = 4 := rfl
theorem skC_4 : shC 4 = (14, 3) := rfl
theorem kdC_4 {z : Mz} : (mxS (XC z) 4).1 = 14 := rfl
theorem skC_5 : shC 5 = (17, 3) := rfl
theorem kdC_5 {z : Mz} : (mxS (XC z) 5).1 = 17 := rfl
theorem skC_6 : shC 6 = (6, 0) := rfl
theorem kdC_6 {z : Mz} : (mxS (XC z) 6).1 = 6 := rfl
theorem wwC_6_0 {z : Mz} : mxW (XC z) 6 0 = 7 := rfl
theorem skC_7 : shC 7 = (14, 3) := rfl
theorem kdC_7 {z : Mz} : (mxS (XC z) 7).1 = 14 := rfl
theorem skC_8 : shC 8 = (6, 0) := rfl
theorem kdC_8 {z : Mz} : (mxS (XC z) 8).1 = 6 := rfl
theorem wwC_8_0 {z : Mz} : mxW (XC z) 8 0 = 9 := rfl
theorem skC_9 : shC 9 = (14, 3) := rfl
theorem kdC_9 {z : Mz} : (mxS (XC z) 9).1 = 14 := rfl
theorem skC_10 : shC 10 = (6, 0) := rfl
theorem kdC_10 {z : Mz} : (mxS (XC z) 10).1 = 6 := rfl
theorem wwC_10_0 {z : Mz} : mxW (XC z) 10 0 = 11 := rfl
theorem skC_11 : shC 11 = (14, 3) := rfl
theorem kdC_11 {z : Mz} : (mxS (XC z) 11).1 = 14 := rfl
theorem skC_12 : shC 12 = (6, 0) := rfl
theorem kdC_12 {z : Mz} : (mxS (XC z) 12).1 = 6 := rfl
theorem wwC_12_0 {z : Mz} : mxW (XC z) 12 0 = 13 := rfl
theorem skC_13 : shC 13 = (14, 3) := rfl
theorem kdC_13 {z : Mz} : (mxS (XC z) 13).1 = 14 := rfl
theorem skC_14 : shC 14 = (6, 0) := rfl
theorem kdC_14 {z : Mz} : (mxS (XC z) 14).1 = 6 := rfl
theorem wwC_14_0 {z : Mz} : mxW (XC z) 14 0 = 15 := rfl
theorem skC_15 : shC 15 = (14, 4) := rfl
theorem kdC_15 {z : Mz} : (mxS (XC z) 15).1 = 14 := rfl
theorem skC_16 : shC 16 = (17, 4) := rfl
theorem kdC_16 {z : Mz} : (mxS (XC z) 16).1 = 17 := rfl
theorem skC_17 : shC 17 = (6, 0) := rfl
theorem kdC_17 {z : Mz} : (mxS (XC z) 17).1 = 6 := rfl
theorem wwC_17_0 {z : Mz} : mxW (XC z) 17 0 = 18 := rfl
theorem skC_18 : shC 18 = (14, 6) := rfl
theorem kdC_18 {z : Mz} : (mxS (XC z) 18).1 = 14 := rfl
theorem skC_19 : shC 19 = (6, 0) := rfl
theorem kdC_19 {z : Mz} : (mxS (XC z) 19).1 = 6 := rfl
theorem wwC_19_0 {z : Mz} : mxW (XC z) 19 0 = 20 := rfl
theorem skC_20 : shC 20 = (14, 6) := rfl
theorem kdC_20 {z : Mz} : (mxS (XC z) 20).1 = 14 := rfl
theorem skC_21 : shC 21 = (6, 0) := rfl
theorem kdC_21 {z : Mz} : (mxS (XC z) 21).1 = 6 := rfl
theorem wwC_21_0 {z : Mz} : mxW (XC z) 21 0 = 22 := rfl
theorem skC_22 : shC 22 = (14, 6) := rfl
theorem kdC_22 {z : Mz} : (mxS (XC z) 22).1 = 14 := rfl
theorem skC_23 : shC 23 = (6, 0) := rfl
theorem kdC_23 {z : Mz} : (mxS (XC z) 23).1 = 6 := rfl
theorem wwC_23_0 {z : Mz} : mxW (XC z) 23 0 = 24 := rfl
theorem skC_24 : shC 24 = (14, 6) := rfl
theorem kdC_24 {z : Mz} : (mxS (XC z) 24).1 = 14 := rfl
theorem skC_25 : shC 25 = (6, 0) := rfl
theorem kdC_25 {z : Mz} : (mxS (XC z) 25).1 = 6 := rfl
theorem wwC_25_0 {z : Mz} : mxW (XC z) 25 0 = 26 := rfl
theorem skC_26 : shC 26 = (14, 4) := rfl
theorem kdC_26 {z : Mz} : (mxS (XC z) 26).1 = 14 := rfl
theorem skC_27 : shC 27 = (6, 0) := rfl
theorem kdC_27 {z : Mz} : (mxS (XC z) 27).1 = 6 := rfl
theorem wwC_27_0 {z : Mz} : mxW (XC z) 27 0 = 28 := rfl
theorem skC_28 : shC 28 = (14, 6) := rfl
theorem kdC_28 {z : Mz} : (mxS (XC z) 28).1 = 14 := rfl
theorem skC_29 : shC 29 = (6, 0) := rfl
theorem kdC_29 {z : Mz} : (mxS (XC z) 29).1 = 6 := rfl
theorem wwC_29_0 {z : Mz} : mxW (XC z) 29 0 = 30 := rfl
theorem skC_30 : shC 30 = (14, 6) := rfl
theorem kdC_30 {z : Mz} : (mxS (XC z) 30).1 = 14 := rfl
theorem skC_31 : shC 31 = (6, 0) := rfl
theorem kdC_31 {z : Mz} : (mxS (XC z) 31).1 = 6 := rfl
theorem wwC_31_0 {z : Mz} : mxW (XC z) 31 0 = 32 := rfl
theorem skC_32 : shC 32 = (14, 3) := rfl
theorem kdC_32 {z : Mz} : (mxS (XC z) 32).1 = 14 := rfl
theorem skC_33 : shC 33 = (6, 0) := rfl
theorem kdC_33 {z : Mz} : (mxS (XC z) 33).1 = 6 := rfl
theorem wwC_33_0 {z : Mz} : mxW (XC z) 33 0 = 34 := rfl
theorem skC_34 : shC 34 = (14, 3) := rfl
theorem kdC_34 {z : Mz} : (mxS (XC z) 34).1 = 14 := rfl
theorem skC_35 : shC 35 = (0, 0) := rfl
theorem kdC_35 {z : Mz} : (mxS (XC z) 35).1 = 0 := rfl
theorem wwC_35_0 {z : Mz} : mxW (XC z) 35 0 = 36 := rfl
theorem wwC_35_1 {z : Mz} : mxW (XC z) 35 1 = 37 := rfl
theorem wwC_35_2 {z : Mz} : mxW (XC z) 35 2 = 38 := rfl
theorem skC_36 : shC 36 = (14, 8) := rfl
theorem kdC_36 {z : Mz} : (mxS (XC z) 36).1 = 14 := rfl
theorem skC_37 : shC 37 = (14, 8) := rfl
theorem kdC_37 {z : Mz} : (mxS (XC z) 37).1 = 14 := rfl
theorem skC_38 : shC 38 = (14, 8) := rfl
theorem kdC_38 {z : Mz} : (mxS (XC z) 38).1 = 14 := rfl
theorem skC_39 : shC 39 = (2, 0) := rfl
theorem kdC_39 {z : Mz} : (mxS (XC z) 39).1 = 2 := rfl
theorem wwC_39_0 {z : Mz} : mxW (XC z) 39 0 = 40 := rfl
theorem wwC_39_1 {z : Mz} : mxW (XC z) 39 1 = 41 := rfl
theorem wwC_39_2 {z : Mz} : mxW (XC z) 39 2 = 42 := rfl
theorem wwC_39_3 {z : Mz} : mxW (XC z) 39 3 = 43 := rfl
theorem skC_40 : shC 40 = (14, 64) := rfl
theorem kdC_40 {z : Mz} : (mxS (XC z) 40).1 = 14 := rfl
theorem skC_41 : shC 41 = (14, 64) := rfl
theorem kdC_41 {z : Mz} : (mxS (XC z) 41).1 = 14 := rfl
theorem skC_42 : shC 42 = (15, 64) := rfl
theorem kdC_42 {z : Mz} : (mxS (XC z) 42).1 = 15 := rfl
theorem skC_43 : shC 43 = (15, 6) := rfl
theorem kdC_43 {z : Mz} : (mxS (XC z) 43).1 = 15 := rfl
theorem skC_44 : shC 44 = (6, 0) := rfl
theorem kdC_44 {z : Mz} : (mxS (XC z) 44).1 = 6 := rfl
theorem wwC_44_0 {z : Mz} : mxW (XC z) 44 0 = 45 := rfl
theorem skC_45 : shC 45 = (14, 0) := rfl
theorem kdC_45 {z : Mz} : (mxS (XC z) 45).1 = 14 := rfl
theorem skC_46 : shC 46 = (8, 0) := rfl
theorem kdC_46 {z : Mz} : (mxS (XC z) 46).1 = 8 := rfl
theorem wwC_46_0 {z : Mz} : mxW (XC z) 46 0 = 49 := rfl
theorem wwC_46_1 {z : Mz} : mxW (XC z) 46 1 = 2 := rfl
theorem wwC_46_10 {z : Mz} : mxW (XC z) 46 10 = 47 := rfl
theorem wwC_46_11 {z : Mz} : mxW (XC z) 46 11 = 48 := rfl
theorem skC_47 : shC 47 = (14, 72) := rfl
theorem kdC_47 {z : Mz} : (mxS (XC z) 47).1 = 14 := rfl
theorem skC_48 : shC 48 = (14, 72) := rfl
theorem kdC_48 {z : Mz} : (mxS (XC z) 48).1 = 14 := rfl
theorem skC_49 : shC 49 = (9, 0) := rfl
theorem kdC_49 {z : Mz} : (mxS (XC z) 49).1 = 9 := rfl
theorem wwC_49_0 {z : Mz} : mxW (XC z) 49 0 = 1 := rfl
theorem wwC_49_1 {z : Mz} : mxW (XC z) 49 1 = 50 := rfl
theorem wwC_49_2 {z : Mz} : mxW (XC z) 49 2 = 51 := rfl
theorem wwC_49_3 {z : Mz} : mxW (XC z) 49 3 = 52 := rfl
theorem skC_50 : shC 50 = (14, 800) := rfl
theorem kdC_50 {z : Mz} : (mxS (XC z) 50).1 = 14 := rfl
theorem skC_51 : shC 51 = (14, 800) := rfl
theorem kdC_51 {z : Mz} : (mxS (XC z) 51).1 = 14 := rfl
theorem skC_52 : shC 52 = (14, 800) := rfl
theorem kdC_52 {z : Mz} : (mxS (XC z) 52).1 = 14 := rfl
theorem skC_53 : shC 53 = (10, 0) := rfl
theorem kdC_53 {z : Mz} : (mxS (XC z) 53).1 = 10 := rfl
theorem wwC_53_2 {z : Mz} : mxW (XC z) 53 2 = 98 := rfl
theorem wwC_53_3 {z : Mz} : mxW (XC z) 53 3 = 102 := rfl
theorem wwC_53_6 {z : Mz} : mxW (XC z) 53 6 = 106 := rfl
theorem skC_54 : shC 54 = (4, 0) := rfl
theorem kdC_54 {z : Mz} : (mxS (XC z) 54).1 = 4 := rfl
theorem wwC_54_4 {z : Mz} : mxW (XC z) 54 4 = 55 := rfl
theorem wwC_54_5 {z : Mz} : mxW (XC z) 54 5 = 57 := rfl
theorem wwC_54_6 {z : Mz} : mxW (XC z) 54 6 = 64 := rfl
theorem wwC_54_7 {z : Mz} : mxW (XC z) 54 7 = 66 := rfl
theorem wwC_54_8 {z : Mz} : mxW (XC z) 54 8 = 68 := rfl
theorem wwC_54_9 {z : Mz} : mxW (XC z) 54 9 = 77 := rfl
theorem wwC_54_10 {z : Mz} : mxW (XC z) 54 10 = 79 := rfl
theorem wwC_54_11 {z : Mz} : mxW (XC z) 54 11 = 81 := rfl
theorem wwC_54_12 {z : Mz} : mxW (XC z) 54 12 = 83 := rfl
theorem wwC_54_13 {z : Mz} : mxW (XC z) 54 13 = 85 := rfl
theorem wwC_54_14 {z : Mz} : mxW (XC z) 54 14 = 87 := rfl
theorem wwC_54_15 {z : Mz} : mxW (XC z) 54 15 = 91 := rfl
theorem wwC_54_16 {z : Mz} : mxW (XC z) 54 16 = 96 := rfl
theorem skC_55 : shC 55 = (6, 0) := rfl
theorem kdC_55 {z : Mz} : (mxS (XC z) 55).1 = 6 := rfl
theorem wwC_55_0 {z : Mz} : mxW (XC z) 55 0 = 56 := rfl
theorem skC_56 : shC 56 = (14, 3) := rfl
theorem kdC_56 {z : Mz} : (mxS (XC z) 56).1 = 14 := rfl
theorem skC_57 : shC 57 = (17, 3) := rfl
theorem kdC_57 {z : Mz} : (mxS (XC z) 57).1 = 17 := rfl
theorem skC_58 : shC 58 = (6, 0) := rfl
theorem kdC_58 {z : Mz} : (mxS (XC z) 58).1 = 6 := rfl
theorem wwC_58_0 {z : Mz} : mxW (XC z) 58 0 = 59 := rfl
theorem skC_59 : shC 59 = (14, 3) := rfl
theorem kdC_59 {z : Mz} : (mxS (XC z) 59).1 = 14 := rfl
theorem skC_60 : shC 60 = (6, 0) := rfl
theorem kdC_60 {z : Mz} : (mxS (XC z) 60).1 = 6 := rfl
theorem wwC_60_0 {z : Mz} : mxW (XC z) 60 0 = 61 := rfl
theorem skC_61 : shC 61 = (14, 3) := rfl
theorem kdC_61 {z : Mz} : (mxS (XC z) 61).1 = 14 := rfl
theorem skC_62 : shC 62 = (6, 0) := rfl
theorem kdC_62 {z : Mz} : (mxS (XC z) 62).1 = 6 := rfl
theorem wwC_62_0 {z : Mz} : mxW (XC z) 62 0 = 63 := rfl
theorem skC_63 : shC 63 = (14, 3) := rfl
theorem kdC_63 {z : Mz} : (mxS (XC z) 63).1 = 14 := rfl
theorem skC_64 : shC 64 = (6, 0) := rfl
theorem kdC_64 {z : Mz} : (mxS (XC z) 64).1 = 6 := rfl
theorem wwC_64_0 {z : Mz} : mxW (XC z) 64 0 = 65 := rfl
theorem skC_65 : shC 65 = (14, 3) := rfl
theorem kdC_65 {z : Mz} : (mxS (XC z) 65).1 = 14 := rfl
theorem skC_66 : shC 66 = (6, 0) := rfl
theorem kdC_66 {z : Mz} : (mxS (XC z) 66).1 = 6 := rfl
theorem wwC_66_0 {z : Mz} : mxW (XC z) 66 0 = 67 := rfl
theorem skC_67 : shC 67 = (14, 4) := rfl
theorem kdC_67 {z : Mz} : (mxS (XC z) 67).1 = 14 := rfl
theorem skC_68 : shC 68 = (17, 4) := rfl
theorem kdC_68 {z : Mz} : (mxS (XC z) 68).1 = 17 := rfl
theorem skC_69 : shC 69 = (6, 0) := rfl
theorem kdC_69 {z : Mz} : (mxS (XC z) 69).1 = 6 := rfl
theorem wwC_69_0 {z : Mz} : mxW (XC z) 69 0 = 70 := rfl
theorem skC_70 : shC 70 = (14, 6) := rfl
theorem kdC_70 {z : Mz} : (mxS (XC z) 70).1 = 14 := rfl
theorem skC_71 : shC 71 = (6, 0) := rfl
theorem kdC_71 {z : Mz} : (mxS (XC z) 71).1 = 6 := rfl
theorem wwC_71_0 {z : Mz} : mxW (XC z) 71 0 = 72 := rfl
theorem skC_72 : shC 72 = (14, 6) := rfl
theorem kdC_72 {z : Mz} : (mxS (XC z) 72).1 = 14 := rfl
theorem skC_73 : shC 73 = (6, 0) := rfl
theorem kdC_73 {z : Mz} : (mxS (XC z) 73).1 = 6 := rfl
theorem wwC_73_0 {z : Mz} : mxW (XC z) 73 0 = 74 := rfl
theorem skC_74 : shC 74 = (14, 6) := rfl
theorem kdC_74 {z : Mz} : (mxS (XC z) 74).1 = 14 := rfl
theorem skC_75 : shC 75 = (6, 0) := rfl
theorem kdC_75 {z : Mz} : (mxS (XC z) 75).1 = 6 := rfl
theorem wwC_75_0 {z : Mz} : mxW (XC z) 75 0 = 76 := rfl
theorem skC_76 : shC 76 = (14, 6) := rfl
theorem kdC_76 {z : Mz} : (mxS (XC z) 76).1 = 14 := rfl
theorem skC_77 : shC 77 = (6, 0) := rfl
theorem kdC_77 {z : Mz} : (mxS (XC z) 77).1 = 6 := rfl
theorem wwC_77_0 {z : Mz} : mxW (XC z) 77 0 = 78 := rfl
theorem skC_78 : shC 78 = (14, 4) := rfl
theorem kdC_78 {z : Mz} : (mxS (XC z) 78).1 = 14 := rfl
theorem skC_79 : shC 79 = (6, 0) := rfl
theorem kdC_79 {z : Mz} : (mxS (XC z) 79).1 = 6 := rfl
theorem wwC_79_0 {z : Mz} : mxW (XC z) 79 0 = 80 := rfl
theorem skC_80 : shC 80 = (14, 6) := rfl
theorem kdC_80 {z : Mz} : (mxS (XC z) 80).1 = 14 := rfl
theorem skC_81 : shC 81 = (6, 0) := rfl
theorem kdC_81 {z : Mz} : (mxS (XC z) 81).1 = 6 := rfl
theorem wwC_81_0 {z : Mz} : mxW (XC z) 81 0 = 82 := rfl
theorem skC_82 : shC 82 = (14, 6) := rfl
theorem kdC_82 {z : Mz} : (mxS (XC z) 82).1 = 14 := rfl
theorem skC_83 : shC 83 = (6, 0) := rfl
theorem kdC_83 {z : Mz} : (mxS (XC z) 83).1 = 6 := rfl
theorem wwC_83_0 {z : Mz} : mxW (XC z) 83 0 = 84 := rfl
theorem skC_84 : shC 84 = (14, 3) := rfl
theorem kdC_84 {z : Mz} : (mxS (XC z) 84).1 = 14 := rfl
theorem skC_85 : shC 85 = (6, 0) := rfl
theorem kdC_85 {z : Mz} : (mxS (XC z) 85).1 = 6 := rfl
theorem wwC_85_0 {z : Mz} : mxW (XC z) 85 0 = 86 := rfl
theorem skC_86 : shC 86 = (14, 3) := rfl
theorem kdC_86 {z : Mz} : (mxS (XC z) 86).1 = 14 := rfl
theorem skC_87 : shC 87 = (0, 0) := rfl
theorem kdC_87 {z : Mz} : (mxS (XC z) 87).1 = 0 := rfl
theorem wwC_87_0 {z : Mz} : mxW (XC z) 87 0 = 88 := rfl
theorem wwC_87_1 {z : Mz} : mxW (XC z) 87 1 = 89 := rfl
theorem wwC_87_2 {z : Mz} : mxW (XC z) 87 2 = 90 := rfl
theorem skC_88 : shC 88 = (14, 8) := rfl
theorem kdC_88 {z : Mz} : (mxS (XC z) 88).1 = 14 := rfl
theorem skC_89 : shC 89 = (14, 8) := rfl
theorem kdC_89 {z : Mz} : (mxS (XC z) 89).1 = 14 := rfl
theorem skC_90 : shC 90 = (14, 8) := rfl
theorem kdC_90 {z : Mz} : (mxS (XC z) 90).1 = 14 := rfl
theorem skC_91 : shC 91 = (2, 0) := rfl
theorem kdC_91 {z : Mz} : (mxS (XC z) 91).1 = 2 := rfl
theorem wwC_91_0 {z : Mz} : mxW (XC z) 91 0 = 92 := rfl
theorem wwC_91_1 {z : Mz} : mxW (XC z) 91 1 = 93 := rfl
theorem wwC_91_2 {z : Mz} : mxW (XC z) 91 2 = 94 := rfl
theorem wwC_91_3 {z : Mz} : mxW (XC z) 91 3 = 95 := rfl
theorem skC_92 : shC 92 = (14, 64) := rfl
theorem kdC_92 {z : Mz} : (mxS (XC z) 92).1 = 14 := rfl
theorem skC_93 : shC 93 = (14, 64) := rfl
theorem kdC_93 {z : Mz} : (mxS (XC z) 93).1 = 14 := rfl
theorem skC_94 : shC 94 = (15, 64) := rfl
theorem kdC_94 {z : Mz} : (mxS (XC z) 94).1 = 15 := rfl
theorem skC_95 : shC 95 = (15, 6) := rfl
theorem kdC_95 {z : Mz} : (mxS (XC z) 95).1 = 15 := rfl
theorem skC_96 : shC 96 = (6, 0) := rfl
theorem kdC_96 {z : Mz} : (mxS (XC z) 96).1 = 6 := rfl
theorem wwC_96_0 {z : Mz} : mxW (XC z) 96 0 = 97 := rfl
theorem skC_97 : shC 97 = (14, 0) := rfl
theorem kdC_97 {z : Mz} : (mxS (XC z) 97).1 = 14 := rfl
theorem skC_98 : shC 98 = (0, 0) := rfl
theorem kdC_98 {z : Mz} : (mxS (XC z) 98).1 = 0 := rfl
theorem wwC_98_0 {z : Mz} : mxW (XC z) 98 0 = 99 := rfl
theorem wwC_98_1 {z : Mz} : mxW (XC z) 98 1 = 100 := rfl
theorem wwC_98_2 {z : Mz} : mxW (XC z) 98 2 = 101 := rfl
theorem skC_99 : shC 99 = (14, 16) := rfl
theorem kdC_99 {z : Mz} : (mxS (XC z) 99).1 = 14 := rfl
theorem skC_100 : shC 100 = (14, 16) := rfl
theorem kdC_100 {z : Mz} : (mxS (XC z) 100).1 = 14 := rfl
theorem skC_101 : shC 101 = (14, 16) := rfl
theorem kdC_101 {z : Mz} : (mxS (XC z) 101).1 = 14 := rfl
theorem skC_102 : shC 102 = (0, 0) := rfl
theorem kdC_102 {z : Mz} : (mxS (XC z) 102).1 = 0 := rfl
theorem wwC_102_0 {z : Mz} : mxW (XC z) 102 0 = 103 := rfl
theorem wwC_102_1 {z : Mz} : mxW (XC z) 102 1 = 104 := rfl
theorem wwC_102_2 {z : Mz} : mxW (XC z) 102 2 = 105 := rfl
theorem skC_103 : shC 103 = (14, 16) := rfl
theorem kdC_103 {z : Mz} : (mxS (XC z) 103).1 = 14 := rfl
theorem skC_104 : shC 104 = (14, 16) := rfl
theorem kdC_104 {z : Mz} : (mxS (XC z) 104).1 = 14 := rfl
theorem skC_105 : shC 105 = (14, 16) := rfl
theorem kdC_105 {z : Mz} : (mxS (XC z) 105).1 = 14 := rfl
theorem skC_106 : shC 106 = (14, 20) := rfl
theorem kdC_106 {z : Mz} : (mxS (XC z) 106).1 = 14 := rfl
theorem skC_107 : shC 107 = (3, 0) := rfl
theorem kdC_107 {z : Mz} : (mxS (XC z) 107).1 = 3 := rfl
theorem wwC_107_0 {z : Mz} : mxW (XC z) 107 0 = 108 := rfl
theorem wwC_107_1 {z : Mz} : mxW (XC z) 107 1 = 109 := rfl
theorem wwC_107_2 {z : Mz} : mxW (XC z) 107 2 = 110 := rfl
theorem wwC_107_3 {z : Mz} : mxW (XC z) 107 3 = 111 := rfl
theorem wwC_107_4 {z : Mz} : mxW (XC z) 107 4 = 112 := rfl
theorem wwC_107_5 {z : Mz} : mxW (XC z) 107 5 = 113 := rfl
theorem skC_108 : shC 108 = (14, 32) := rfl
theorem kdC_108 {z : Mz} : (mxS (XC z) 108).1 = 14 := rfl
theorem skC_109 : shC 109 = (14, 32) := rfl
theorem kdC_109 {z : Mz} : (mxS (XC z) 109).1 = 14 := rfl
theorem skC_110 : shC 110 = (14, 32) := rfl
theorem kdC_110 {z : Mz} : (mxS (XC z) 110).1 = 14 := rfl
theorem skC_111 : shC 111 = (14, 32) := rfl
theorem kdC_111 {z : Mz} : (mxS (XC z) 111).1 = 14 := rfl
theorem skC_112 : shC 112 = (16, 32) := rfl
theorem kdC_112 {z : Mz} : (mxS (XC z) 112).1 = 16 := rfl
theorem skC_113 : shC 113 = (6, 0) := rfl
theorem kdC_113 {z : Mz} : (mxS (XC z) 113).1 = 6 := rfl
theorem wwC_113_0 {z : Mz} : mxW (XC z) 113 0 = 114 := rfl
theorem skC_114 : shC 114 = (14, 32) := rfl
theorem kdC_114 {z : Mz} : (mxS (XC z) 114).1 = 14 := rfl
theorem skC_115 : shC 115 = (5, 0) := rfl
theorem kdC_115 {z : Mz} : (mxS (XC z) 115).1 = 5 := rfl
theorem wwC_115_0 {z : Mz} : mxW (XC z) 115 0 = 53 := rfl
theorem wwC_115_1 {z : Mz} : mxW (XC z) 115 1 = 116 := rfl
theorem wwC_115_2 {z : Mz} : mxW (XC z) 115 2 = 117 := rfl
theorem wwC_115_3 {z : Mz} : mxW (XC z) 115 3 = 118 := rfl
theorem wwC_115_4 {z : Mz} : mxW (XC z) 115 4 = 119 := rfl
theorem wwC_115_5 {z : Mz} : mxW (XC z) 115 5 = 120 := rfl
theorem wwC_115_6 {z : Mz} : mxW (XC z) 115 6 = 121 := rfl
theorem wwC_115_7 {z : Mz} : mxW (XC z) 115 7 = 123 := rfl
theorem skC_116 : shC 116 = (14, 240) := rfl
theorem kdC_116 {z : Mz} : (mxS (XC z) 116).1 = 14 := rfl
theorem skC_117 : shC 117 = (14, 2304) := rfl
theorem kdC_117 {z : Mz} : (mxS (XC z) 117).1 = 14 := rfl
theorem skC_118 : shC 118 = (14, 2304) := rfl
theorem kdC_118 {z : Mz} : (mxS (XC z) 118).1 = 14 := rfl
theorem skC_119 : shC 119 = (14, 48) := rfl
theorem kdC_119 {z : Mz} : (mxS (XC z) 119).1 = 14 := rfl
theorem skC_120 : shC 120 = (14, 9600) := rfl
theorem kdC_120 {z : Mz} : (mxS (XC z) 120).1 = 14 := rfl
theorem skC_121 : shC 121 = (6, 0) := rfl
theorem kdC_121 {z : Mz} : (mxS (XC z) 121).1 = 6 := rfl
theorem wwC_121_0 {z : Mz} : mxW (XC z) 121 0 = 122 := rfl
theorem skC_122 : shC 122 = (14, 6) := rfl
theorem kdC_122 {z : Mz} : (mxS (XC z) 122).1 = 14 := rfl
theorem skC_123 : shC 123 = (6, 0) := rfl
theorem kdC_123 {z : Mz} : (mxS (XC z) 123).1 = 6 := rfl
theorem wwC_123_0 {z : Mz} : mxW (XC z) 123 0 = 124 := rfl
theorem skC_124 : shC 124 = (14, 6) := rfl
theorem kdC_124 {z : Mz} : (mxS (XC z) 124).1 = 14 := rfl
theorem skC_125 : shC 125 = (7, 0) := rfl
theorem kdC_125 {z : Mz} : (mxS (XC z) 125).1 = 7 := rfl
theorem wwC_125_0 {z : Mz} : mxW (XC z) 125 0 = 53 := rfl
theorem wwC_125_1 {z : Mz} : mxW (XC z) 125 1 = 115 := rfl
theorem wwC_125_2 {z : Mz} : mxW (XC z) 125 2 = 126 := rfl
theorem skC_126 : shC 126 = (14, 101) := rfl
theorem kdC_126 {z : Mz} : (mxS (XC z) 126).1 = 14 := rfl
theorem skC_127 : shC 127 = (1, 0) := rfl
theorem kdC_127 {z : Mz} : (mxS (XC z) 127).1 = 1 := rfl
theorem wwC_127_0 {z : Mz} : mxW (XC z) 127 0 = 53 := rfl
theorem wwC_127_1 {z : Mz} : mxW (XC z) 127 1 = 115 := rfl
theorem wwC_127_2 {z : Mz} : mxW (XC z) 127 2 = 107 := rfl
theorem wwC_127_3 {z : Mz} : mxW (XC z) 127 3 = 128 := rfl
theorem wwC_127_4 {z : Mz} : mxW (XC z) 127 4 = 132 := rfl
theorem wwC_127_5 {z : Mz} : mxW (XC z) 127 5 = 136 := rfl
theorem wwC_127_6 {z : Mz} : mxW (XC z) 127 6 = 137 := rfl
theorem wwC_127_7 {z : Mz} : mxW (XC z) 127 7 = 138 := rfl
theorem skC_128 : shC 128 = (0, 0) := rfl
theorem kdC_128 {z : Mz} : (mxS (XC z) 128).1 = 0 := rfl
theorem wwC_128_0 {z : Mz} : mxW (XC z) 128 0 = 129 := rfl
theorem wwC_128_1 {z : Mz} : mxW (XC z) 128 1 = 130 := rfl
theorem wwC_128_2 {z : Mz} : mxW (XC z) 128 2 = 131 := rfl
theorem skC_129 : shC 129 = (14, 1) := rfl
theorem kdC_129 {z : Mz} : (mxS (XC z) 129).1 = 14 := rfl
theorem skC_130 : shC 130 = (14, 1) := rfl
theorem kdC_130 {z : Mz} : (mxS (XC z) 130).1 = 14 := rfl
theorem skC_131 : shC 131 = (14, 1) := rfl
theorem kdC_131 {z : Mz} : (mxS (XC z) 131).1 = 14 := rfl
theorem skC_132 : shC 132 = (0, 0) := rfl
theorem kdC_132 {z : Mz} : (mxS (XC z) 132).1 = 0 := rfl
theorem wwC_132_0 {z : Mz} : mxW (XC z) 132 0 = 133 := rfl
theorem wwC_132_1 {z : Mz} : mxW (XC z) 132 1 = 134 := rfl
theorem wwC_132_2 {z : Mz} : mxW (XC z) 132 2 = 135 := rfl
theorem skC_133 : shC 133 = (14, 1) := rfl
theorem kdC_133 {z : Mz} : (mxS (XC z) 133).1 = 14 := rfl
theorem skC_134 : shC 134 = (14, 1) := rfl
theorem kdC_134 {z : Mz} : (mxS (XC z) 134).1 = 14 := rfl
theorem skC_135 : shC 135 = (14, 1) := rfl
theorem kdC_135 {z : Mz} : (mxS (XC z) 135).1 = 14 := rfl
theorem skC_136 : shC 136 = (14, 744) := rfl
theorem kdC_136 {z : Mz} : (mxS (XC z) 136).1 = 14 := rfl
theorem skC_137 : shC 137 = (14, 576) := rfl
theorem kdC_137 {z : Mz} : (mxS (XC z) 137).1 = 14 := rfl
theorem skC_138 : shC 138 = (0, 0) := rfl
theorem kdC_138 {z : Mz} : (mxS (XC z) 138).1 = 0 := rfl
theorem wwC_138_0 {z : Mz} : mxW (XC z) 138 0 = 139 := rfl
theorem wwC_138_1 {z : Mz} : mxW (XC z) 138 1 = 140 := rfl
theorem wwC_138_2 {z : Mz} : mxW (XC z) 138 2 = 141 := rfl
theorem skC_139 : shC 139 = (14, 24) := rfl
theorem kdC_139 {z : Mz} : (mxS (XC z) 139).1 = 14 := rfl
theorem skC_140 : shC 140 = (14, 24) := rfl
theorem kdC_140 {z : Mz} : (mxS (XC z) 140).1 = 14 := rfl
theorem skC_141 : shC 141 = (14, 24) := rfl
theorem kdC_141 {z : Mz} : (mxS (XC z) 141).1 = 14 := rfl
theorem shC_in {o : Int} (h : (shC o).1 < 90) : ∃ i : Nat, o = (i : Int) ∧ i < 142 := by
  unfold shC at h
  by_cases h0 : 0 ≤ o
  · obtain ⟨i, rfl⟩ := Int.eq_ofNat_of_zero_le h0
    refine ⟨i, rfl, ?_⟩
    rcases Nat.lt_or_ge i 142 with q | q
    · exact q
    · rw [if_pos h0, List.getD_eq_getElem?_getD, List.getElem?_eq_none (by exact q)] at h
      exact absurd h (by decide)
  · rw [if_neg h0] at h
    exact absurd h (by decide)
def shRl : List (Nat × Nat) := [(12, 0), (14, 800), (14, 108), (14, 3), (16, 3), (14, 96), (16, 96), (16, 48), (14, 6), (14, 8), (14, 8), (14, 8), (14, 48), (14, 12), (14, 12), (14, 6), (14, 6), (14, 32), (14, 32), (14, 32), (14, 6), (14, 6), (14, 18), (14, 128), (14, 128), (14, 128), (14, 96), (14, 96), (15, 5), (15, 64), (14, 2304), (14, 2304), (14, 3), (14, 20), (14, 96), (16, 32), (14, 4464), (14, 24), (14, 24), (14, 48), (14, 48)]
def shR (o : Int) : Nat × Nat := if 0 ≤ o then shRl.getD o.toNat (99, 0) else (99, 0)
def wrRl : List (List Int) := [[1, -1, -1, 2, -1, -1, -1, -1, -1, -1, -1, -1, -1, -1, -1, -1, -1, -1, -1, -1, -1, -1, -1, -1, -1, -1, -1, -1, -1, -1, -1, -1, -1, -1, -1, -1, -1, -1, -1, 3, 4, 5, 6, 7, 8, 9, 10, 11, 12, 13, 14, 15, 16, 17, 18, 19, 20, 21, 22, 23, 24, 25, -1, 26, 27, -1, -1, -1, -1, -1, -1, 28, 29, -1, 30, 31, -1, -1, 32, -1, -1, -1, -1, 33, -1, -1, 34, 35, -1, -1, -1, 36, 37, 38, -1, -1, -1, -1, 39, 40], [], [], [], [], [], [], [], [], [], [], [], [], [], [], [], [], [], [], [], [], [], [], [], [], [], [], [], [], [], [], [], [], [], [], [], [], [], [], [], []]
def wrR (o k : Int) : Int := if 0 ≤ o ∧ 0 ≤ k then (wrRl.getD o.toNat []).getD k.toNat (-1) else -1
def XR (z : Mz) : Mx := (z.1, z.2.1, z.2.2.1, shR, wrR, 41, z.2.2.2.1, z.2.2.2.2.1, z.2.2.2.2.2)
theorem skR_0 : shR 0 = (12, 0) := rfl
theorem kdR_0 {z : Mz} : (mxS (XR z) 0).1 = 12 := rfl
theorem wwR_0_0 {z : Mz} : mxW (XR z) 0 0 = 1 := rfl
theorem wwR_0_3 {z : Mz} : mxW (XR z) 0 3 = 2 := rfl
theorem wwR_0_39 {z : Mz} : mxW (XR z) 0 39 = 3 := rfl
theorem wwR_0_40 {z : Mz} : mxW (XR z) 0 40 = 4 := rfl
theorem wwR_0_41 {z : Mz} : mxW (XR z) 0 41 = 5 := rfl
theorem wwR_0_42 {z : Mz} : mxW (XR z) 0 42 = 6 := rfl
theorem wwR_0_43 {z : Mz} : mxW (XR z) 0 43 = 7 := rfl
theorem wwR_0_44 {z : Mz} : mxW (XR z) 0 44 = 8 := rfl
theorem wwR_0_45 {z : Mz} : mxW (XR z) 0 45 = 9 := rfl
theorem wwR_0_46 {z : Mz} : mxW (XR z) 0 46 = 10 := rfl
theorem wwR_0_47 {z : Mz} : mxW (XR z) 0 47 = 11 := rfl
theorem wwR_0_48 {z : Mz} : mxW (XR z) 0 48 = 12 := rfl
theorem wwR_0_49 {z : Mz} : mxW (XR z) 0 49 = 13 := rfl
theorem wwR_0_50 {z : Mz} : mxW (XR z) 0 50 = 14 := rfl
theorem wwR_0_51 {z : Mz} : mxW (XR z) 0 51 = 15 := rfl
theorem wwR_0_52 {z : Mz} : mxW (XR z) 0 52 = 16 := rfl
theorem wwR_0_53 {z : Mz} : mxW (XR z) 0 53 = 17 := rfl
theorem wwR_0_54 {z : Mz} : mxW (XR z) 0 54 = 18 := rfl
theorem wwR_0_55 {z : Mz} : mxW (XR z) 0 55 = 19 := rfl
theorem wwR_0_56 {z : Mz} : mxW (XR z) 0 56 = 20 := rfl
theorem wwR_0_57 {z : Mz} : mxW (XR z) 0 57 = 21 := rfl
theorem wwR_0_58 {z : Mz} : mxW (XR z) 0 58 = 22 := rfl
theorem wwR_0_59 {z : Mz} : mxW (XR z) 0 59 = 23 := rfl
theorem wwR_0_60 {z : Mz} : mxW (XR z) 0 60 = 24 := rfl
theorem wwR_0_61 {z : Mz} : mxW (XR z) 0 61 = 25 := rfl
theorem wwR_0_63 {z : Mz} : mxW (XR z) 0 63 = 26 := rfl
theorem wwR_0_64 {z : Mz} : mxW (XR z) 0 64 = 27 := rfl
theorem wwR_0_71 {z : Mz} : mxW (XR z) 0 71 = 28 := rfl
theorem wwR_0_72 {z : Mz} : mxW (XR z) 0 72 = 29 := rfl
theorem wwR_0_74 {z : Mz} : mxW (XR z) 0 74 = 30 := rfl
theorem wwR_0_75 {z : Mz} : mxW (XR z) 0 75 = 31 := rfl
theorem wwR_0_78 {z : Mz} : mxW (XR z) 0 78 = 32 := rfl
theorem wwR_0_83 {z : Mz} : mxW (XR z) 0 83 = 33 := rfl
theorem wwR_0_86 {z : Mz} : mxW (XR z) 0 86 = 34 := rfl
theorem wwR_0_87 {z : Mz} : mxW (XR z) 0 87 = 35 := rfl
theorem wwR_0_91 {z : Mz} : mxW (XR z) 0 91 = 36 := rfl
theorem wwR_0_92 {z : Mz} : mxW (XR z) 0 92 = 37 := rfl
theorem wwR_0_93 {z : Mz} : mxW (XR z) 0 93 = 38 := rfl
theorem wwR_0_98 {z : Mz} : mxW (XR z) 0 98 = 39 := rfl
theorem wwR_0_99 {z : Mz} : mxW (XR z) 0 99 = 40 := rfl
theorem skR_1 : shR 1 = (14, 800) := rfl
theorem kdR_1 {z : Mz} : (mxS (XR z) 1).1 = 14 := rfl
theorem skR_2 : shR 2 = (14, 108) := rfl
theorem kdR_2 {z : Mz} : (mxS (XR z) 2).1 = 14 := rfl
theorem skR_3 : shR 3 = (14, 3) := rfl
theorem kdR_3 {z : Mz} : (mxS (XR z) 3).1 = 14 := rfl
theorem skR_4 : shR 4 = (16, 3) := rfl
theorem kdR_4 {z : Mz} : (mxS (XR z) 4).1 = 16 := rfl
theorem skR_5 : shR 5 = (14, 96) := rfl
theorem kdR_5 {z : Mz} : (mxS (XR z) 5).1 = 14 := rfl
theorem skR_6 : shR 6 = (16, 96) := rfl
theorem kdR_6 {z : Mz} : (mxS (XR z) 6).1 = 16 := rfl
theorem skR_7 : shR 7 = (16, 48) := rfl
theorem kdR_7 {z : Mz} : (mxS (XR z) 7).1 = 16 := rfl
theorem skR_8 : shR 8 = (14, 6) := rfl
theorem kdR_8 {z : Mz} : (mxS (XR z) 8).1 = 14 := rfl
theorem skR_9 : shR 9 = (14, 8) := rfl
theorem kdR_9 {z : Mz} : (mxS (XR z) 9).1 = 14 := rfl
theorem skR_10 : shR 10 = (14, 8) := rfl
theorem kdR_10 {z : Mz} : (mxS (XR z) 10).1 = 14 := rfl
theorem skR_11 : shR 11 = (14, 8) := rfl
theorem kdR_11 {z : Mz} : (mxS (XR z) 11).1 = 14 := rfl
theorem skR_12 : shR 12 = (14, 48) := rfl
theorem kdR_12 {z : Mz} : (mxS (XR z) 12).1 = 14 := rfl
theorem skR_13 : shR 13 = (14, 12) := rfl
theorem kdR_13 {z : Mz} : (mxS (XR z) 13).1 = 14 := rfl
theorem skR_14 : shR 14 = (14, 12) := rfl
theorem kdR_14 {z : Mz} : (mxS (XR z) 14).1 = 14 := rfl
theorem skR_15 : shR 15 = (14, 6) := rfl
theorem kdR_15 {z : Mz} : (mxS (XR z) 15).1 = 14 := rfl
theorem skR_16 : shR 16 = (14, 6) := rfl
theorem kdR_16 {z : Mz} : (mxS (XR z) 16).1 = 14 := rfl
theorem skR_17 : shR 17 = (14, 32) := rfl
theorem kdR_17 {z : Mz} : (mxS (XR z) 17).1 = 14 := rfl
theorem skR_18 : shR 18 = (14, 32) := rfl
theorem kdR_18 {z : Mz} : (mxS (XR z) 18).1 = 14 := rfl
theorem skR_19 : shR 19 = (14, 32) := rfl
theorem kdR_19 {z : Mz} : (mxS (XR z) 19).1 = 14 := rfl
theorem skR_20 : shR 20 = (14, 6) := rfl
theorem kdR_20 {z : Mz} : (mxS (XR z) 20).1 = 14 := rfl
theorem skR_21 : shR 21 = (14, 6) := rfl
theorem kdR_21 {z : Mz} : (mxS (XR z) 21).1 = 14 := rfl
theorem skR_22 : shR 22 = (14, 18) := rfl
theorem kdR_22 {z : Mz} : (mxS (XR z) 22).1 = 14 := rfl
theorem skR_23 : shR 23 = (14, 128) := rfl
theorem kdR_23 {z : Mz} : (mxS (XR z) 23).1 = 14 := rfl
theorem skR_24 : shR 24 = (14, 128) := rfl
theorem kdR_24 {z : Mz} : (mxS (XR z) 24).1 = 14 := rfl
theorem skR_25 : shR 25 = (14, 128) := rfl
theorem kdR_25 {z : Mz} : (mxS (XR z) 25).1 = 14 := rfl
theorem skR_26 : shR 26 = (14, 96) := rfl
theorem kdR_26 {z : Mz} : (mxS (XR z) 26).1 = 14 := rfl
theorem skR_27 : shR 27 = (14, 96) := rfl
theorem kdR_27 {z : Mz} : (mxS (XR z) 27).1 = 14 := rfl
theorem skR_28 : shR 28 = (15, 5) := rfl
theorem kdR_28 {z : Mz} : (mxS (XR z) 28).1 = 15 := rfl
theorem skR_29 : shR 29 = (15, 64) := rfl
theorem kdR_29 {z : Mz} : (mxS (XR z) 29).1 = 15 := rfl
theorem skR_30 : shR 30 = (14, 2304) := rfl
theorem kdR_30 {z : Mz} : (mxS (XR z) 30).1 = 14 := rfl
theorem skR_31 : shR 31 = (14, 2304) := rfl
theorem kdR_31 {z : Mz} : (mxS (XR z) 31).1 = 14 := rfl
theorem skR_32 : shR 32 = (14, 3) := rfl
theorem kdR_32 {z : Mz} : (mxS (XR z) 32).1 = 14 := rfl
theorem skR_33 : shR 33 = (14, 20) := rfl
theorem kdR_33 {z : Mz} : (mxS (XR z) 33).1 = 14 := rfl
theorem skR_34 : shR 34 = (14, 96) := rfl
theorem kdR_34 {z : Mz} : (mxS (XR z) 34).1 = 14 := rfl
theorem skR_35 : shR 35 = (16, 32) := rfl
theorem kdR_35 {z : Mz} : (mxS (XR z) 35).1 = 16 := rfl
theorem skR_36 : shR 36 = (14, 4464) := rfl
theorem kdR_36 {z : Mz} : (mxS (XR z) 36).1 = 14 := rfl
theorem skR_37 : shR 37 = (14, 24) := rfl
theorem kdR_37 {z : Mz} : (mxS (XR z) 37).1 = 14 := rfl
theorem skR_38 : shR 38 = (14, 24) := rfl
theorem kdR_38 {z : Mz} : (mxS (XR z) 38).1 = 14 := rfl
theorem skR_39 : shR 39 = (14, 48) := rfl
theorem kdR_39 {z : Mz} : (mxS (XR z) 39).1 = 14 := rfl
theorem skR_40 : shR 40 = (14, 48) := rfl
theorem kdR_40 {z : Mz} : (mxS (XR z) 40).1 = 14 := rfl
theorem shR_in {o : Int} (h : (shR o).1 < 90) : ∃ i : Nat, o = (i : Int) ∧ i < 41 := by
  unfold shR at h
  by_cases h0 : 0 ≤ o
  · obtain ⟨i, rfl⟩ := Int.eq_ofNat_of_zero_le h0
    refine ⟨i, rfl, ?_⟩
    rcases Nat.lt_or_ge i 41 with q | q
    · exact q
    · rw [if_pos h0, List.getD_eq_getElem?_getD, List.getElem?_eq_none (by exact q)] at h
      exact absurd h (by decide)
  · rw [if_neg h0] at h
    exact absurd h (by decide)
theorem shC_lt (o : Int) : (shC o).2 < 2147483648 := by
  by_cases q : (shC o).1 < 90
  · obtain ⟨i, rfl, hi⟩ := shC_in q
    have : ∀ i : Nat, i < 142 → (shC i).2 < 2147483648 := by decide +kernel
    exact this i hi
  · unfold shC at q ⊢
    by_cases h0 : 0 ≤ o
    · rw [if_pos h0] at q ⊢
      rcases Nat.lt_or_ge o.toNat 142 with z | z
      · have : ∀ i : Nat, i < 142 → (shCl.getD i (99, 0)).1 < 90 := by decide +kernel
        exact absurd (this _ z) q
      · rw [List.getD_eq_getElem?_getD, List.getElem?_eq_none (by exact z)]; decide
    · rw [if_neg h0]; decide
theorem shR_lt (o : Int) : (shR o).2 < 2147483648 := by
  by_cases q : (shR o).1 < 90
  · obtain ⟨i, rfl, hi⟩ := shR_in q
    have : ∀ i : Nat, i < 41 → (shR i).2 < 2147483648 := by decide +kernel
    exact this i hi
  · unfold shR at q ⊢
    by_cases h0 : 0 ≤ o
    · rw [if_pos h0] at q ⊢
      rcases Nat.lt_or_ge o.toNat 41 with z | z
      · have : ∀ i : Nat, i < 41 → (shRl.getD i (99, 0)).1 < 90 := by decide +kernel
        exact absurd (this _ z) q
      · rw [List.getD_eq_getElem?_getD, List.getElem?_eq_none (by exact z)]; decide
    · rw [if_neg h0]; decide
set_option maxRecDepth 20000 in
theorem wirC {z : Mz} : mWir (XC z) := ⟨(fun r q => by
    obtain ⟨i, rfl, hi⟩ := shC_in (o := r) (by rw [show (shC r).1 = 0 from q]; decide)
    have : ∀ i : Nat, i < 142 → (shC i).1 = 0 → wrC i 0 = i + 1 ∧ (shC (i + 1)).1 = 14 := by decide +kernel
    exact this i hi q), (fun r q => by
    obtain ⟨i, rfl, hi⟩ := shC_in (o := r) (by rw [show (shC r).1 = 0 from q]; decide)
    have : ∀ i : Nat, i < 142 → (shC i).1 = 0 → wrC i 1 = i + 2 ∧ (shC (i + 2)).1 = 14 := by decide +kernel
    exact this i hi q), (fun r q => by
    obtain ⟨i, rfl, hi⟩ := shC_in (o := r) (by rw [show (shC r).1 = 0 from q]; decide)
    have : ∀ i : Nat, i < 142 → (shC i).1 = 0 → wrC i 2 = i + 3 ∧ (shC (i + 3)).1 = 14 := by decide +kernel
    exact this i hi q), (fun r q => by
    obtain ⟨i, rfl, hi⟩ := shC_in (o := r) (by rw [show (shC r).1 = 2 from q]; decide)
    have : ∀ i : Nat, i < 142 → (shC i).1 = 2 → wrC i 0 = i + 1 ∧ (shC (i + 1)).1 = 14 := by decide +kernel
    exact this i hi q), (fun r q => by
    obtain ⟨i, rfl, hi⟩ := shC_in (o := r) (by rw [show (shC r).1 = 2 from q]; decide)
    have : ∀ i : Nat, i < 142 → (shC i).1 = 2 → wrC i 1 = i + 2 ∧ (shC (i + 2)).1 = 14 := by decide +kernel
    exact this i hi q), (fun r q => by
    obtain ⟨i, rfl, hi⟩ := shC_in (o := r) (by rw [show (shC r).1 = 2 from q]; decide)
    have : ∀ i : Nat, i < 142 → (shC i).1 = 2 → wrC i 2 = i + 3 ∧ (shC (i + 3)).1 = 15 := by decide +kernel
    exact this i hi q), (fun r q => by
    obtain ⟨i, rfl, hi⟩ := shC_in (o := r) (by rw [show (shC r).1 = 2 from q]; decide)
    have : ∀ i : Nat, i < 142 → (shC i).1 = 2 → wrC i 3 = i + 4 ∧ (shC (i + 4)).1 = 15 := by decide +kernel
    exact this i hi q), (fun r q => by
    obtain ⟨i, rfl, hi⟩ := shC_in (o := r) (by rw [show (shC r).1 = 4 from q]; decide)
    have : ∀ i : Nat, i < 142 → (shC i).1 = 4 → wrC i 4 = i + 1 ∧ (shC (i + 1)).1 = 6 := by decide +kernel
    exact this i hi q), (fun r q => by
    obtain ⟨i, rfl, hi⟩ := shC_in (o := r) (by rw [show (shC r).1 = 4 from q]; decide)
    have : ∀ i : Nat, i < 142 → (shC i).1 = 4 → wrC i 5 = i + 3 ∧ (shC (i + 3)).1 = 17 := by decide +kernel
    exact this i hi q), (fun r q => by
    obtain ⟨i, rfl, hi⟩ := shC_in (o := r) (by rw [show (shC r).1 = 4 from q]; decide)
    have : ∀ i : Nat, i < 142 → (shC i).1 = 4 → wrC i 6 = i + 10 ∧ (shC (i + 10)).1 = 6 := by decide +kernel
    exact this i hi q), (fun r q => by
    obtain ⟨i, rfl, hi⟩ := shC_in (o := r) (by rw [show (shC r).1 = 4 from q]; decide)
    have : ∀ i : Nat, i < 142 → (shC i).1 = 4 → wrC i 7 = i + 12 ∧ (shC (i + 12)).1 = 6 := by decide +kernel
    exact this i hi q), (fun r q => by
    obtain ⟨i, rfl, hi⟩ := shC_in (o := r) (by rw [show (shC r).1 = 4 from q]; decide)
    have : ∀ i : Nat, i < 142 → (shC i).1 = 4 → wrC i 8 = i + 14 ∧ (shC (i + 14)).1 = 17 := by decide +kernel
    exact this i hi q), (fun r q => by
    obtain ⟨i, rfl, hi⟩ := shC_in (o := r) (by rw [show (shC r).1 = 4 from q]; decide)
    have : ∀ i : Nat, i < 142 → (shC i).1 = 4 → wrC i 9 = i + 23 ∧ (shC (i + 23)).1 = 6 := by decide +kernel
    exact this i hi q), (fun r q => by
    obtain ⟨i, rfl, hi⟩ := shC_in (o := r) (by rw [show (shC r).1 = 4 from q]; decide)
    have : ∀ i : Nat, i < 142 → (shC i).1 = 4 → wrC i 10 = i + 25 ∧ (shC (i + 25)).1 = 6 := by decide +kernel
    exact this i hi q), (fun r q => by
    obtain ⟨i, rfl, hi⟩ := shC_in (o := r) (by rw [show (shC r).1 = 4 from q]; decide)
    have : ∀ i : Nat, i < 142 → (shC i).1 = 4 → wrC i 11 = i + 27 ∧ (shC (i + 27)).1 = 6 := by decide +kernel
    exact this i hi q), (fun r q => by
    obtain ⟨i, rfl, hi⟩ := shC_in (o := r) (by rw [show (shC r).1 = 4 from q]; decide)
    have : ∀ i : Nat, i < 142 → (shC i).1 = 4 → wrC i 12 = i + 29 ∧ (shC (i + 29)).1 = 6 := by decide +kernel
    exact this i hi q), (fun r q => by
    obtain ⟨i, rfl, hi⟩ := shC_in (o := r) (by rw [show (shC r).1 = 4 from q]; decide)
    have : ∀ i : Nat, i < 142 → (shC i).1 = 4 → wrC i 13 = i + 31 ∧ (shC (i + 31)).1 = 6 := by decide +kernel
    exact this i hi q), (fun r q => by
    obtain ⟨i, rfl, hi⟩ := shC_in (o := r) (by rw [show (shC r).1 = 4 from q]; decide)
    have : ∀ i : Nat, i < 142 → (shC i).1 = 4 → wrC i 14 = i + 33 ∧ (shC (i + 33)).1 = 0 := by decide +kernel
    exact this i hi q), (fun r q => by
    obtain ⟨i, rfl, hi⟩ := shC_in (o := r) (by rw [show (shC r).1 = 4 from q]; decide)
    have : ∀ i : Nat, i < 142 → (shC i).1 = 4 → wrC i 15 = i + 37 ∧ (shC (i + 37)).1 = 2 := by decide +kernel
    exact this i hi q), (fun r q => by
    obtain ⟨i, rfl, hi⟩ := shC_in (o := r) (by rw [show (shC r).1 = 4 from q]; decide)
    have : ∀ i : Nat, i < 142 → (shC i).1 = 4 → wrC i 16 = i + 42 ∧ (shC (i + 42)).1 = 6 := by decide +kernel
    exact this i hi q), (fun r q => by
    obtain ⟨i, rfl, hi⟩ := shC_in (o := r) (by rw [show (shC r).1 = 6 from q]; decide)
    have : ∀ i : Nat, i < 142 → (shC i).1 = 6 → wrC i 0 = i + 1 ∧ (shC (i + 1)).1 = 14 := by decide +kernel
    exact this i hi q), (fun a i q h0 h1 => by
    obtain ⟨j, rfl, hj⟩ := shC_in (o := a) (by rw [show (shC a).1 = 17 from q]; decide)
    obtain ⟨k, rfl⟩ := Int.eq_ofNat_of_zero_le h0
    have h1 : k < (shC j).2 := by have : (k : Int) < ((shC j).2 : Int) := h1; omega
    have : ∀ j : Nat, j < 142 → (shC j).1 = 17 → ∀ k : Nat, k < (shC j).2 → wrC j k = j + 1 + 2 * k ∧ (shC (j + 1 + 2 * k)).1 = 6 := by decide +kernel
    exact this j hj q k h1)⟩
