/-! ===== the enum's constants and the two rows at the law's entry ===== -/
def nfl : List Cond := flatC (Jvm.Cond.and given_1 narrow_1)
def mWd : String := "PondReader$Word"
def mWs : String := "LPondReader$Word;"
set_option maxRecDepth 100000 in
theorem nf_ex : ∀ i : Nat, i < 22 → Cond.exactly (.static "PondReader$Word" (mWn.getD i "") "LPondReader$Word;") "PondReader$Word" ∈ nfl := by decide +kernel
set_option maxRecDepth 100000 in
theorem nf_f : ∀ q ∈ mWF, ∀ i : Nat, i < 22 → Cond.eq (.field (.static "PondReader$Word" (mWn.getD i "") "LPondReader$Word;") q.1 q.2.1 q.2.2.1) (.int (q.2.2.2.getD i 0)) ∈ nfl := by decide +kernel
set_option maxRecDepth 100000 in
theorem nf_b : Cond.arrayOf (.static "PondReader$Word" "ALL" "[LPondReader$Word;") (.object "PondReader$Word") ∈ nfl ∧ Cond.eq (.length (.static "PondReader$Word" "ALL" "[LPondReader$Word;")) (.int 22) ∈ nfl ∧ Cond.arrayOf (.static "PondReader$1" "$SwitchMap$PondReader$Word" "[I") .int ∈ nfl ∧ Cond.eq (.length (.static "PondReader$1" "$SwitchMap$PondReader$Word" "[I")) (.int 22) ∈ nfl := by decide +kernel
set_option maxRecDepth 100000 in
theorem nf_e : ∀ j : Nat, j < 22 → Cond.eq (.elem (.static "PondReader$Word" "ALL" "[LPondReader$Word;") (.int (Int32.ofNat j))) (.static "PondReader$Word" (mWn.getD j "") "LPondReader$Word;") ∈ nfl := by decide +kernel
set_option maxRecDepth 100000 in
theorem nf_m : ∀ j : Nat, j < 22 → Cond.eq (.elem (.static "PondReader$1" "$SwitchMap$PondReader$Word" "[I") (.int (Int32.ofNat j))) (.int (mSm.getD j 0)) ∈ nfl := by decide +kernel
