/-! ===== the enum's constants and the two rows at the law's entry ===== -/
def nfl : List Cond := flatC (Jvm.Cond.and given_1 narrow_1)
def mWd : String := "PondReader$Word"
def mWs : String := "LPondReader$Word;"
set_option maxRecDepth 100000 in
theorem nf_ex : ∀ i : Nat, i < 22 → Cond.exactly (.static "PondReader$Word" (mWn.getD i "") "LPondReader$Word;") "PondReader$Word" ∈ nfl := by decide +kernel
