/-! The claim as a statement of the small machine alone. -/
theorem law_pure (L : Nat) (xs : Nat → Int32) (hL : L ≤ 2048) : ∃ (sh' : List ma_Sh) (σ' : ma_H), ma_rn (ma_ro L xs) 100 178 (0, [some (.ref 2000000), none, none, none], [], [], fun _ _ => 0) = some (some (.int 1), sh', σ') ∧ sh'.length ≤ 600000 ∧ ma_sz sh' ≤ 7302250 := by
  sorry
