/-! The claim as a statement of the small machine alone. -/
theorem law_pure (L : Nat) (xs : Nat → Int32) (hL : L ≤ 2048) : ∃ (sh' : List ma_Sh) (σ' : ma_H), ma_rn (ma_ro L xs) 100 178 (0, [some (.ref 2000000), none, none, none], [], [], fun _ _ => 0) = some (some (.int 1), sh', σ') ∧ sh'.length ≤ 600000 ∧ ma_sz sh' ≤ 7302250 := by
  obtain ⟨σ, hP, e⟩ := ma_first (ma_ro L xs)
  obtain ⟨σ', e'⟩ := law_run (ro := ma_ro L xs) (L := L) (xs := xs) rfl rfl hL (d := 69) 2048 0 σ (by decide) (by decide) (G_first σ hP)
  have e2 : ma_rn (ma_ro L xs) 100 178 (18, [some (.ref 2000000), some (.ref 0), some (.ref 90), some (.int 0)], [], SH, σ) = some (some (.int 1), SH, σ') := e'
  exact ⟨SH, σ', e.trans e2, by rw [SH_len]; decide, SH_sz⟩
