/-! Calls that keep the relation: hurry. -/
theorem Rg_of {x : Int32} {b : Nat} (hb : b < 2 ^ 31) (h : ¬ (x < nI 0 ∨ nI b < x)) : Rg x b := by
  have h1 : ¬ x < nI 0 := fun k => h (.inl k)
  have h2 : ¬ nI b < x := fun k => h (.inr k)
  rw [Int32.lt_iff_toInt_lt, z0_toInt] at h1
  rw [Int32.lt_iff_toInt_lt, nI_toInt hb] at h2
  exact ⟨x.toInt.toNat, by omega, Int32.toInt_inj.mp (by rw [nI_toInt (by omega)]; omega)⟩
theorem C64 {ro : ma_RO} {d : Nat} (σ : ma_H) (hG : G σ) (x : Int32) : ∃ r σ1 σ2, ma_ev ro (d + 2) 64 [.ref 0, .int x] SH σ = some (some (.int r), SH, σ1) ∧ ma_ev ro (d + 2) 132 [.ref 90, .int x] SH σ1 = some (some (.int r), SH, σ2) ∧ G σ2 := by
  obtain ⟨nd, cs, wo, hg⟩ := hG.1
  have hg' := hg
  obtain ⟨k1, k2, k3, k4, ⟨i1, i2, i3, i4, i5⟩, k6⟩ := hg'
  obtain ⟨w1, w2, w3, w4, w5⟩ := k6.1
  by_cases h : x < nI 0 ∨ nI 20 < x
  · refine ⟨-2, σ, σ, ?_, ?_, hG⟩
    · rw [X64, if_pos h, if_pos h]
    · rw [M132, if_pos h, if_pos h]
  · refine ⟨σ 2 2, ma_up σ 2 2 x, ma_up (ma_up σ 2 2 x) 91 1 x, ?_, ?_, ?_⟩
    · rw [X64, if_neg h, if_neg h]
    · rw [M132, if_neg h, if_neg h, up_no (by decide)]
      exact congrArg (fun y => some (some (Value.int y), SH, _)) w2.symm
    · have e91 : ma_up (ma_up σ 2 2 x) 91 1 x 91 = upS (σ 91) 1 x := by rw [up_S, up_no (by decide)]
      have hhi : sHi (σ 91) (upS (σ 91) 1 x) := fun k hk => if_neg (by omega)
      refine G_low hG hg (by rw [e91]; exact hhi) (by rw [e91]; exact upS_Iv _ 1 x nd (by decide) i1) ?_ ?_ ?_ ?_ (fun o ho => by rw [up_no (by omega), up_no (by omega)]) (fun p hp => by rw [up_no (by omega), up_no (by omega)]; exact hG.2.1 p hp) (by rw [up_no (by decide), up_no (by decide)]) (by rw [up_no (by decide), up_no (by decide)])
      · rw [e91, show upS (σ 91) 1 x 0 = σ 91 0 from if_neg (by decide)]; exact i2
      · rw [e91, show upS (σ 91) 1 x 1 = x from if_pos rfl]; exact Rg_of (by decide) h
      · rw [e91, show upS (σ 91) 1 x 2 = σ 91 2 from if_neg (by decide)]; exact i4
      · rw [e91]
        refine ⟨?_, ?_, ?_, ?_, fun p hp => ?_⟩
        · rw [up_no (by decide), up_nk (by decide)]; exact w1
        · rw [up_no (by decide), up_at]; exact (if_pos rfl).symm
        · rw [up_no (by decide), up_nk (by decide)]; exact w3.trans (if_neg (by decide)).symm
        · rw [up_no (by decide), up_nk (by decide)]; exact w4.trans (if_neg (by decide)).symm
        · obtain ⟨d1, d2⟩ := w5 p hp
          exact ⟨fun j hj => by rw [up_no (by omega), up_no (by omega), vD_hi2 _ _ _ _ _ (by decide)]; exact d1 j hj, fun j hj => by rw [up_no (by omega), up_no (by omega), vR_hi hhi]; exact d2 j hj⟩
