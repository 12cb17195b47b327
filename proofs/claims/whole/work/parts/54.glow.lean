/-! The relation behind a change of the low slots alone. -/
theorem IvS_low {S S' : Nat → Int32} {nd : Nat} (h1 : sHi S S') (h2 : IvA S' nd) (h3 : Rg (S' 0) 9999) (h4 : Rg (S' 1) 20) (h5 : Rg (S' 2) 999999) (h : IvS S nd) : IvS S' nd := by
  obtain ⟨i1, i2, i3, i4, i5, ⟨hn, j1, j2, j3⟩, i7, i8, i9, i10⟩ := h
  have e : ∀ k, 33 ≤ k → S' k = S k := h1
  refine ⟨h2, h3, h4, h5, fun p hp => ?_, ⟨hn, j1, by rw [e 34 (by decide)]; exact j2, by rw [e 39 (by decide)]; exact j3⟩, ?_, ?_, ?_, ?_⟩
  · rw [e _ (by omega), e _ (by omega)]
    exact ⟨(i5 p hp).1, (i5 p hp).2.1, fun k hk => by rw [e _ (by omega)]; exact (i5 p hp).2.2 k hk⟩
  · intro n hn hs k hk
    rw [e 35 (by decide)] at hs
    rw [e _ (by omega), e _ (by omega), e _ (by omega)]; exact i7 n hn hs k hk
  · intro n hn hs k hk
    rw [e 36 (by decide)] at hs
    rw [e _ (by omega), e _ (by omega)]; exact i8 n hn hs k hk
  · intro n hn hs k hk
    rw [e 37 (by decide)] at hs
    rw [e _ (by omega), e _ (by omega)]; exact i9 n hn hs k hk
  · intro n hn hs k hk
    rw [e 38 (by decide)] at hs
    rw [e _ (by omega)]; exact i10 n hn hs k hk
theorem RRw_congr {σ σ' : ma_H} {r b1 b2 n : Nat} {S S' : Nat → Int32} (h1 : sHi S S') (hb1 : 33 ≤ b1) (hb2 : 33 ≤ b2) (e : ∀ o, r ≤ o → o ≤ r + 3 → σ' o = σ o) (h : RRw σ r S b1 b2 n) : RRw σ' r S' b1 b2 n := by
  refine ⟨by rw [e _ (by omega) (by omega)]; exact h.1, fun k hk => ?_⟩
  have e2 : ∀ k, 33 ≤ k → S' k = S k := h1
  rw [e _ (by omega) (by omega), e _ (by omega) (by omega), e _ (by omega) (by omega), e2 _ (by omega), e2 _ (by omega)]
  exact h.2 k hk
theorem RWh_low {σ σ' : ma_H} {w nd : Nat} {S S' : Nat → Int32} {cs : List (Bool × Nat × List (Nat × Nat × Nat))} {wo : Int32} (h1 : sHi S S') (h6 : RWd σ' (w + 1) S' nd) (h7 : ∀ o, o = w ∨ (w + 15 ≤ o ∧ o ≤ w + 31) → σ' o = σ o) (h : RWh σ w S nd cs wo) : RWh σ' w S' nd cs wo := by
  obtain ⟨r1, r2, r3, ⟨t, t1, t2, t3, t4⟩, ⟨n1, n2, n3, n4, n5⟩, ⟨m1, m2, m3, m4⟩, ⟨k1, k2, k3, k4⟩⟩ := h
  have e : ∀ k, 33 ≤ k → S' k = S k := h1
  refine ⟨h6, HXr_congr (fun o g1 g2 => h7 o (by omega)) r2, by rw [h7 w (by omega), e 34 (by decide)]; exact r3, ⟨t, t1, by rw [e 38 (by decide)]; exact t2, by rw [h7 w (by omega)]; exact t3, fun k hk => by rw [h7 _ (by omega), e _ (by omega)]; exact t4 k hk⟩, ⟨n1, n2, by rw [e 35 (by decide)]; exact n3, RRw_congr h1 (by decide) (by decide) (fun o g1 g2 => h7 o (by omega)) n4, fun k hk => by rw [h7 _ (by omega), e _ (by omega)]; exact n5 k hk⟩, ⟨m1, m2, by rw [e 36 (by decide)]; exact m3, RRw_congr h1 (by decide) (by decide) (fun o g1 g2 => h7 o (by omega)) m4⟩, ⟨k1, k2, by rw [e 37 (by decide)]; exact k3, RRw_congr h1 (by decide) (by decide) (fun o g1 g2 => h7 o (by omega)) k4⟩⟩
theorem G_low {σ σ' : ma_H} {nd : Nat} {cs : List (Bool × Nat × List (Nat × Nat × Nat))} {wo : Int32} (hG : G σ) (hg : GS σ 1 (σ 91) nd cs wo) (h1 : sHi (σ 91) (σ' 91)) (h2 : IvA (σ' 91) nd) (h3 : Rg (σ' 91 0) 9999) (h4 : Rg (σ' 91 1) 20) (h5 : Rg (σ' 91 2) 999999) (h6 : RWd σ' 2 (σ' 91) nd) (h7 : ∀ o, (o ≤ 1 ∨ (16 ≤ o ∧ o ≤ 64) ∨ o = 86 ∨ o = 87 ∨ o = 92 ∨ o = 96) → σ' o = σ o) (h8 : ∀ p, p < 6 → σ' (4 + 2 * p) 0 = nI p) (h9 : σ' 90 4 = σ 90 4) (h10 : σ' 90 13 = σ 90 13) : G σ' := by
  obtain ⟨-, g2, ⟨f, f1, f2, f3, f4⟩, ⟨rn, b1, b2, b3, b4⟩⟩ := hG
  obtain ⟨k1, k2, k3, k4, k5, k6⟩ := hg
  refine ⟨⟨nd, cs, wo, k1, by rw [h1 33 (by decide)]; exact k2, k3, HMr_congr h1 k4, IvS_low h1 h2 h3 h4 h5 k5, RWh_low h1 h6 (fun o ho => h7 o (by omega)) k6⟩, h8, ⟨f, f1, by rw [h7 0 (by omega)]; exact f2, by rw [h9]; exact f3, fun hf => ?_⟩, ⟨rn, b1, by rw [h7 86 (by omega)]; exact b2, by rw [h10]; exact b3, fun k hk hk2 => by rw [h7 87 (by omega), h7 96 (by omega)]; exact b4 k hk hk2⟩⟩
  obtain ⟨nd', cs', wo', q1, q2, q3, q4, q5, q6⟩ := f4 hf
  have e92 : σ' 92 = σ 92 := h7 92 (by omega)
  refine ⟨nd', cs', wo', q1, by rw [e92]; exact q2, q3, by rw [e92]; exact q4, by rw [e92]; exact q5, ?_⟩
  rw [e92]
  exact RWh_low (fun _ _ => rfl) (RWd_congr q1 (fun o g1 g2 => h7 o (by omega)) q6.1) (fun o ho => h7 o (by omega)) q6
