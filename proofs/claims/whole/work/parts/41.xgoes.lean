/-! A world of the class goes a morning. -/
def hkWd (w : Nat) : Prop := hk_cls w = 6 ∧ hk_qlen (w + 1) = 6 ∧ hk_alen (w + 1) = 6 ∧ ∀ p, p < 6 → hkDd (w + 1 + 1 + 2 * p)
theorem dcases (x : Int32) (nd : Nat) (hn : nd ≤ 2 ^ 30) : (∃ p, p < nd ∧ x = nI p) ∨ (x < nI 0 ∨ ¬ x < nI nd) := by
  by_cases h1 : x < nI 0
  · exact .inr (.inl h1)
  by_cases h2 : x < nI nd
  · left
    rw [Int32.lt_iff_toInt_lt, z0_toInt] at h1
    rw [Int32.lt_iff_toInt_lt, nI_toInt (by omega)] at h2
    refine ⟨x.toInt.toNat, by omega, Int32.toInt_inj.mp ?_⟩
    rw [nI_toInt (by omega)]; omega
  · exact .inr (.inr h2)
theorem V50 {ro : ma_RO} {d : Nat} (σ : ma_H) (w p nd : Nat) (kw : hkWd w) (hs : σ w 1 = nI nd) (hn : nd ≤ 6) (hp : p < nd) : ma_ev ro d 50 [.ref w, .int (nI p)] SH σ = some (some (.ref (w + 1 + 1 + 2 * p)), SH, σ) := by
  obtain ⟨k1, k2, k3, k4⟩ := kw
  have hp6 : p < 6 := by omega
  simp (disch := first | assumption | omega | exact zb_fit | (simp (disch := omega) only [up_no, up_nk, up_at, u_cp_no] <;> (first | assumption | omega)) | (simp only [hkF] <;> omega) | decide) only [E50, S50, hs, z_lt, Nat.not_lt_zero, hp, k3, hp6, hkF, z_add, z_mul, up_at, up_no, up_nk, u_cp_no, ma_bd, if_true, if_false, Option.toList, List.nil_append, List.cons_append]
theorem V50n {ro : ma_RO} {d : Nat} (σ : ma_H) (w nd : Nat) (x : Int32) (kw : hkWd w) (hs : σ w 1 = nI nd) (hx : x < nI 0 ∨ ¬ x < nI nd) : ma_ev ro d 50 [.ref w, .int x] SH σ = some (some .null, SH, σ) := by
  obtain ⟨k1, k2, k3, k4⟩ := kw
  by_cases h1 : x < nI 0
  · simp (disch := first | assumption | omega | exact zb_fit | (simp (disch := omega) only [up_no, up_nk, up_at, u_cp_no] <;> (first | assumption | omega)) | (simp only [hkF] <;> omega) | decide) only [E50, S50, hs, h1, hkF, z_add, z_mul, up_at, up_no, up_nk, u_cp_no, ma_bd, if_true, if_false, Option.toList, List.nil_append, List.cons_append]
  · have h2 : ¬ x < nI nd := by rcases hx with h | h; exact absurd h h1; exact h
    simp (disch := first | assumption | omega | exact zb_fit | (simp (disch := omega) only [up_no, up_nk, up_at, u_cp_no] <;> (first | assumption | omega)) | (simp only [hkF] <;> omega) | decide) only [E50, S50, hs, h1, h2, hkF, z_add, z_mul, up_at, up_no, up_nk, u_cp_no, ma_bd, if_true, if_false, Option.toList, List.nil_append, List.cons_append]
/-- the deed at a shows the deed p of the row -/
def RDd (σ : ma_H) (a : Nat) (S : Nat → Int32) (p : Nat) : Prop := (∀ j, j < 8 → σ a j = vD S p j) ∧ ∀ k, k < 4 → σ (a + 1) k = vR S p k
/-- the world at w shows the row -/
def RWd (σ : ma_H) (w : Nat) (S : Nat → Int32) (nd : Nat) : Prop := σ w 1 = nI nd ∧ σ w 2 = S 1 ∧ σ w 3 = S 0 ∧ σ w 4 = S 2 ∧ ∀ p, p < nd → RDd σ (w + 1 + 1 + 2 * p) S p
/-- the ranges of one deed -/
def IvD (D : Nat → Int32) : Prop := Rg (D 3) 1 ∧ Rg (D 4) 99 ∧ Rg (D 5) 99 ∧ Rg (D 6) 9 ∧ Rg (D 7) 9
theorem hl0_Rg (m : Nat) (hm : m < 2 ^ 31) (x : Int32) : Rg (hl0 (nI m) x) m := by
  unfold hl0
  by_cases h1 : x < nI 0
  · rw [if_pos h1]; exact ⟨0, by omega, rfl⟩
  · rw [if_neg h1]
    by_cases h2 : nI m < x
    · rw [if_pos h2]; exact ⟨m, by omega, rfl⟩
    · rw [if_neg h2]
      rw [Int32.lt_iff_toInt_lt, z0_toInt] at h1
      rw [Int32.lt_iff_toInt_lt, nI_toInt hm] at h2
      exact ⟨x.toInt.toNat, by omega, Int32.toInt_inj.mp (by rw [nI_toInt (by omega)]; omega)⟩
theorem goD_3 (D : Nat → Int32) (c h : Int32) : goD D c h 3 = if c < h then nI 1 else nI 0 := by simp only [goD, if_true]
theorem goD_4 (D : Nat → Int32) (c h : Int32) : goD D c h 4 = if c < h then hl0 (nI 99) (nI 25 - D 5) else hl0 (nI 99) (nI 50 - nI 2 * D 5 + nI 4 * D 6) := by simp only [goD, Nat.reduceEqDiff, if_false, if_true]
theorem goD_5 (D : Nat → Int32) (c h : Int32) : goD D c h 5 = hl0 (nI 99) (D 5 + nI 1) := by simp only [goD, Nat.reduceEqDiff, if_false, if_true]
theorem goD_6 (D : Nat → Int32) (c h : Int32) : goD D c h 6 = if c < h then D 6 else hl0 (nI 9) (D 6 - nI 1) := by simp only [goD, Nat.reduceEqDiff, if_false, if_true]
theorem goD_7 (D : Nat → Int32) (c h : Int32) : goD D c h 7 = nI 0 := by simp only [goD, Nat.reduceEqDiff, if_false, if_true]
theorem goD_lo (D : Nat → Int32) (c h : Int32) (j : Nat) (hj : j < 3 ∨ 7 < j) : goD D c h j = D j := by
  unfold goD
  rw [if_neg (by omega), if_neg (by omega), if_neg (by omega), if_neg (by omega), if_neg (by omega)]
theorem Rg_if {p : Prop} [Decidable p] {a b : Int32} {n : Nat} (ha : Rg a n) (hb : Rg b n) : Rg (if p then a else b) n := by
  split
  · exact ha
  · exact hb
theorem goD_Iv (D : Nat → Int32) (c h : Int32) (hD : IvD D) : IvD (goD D c h) := by
  obtain ⟨h3, h4, h5, h6, h7⟩ := hD
  unfold IvD
  rw [goD_3, goD_4, goD_5, goD_6, goD_7]
  exact ⟨Rg_if ⟨1, by omega, rfl⟩ ⟨0, by omega, rfl⟩, Rg_if (hl0_Rg 99 (by decide) _) (hl0_Rg 99 (by decide) _), hl0_Rg 99 (by decide) _, Rg_if h6 (hl0_Rg 9 (by decide) _), ⟨0, by omega, rfl⟩⟩
theorem vD_setD (S D : Nat → Int32) (p : Nat) (hp : p < 6) (j : Nat) (hj : j < 8) : vD (setD S p D) p j = if 3 ≤ j then D j else vD S p j := by
  have : j = 0 ∨ j = 1 ∨ j = 2 ∨ j = 3 ∨ j = 4 ∨ j = 5 ∨ j = 6 ∨ j = 7 := by omega
  have h1 : setD S p D (3 + p) = D 3 := if_pos rfl
  have h2 : setD S p D (9 + p) = D 4 := by unfold setD; rw [if_neg (by omega), if_pos rfl]
  have h3 : setD S p D (15 + p) = D 5 := by unfold setD; rw [if_neg (by omega), if_neg (by omega), if_pos rfl]
  have h4 : setD S p D (21 + p) = D 6 := by unfold setD; rw [if_neg (by omega), if_neg (by omega), if_neg (by omega), if_pos rfl]
  have h5 : setD S p D (27 + p) = D 7 := by unfold setD; rw [if_neg (by omega), if_neg (by omega), if_neg (by omega), if_neg (by omega), if_pos rfl]
  have hh := setD_hi S p hp D
  rcases this with rfl | rfl | rfl | rfl | rfl | rfl | rfl | rfl <;> simp only [vD, Nat.reduceEqDiff, if_false, if_true, Nat.reduceLeDiff, Nat.le_refl, h1, h2, h3, h4, h5, hh (40 + p) (by omega), hh (46 + p) (by omega)]
theorem vD_setD_ne (S D : Nat → Int32) (p q : Nat) (hp : p < 6) (hq : q < 6) (hne : ¬ q = p) (j : Nat) : vD (setD S p D) q j = vD S q j := by
  have hh := setD_hi S p hp D
  have e : ∀ b, (b = 3 ∨ b = 9 ∨ b = 15 ∨ b = 21 ∨ b = 27) → setD S p D (b + q) = S (b + q) := by
    intro b hb; unfold setD
    rw [if_neg (by omega), if_neg (by omega), if_neg (by omega), if_neg (by omega), if_neg (by omega)]
  unfold vD
  rw [e 3 (by omega), e 9 (by omega), e 15 (by omega), e 21 (by omega), e 27 (by omega), hh (40 + q) (by omega), hh (46 + q) (by omega)]
theorem vD_hi2 (S : Nat → Int32) (k : Nat) (v : Int32) (q j : Nat) (hk : k < 3) : vD (upS S k v) q j = vD S q j := by
  have e : ∀ x, 3 ≤ x → upS S k v x = S x := fun x hx => if_neg (by omega)
  unfold vD
  rw [e _ (by omega), e _ (by omega), e _ (by omega), e _ (by omega), e _ (by omega), e _ (by omega), e _ (by omega)]
theorem vR_hi {S S' : Nat → Int32} (h : sHi S S') (p k : Nat) : vR S' p k = vR S p k := h _ (by omega)
