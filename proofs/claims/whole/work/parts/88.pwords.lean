/-! Reading a house: one of some signs, numbers, words. -/
def ixF (l : List Int32) (c : Int32) : Nat → Nat → Option Nat
  | 0, _ => none
  | m + 1, k => if c = l.getD k 0 then some k else ixF l c m (k + 1)
theorem ixF_spec (l : List Int32) (c : Int32) : ∀ m k j, ixF l c m k = some j → k ≤ j ∧ j < k + m ∧ c = l.getD j 0 := by
  intro m
  induction m with
  | zero => intro k j h; cases h
  | succ m ih =>
    intro k j h
    unfold ixF at h
    by_cases hc : c = l.getD k 0
    · rw [if_pos hc] at h; cases h; exact ⟨by omega, by omega, hc⟩
    · rw [if_neg hc] at h
      have := ih (k + 1) j h
      exact ⟨by omega, by omega, this.2.2⟩
theorem chs_len : ∀ s, s < 7 → 0 < (ma_chs s).length ∧ (ma_chs s).length ≤ 6 := by decide
theorem V32 {ro : ma_RO} {d : Nat} (n : Nat) (t : Nat → Nat) (hn : n ≤ 100) (σ : ma_H) (i sz s : Nat) (hs : s < 7) (hi : i < 2 ^ 30) (h : XS n t σ i sz) : ma_ev ro (d + 2) 32 [.ref 69, .ref (1000000 + s)] SH σ = (match ixF (ma_chs s) (pkc n t i) (ma_chs s).length 0 with | some k => some (some (.int (nI k)), SH, ma_up σ 69 2 (nI (i + 1))) | none => some (some (.int (nI 0)), SH, ma_up σ 69 3 (nI i))) := by
  obtain ⟨hX, hp, hf, -⟩ := h
  have e36 := V36 (ro := ro) (d := d) n t hn σ hX i hi hp
  have hl := chs_len s hs
  have H : ∀ m k, k + m = (ma_chs s).length → ma_rn ro (d + 2) 32 (16, [some (.ref 69), some (.ref (1000000 + s)), some (.int (pkc n t i)), some (.int (nI k))], [], SH, σ) = (match ixF (ma_chs s) (pkc n t i) m k with | some k => some (some (.int (nI k)), SH, ma_up σ 69 2 (nI (i + 1))) | none => some (some (.int (nI 0)), SH, ma_up σ 69 3 (nI i))) := by
    intro m
    induction m with
    | zero =>
      intro k hk
      have hkn : ¬ k < (ma_chs s).length := by omega
      rw [Sh32_16]
      simp (disch := first | assumption | omega | exact zb_fit | exact hbf .. | (simp (disch := omega) only [up_no, up_nk, up_at, u_cp_no] <;> (first | assumption | omega)) | (simp only [hkF] <;> omega) | decide) only [S32, z_lt, hkn, hp, ixF, hkF, z_add, z_mul, up_at, up_no, up_nk, u_cp_no, ma_bd, ↓reduceIte, if_true, if_false, Option.toList, List.nil_append, List.cons_append]
    | succ m ih =>
      intro k hk
      have hkn : k < (ma_chs s).length := by omega
      rw [Sh32_16]
      by_cases hc : pkc n t i = (ma_chs s).getD k 0
      · rw [show ixF (ma_chs s) (pkc n t i) (m + 1) k = some k from if_pos hc]
        simp (disch := first | assumption | omega | exact zb_fit | exact hbf .. | (simp (disch := omega) only [up_no, up_nk, up_at, u_cp_no] <;> (first | assumption | omega)) | (simp only [hkF] <;> omega) | decide) only [S32, z_lt, hkn, hc, hp, hkF, z_add, z_mul, up_at, up_no, up_nk, u_cp_no, ma_bd, ↓reduceIte, if_true, if_false, Option.toList, List.nil_append, List.cons_append]
      · rw [show ixF (ma_chs s) (pkc n t i) (m + 1) k = ixF (ma_chs s) (pkc n t i) m (k + 1) from if_neg hc, ← ih (k + 1) (by omega)]
        simp (disch := first | assumption | omega | exact zb_fit | exact hbf .. | (simp (disch := omega) only [up_no, up_nk, up_at, u_cp_no] <;> (first | assumption | omega)) | (simp only [hkF] <;> omega) | decide) only [S32, z_lt, hkn, hc, hkF, z_add, z_mul, up_at, up_no, up_nk, u_cp_no, ma_bd, ↓reduceIte, if_true, if_false, Option.toList, List.nil_append, List.cons_append]
  rw [← H (ma_chs s).length 0 (by omega)]
  simp (disch := first | assumption | omega | exact zb_fit | exact hbf .. | (simp (disch := omega) only [up_no, up_nk, up_at, u_cp_no] <;> (first | assumption | omega)) | (simp only [hkF] <;> omega) | decide) only [E32, S32, hf, m1_neg, e36, hkF, z_add, z_mul, up_at, up_no, up_nk, u_cp_no, ma_bd, ↓reduceIte, if_true, if_false, Option.toList, List.nil_append, List.cons_append]
theorem V32w {ro : ma_RO} {d : Nat} (σ : ma_H) (f s : Nat) (hf2 : f ≤ 1000) (hf : σ 69 3 = nI f) : ma_ev ro d 32 [.ref 69, .ref (1000000 + s)] SH σ = some (some (.int (nI 0)), SH, σ) := by
  simp (disch := first | assumption | omega | exact zb_fit | exact hbf .. | (simp (disch := omega) only [up_no, up_nk, up_at, u_cp_no] <;> (first | assumption | omega)) | (simp only [hkF] <;> omega) | decide) only [E32, S32, hf, z_lt, Nat.not_lt_zero, hkF, z_add, z_mul, up_at, up_no, up_nk, u_cp_no, ma_bd, ↓reduceIte, if_true, if_false, Option.toList, List.nil_append, List.cons_append]
theorem V112 {ro : ma_RO} {d : Nat} (n act : Nat) (t : Nat → Nat) (hn : n ≤ 100) (σ : ma_H) (i ms s : Nat) (hs : s < 7) (hi : i < 2 ^ 30) (h : MS n t act σ i ms) : ma_ev ro (d + 1) 112 [.ref 90, .ref (1000000 + s)] SH σ = (match ixF (ma_chs s) (pkc n t i) (ma_chs s).length 0 with | some k => some (some (.int (nI k)), SH, ma_up σ 90 6 (nI (i + 1))) | none => some (some (.int (-1)), SH, σ)) := by
  obtain ⟨hX, -, hp, -, -⟩ := h
  have e108 := V108 (ro := ro) (d := d) n t hn σ hX i hi hp
  have hl := chs_len s hs
  have H : ∀ m k, k + m = (ma_chs s).length → ma_rn ro (d + 1) 112 (2, [some (.ref 90), some (.ref (1000000 + s)), some (.int (nI k))], [], SH, σ) = (match ixF (ma_chs s) (pkc n t i) m k with | some k => some (some (.int (nI k)), SH, ma_up σ 90 6 (nI (i + 1))) | none => some (some (.int (-1)), SH, σ)) := by
    intro m
    induction m with
    | zero =>
      intro k hk
      have hkn : ¬ k < (ma_chs s).length := by omega
      rw [Sh112_2]
      simp (disch := first | assumption | omega | exact zb_fit | exact hbf .. | (simp (disch := omega) only [up_no, up_nk, up_at, u_cp_no] <;> (first | assumption | omega)) | (simp only [hkF] <;> omega) | decide) only [S112, z_lt, hkn, ixF, hkF, z_add, z_mul, up_at, up_no, up_nk, u_cp_no, ma_bd, ↓reduceIte, if_true, if_false, Option.toList, List.nil_append, List.cons_append]
    | succ m ih =>
      intro k hk
      have hkn : k < (ma_chs s).length := by omega
      rw [Sh112_2]
      by_cases hc : pkc n t i = (ma_chs s).getD k 0
      · rw [show ixF (ma_chs s) (pkc n t i) (m + 1) k = some k from if_pos hc]
        simp (disch := first | assumption | omega | exact zb_fit | exact hbf .. | (simp (disch := omega) only [up_no, up_nk, up_at, u_cp_no] <;> (first | assumption | omega)) | (simp only [hkF] <;> omega) | decide) only [S112, z_lt, hkn, e108, hc, hp, hkF, z_add, z_mul, up_at, up_no, up_nk, u_cp_no, ma_bd, ↓reduceIte, if_true, if_false, Option.toList, List.nil_append, List.cons_append]
      · rw [show ixF (ma_chs s) (pkc n t i) (m + 1) k = ixF (ma_chs s) (pkc n t i) m (k + 1) from if_neg hc, ← ih (k + 1) (by omega)]
        simp (disch := first | assumption | omega | exact zb_fit | exact hbf .. | (simp (disch := omega) only [up_no, up_nk, up_at, u_cp_no] <;> (first | assumption | omega)) | (simp only [hkF] <;> omega) | decide) only [S112, z_lt, hkn, e108, hc, hkF, z_add, z_mul, up_at, up_no, up_nk, u_cp_no, ma_bd, ↓reduceIte, if_true, if_false, Option.toList, List.nil_append, List.cons_append]
  rw [← H (ma_chs s).length 0 (by omega)]
  simp (disch := first | assumption | omega | exact zb_fit | exact hbf .. | (simp (disch := omega) only [up_no, up_nk, up_at, u_cp_no] <;> (first | assumption | omega)) | (simp only [hkF] <;> omega) | decide) only [E112, S112, hkF, z_add, z_mul, up_at, up_no, up_nk, u_cp_no, ma_bd, ↓reduceIte, if_true, if_false, Option.toList, List.nil_append, List.cons_append]
/-- a figure stands at i -/
abbrev dgP (n : Nat) (t : Nat → Nat) (i : Nat) : Prop := i < n ∧ 48 ≤ t i ∧ t i ≤ 57
theorem pkc_dg {n : Nat} {t : Nat → Nat} (ht : ∀ i, i < n → t i ≤ 127) (i : Nat) : (¬ pkc n t i < nI 48 ∧ ¬ nI 57 < pkc n t i) ↔ dgP n t i := by
  unfold dgP
  by_cases h : i < n
  · have := ht i h
    rw [pkc_in h, z_lt (by omega) (by decide), z_lt (by decide) (by omega)]
    omega
  · rw [pkc_out h]
    constructor
    · intro k; exact absurd (show (-1 : Int32) < nI 48 by decide) k.1
    · intro k; exact absurd k.1 h
theorem V34t {ro : ma_RO} {d : Nat} {n : Nat} {t : Nat → Nat} (ht : ∀ i, i < n → t i ≤ 127) (i : Nat) (σ : ma_H) (h : dgP n t i) : ma_ev ro d 34 [.int (pkc n t i)] SH σ = some (some (.int (nI 1)), SH, σ) := by
  obtain ⟨h1, h2⟩ := (pkc_dg ht i).mpr h
  have f1 : ma_fitI .boolean (nI 1) = true := by decide
  simp (disch := first | assumption | omega | exact zb_fit | exact hbf .. | (simp (disch := omega) only [up_no, up_nk, up_at, u_cp_no] <;> (first | assumption | omega)) | (simp only [hkF] <;> omega) | decide) only [E34, S34, h1, h2, f1, hkF, z_add, z_mul, up_at, up_no, up_nk, u_cp_no, ma_bd, ↓reduceIte, if_true, if_false, Option.toList, List.nil_append, List.cons_append]
theorem V34f {ro : ma_RO} {d : Nat} {n : Nat} {t : Nat → Nat} (ht : ∀ i, i < n → t i ≤ 127) (i : Nat) (σ : ma_H) (h : ¬ dgP n t i) : ma_ev ro d 34 [.int (pkc n t i)] SH σ = some (some (.int (nI 0)), SH, σ) := by
  have h' : ¬ (¬ pkc n t i < nI 48 ∧ ¬ nI 57 < pkc n t i) := fun k => h ((pkc_dg ht i).mp k)
  have f0 : ma_fitI .boolean (nI 0) = true := by decide
  by_cases h1 : pkc n t i < nI 48
  · simp (disch := first | assumption | omega | exact zb_fit | exact hbf .. | (simp (disch := omega) only [up_no, up_nk, up_at, u_cp_no] <;> (first | assumption | omega)) | (simp only [hkF] <;> omega) | decide) only [E34, S34, h1, f0, hkF, z_add, z_mul, up_at, up_no, up_nk, u_cp_no, ma_bd, ↓reduceIte, if_true, if_false, Option.toList, List.nil_append, List.cons_append]
  · have h2 : nI 57 < pkc n t i := by
      by_cases h2 : nI 57 < pkc n t i
      · exact h2
      · exact absurd ⟨h1, h2⟩ h'
    simp (disch := first | assumption | omega | exact zb_fit | exact hbf .. | (simp (disch := omega) only [up_no, up_nk, up_at, u_cp_no] <;> (first | assumption | omega)) | (simp only [hkF] <;> omega) | decide) only [E34, S34, h1, h2, f0, hkF, z_add, z_mul, up_at, up_no, up_nk, u_cp_no, ma_bd, ↓reduceIte, if_true, if_false, Option.toList, List.nil_append, List.cons_append]
theorem V102dt {ro : ma_RO} {d : Nat} {n : Nat} {t : Nat → Nat} (ht : ∀ i, i < n → t i ≤ 127) (i : Nat) (σ : ma_H) (h : dgP n t i) : ma_ev ro d 102 [.int (pkc n t i), .int (nI 48), .int (nI 57)] SH σ = some (some (.int (nI 1)), SH, σ) := by
  rw [V102, zb_t ((pkc_dg ht i).mpr h)]
theorem V102df {ro : ma_RO} {d : Nat} {n : Nat} {t : Nat → Nat} (ht : ∀ i, i < n → t i ≤ 127) (i : Nat) (σ : ma_H) (h : ¬ dgP n t i) : ma_ev ro d 102 [.int (pkc n t i), .int (nI 48), .int (nI 57)] SH σ = some (some (.int (nI 0)), SH, σ) := by
  rw [V102, zb_f (fun k => h ((pkc_dg ht i).mp k))]
theorem V33w {ro : ma_RO} {d : Nat} (σ : ma_H) (f : Nat) (hf2 : f ≤ 1000) (hf : σ 69 3 = nI f) : ma_ev ro d 33 [.ref 69] SH σ = some (some (.int (nI 0)), SH, σ) := by
  simp (disch := first | assumption | omega | exact zb_fit | exact hbf .. | (simp (disch := omega) only [up_no, up_nk, up_at, u_cp_no] <;> (first | assumption | omega)) | (simp only [hkF] <;> omega) | decide) only [E33, S33, hf, z_lt, Nat.not_lt_zero, hkF, z_add, z_mul, up_at, up_no, up_nk, u_cp_no, ma_bd, ↓reduceIte, if_true, if_false, Option.toList, List.nil_append, List.cons_append]
theorem V33a {ro : ma_RO} {d : Nat} (n : Nat) (t : Nat → Nat) (hn : n ≤ 100) (ht : ∀ i, i < n → t i ≤ 127) (σ : ma_H) (i sz : Nat) (hi : i < 2 ^ 30) (h : XS n t σ i sz) (hd : ¬ dgP n t i) : ma_ev ro (d + 2) 33 [.ref 69] SH σ = some (some (.int (nI 0)), SH, ma_up σ 69 3 (nI i)) := by
  obtain ⟨hX, hp, hf, -⟩ := h
  have e36 := V36 (ro := ro) (d := d) n t hn σ hX i hi hp
  have e34 := V34f (ro := ro) (d := d + 1) ht i σ hd
  simp (disch := first | assumption | omega | exact zb_fit | exact hbf .. | (simp (disch := omega) only [up_no, up_nk, up_at, u_cp_no] <;> (first | assumption | omega)) | (simp only [hkF] <;> omega) | decide) only [E33, S33, hf, m1_neg, e36, e34, hp, z_eq, Nat.reduceEqDiff, hkF, z_add, z_mul, up_at, up_no, up_nk, u_cp_no, ma_bd, ↓reduceIte, if_true, if_false, Option.toList, List.nil_append, List.cons_append]
theorem V33b {ro : ma_RO} {d : Nat} (n : Nat) (t : Nat → Nat) (hn : n ≤ 100) (ht : ∀ i, i < n → t i ≤ 127) (σ : ma_H) (i sz : Nat) (hi : i < 2 ^ 29) (h : XS n t σ i sz) (hd : dgP n t i) (h2 : t i = 48 ∨ ¬ dgP n t (i + 1)) : ma_ev ro (d + 2) 33 [.ref 69] SH σ = some (some (.int (nI (t i - 48))), SH, ma_up σ 69 2 (nI (i + 1))) := by
  obtain ⟨hX, hp, hf, -⟩ := h
  have e36 := V36 (ro := ro) (d := d) n t hn σ hX i (by omega) hp
  have e34 := V34t (ro := ro) (d := d + 1) ht i σ hd
  have hpk : pkc n t i - nI 48 = nI (t i - 48) := by rw [pkc_in hd.1, z_sub hd.2.1]
  have hX' : XT n t (ma_up σ 69 2 (nI (i + 1))) := XT_c (up_no (by decide)) (up_no (by decide)) hX
  have e36' := V36 (ro := ro) (d := d) n t hn (ma_up σ 69 2 (nI (i + 1))) hX' (i + 1) (by omega) (up_at _ _ _ _)
  have t57 := hd.2.2
  by_cases h0 : t i = 48
  · have hz : t i - 48 = 0 := by omega
    have h00 : ¬ (0 < t i - 48) := by omega
    simp (disch := first | assumption | omega | exact zb_fit | exact hbf .. | (simp (disch := omega) only [up_no, up_nk, up_at, u_cp_no] <;> (first | assumption | omega)) | (simp only [hkF] <;> omega) | decide) only [E33, S33, hf, m1_neg, e36, e34, hp, hpk, z_eq, Nat.reduceEqDiff, z_lt, h00, hkF, z_add, z_mul, up_at, up_no, up_nk, u_cp_no, ma_bd, ↓reduceIte, if_true, if_false, Option.toList, List.nil_append, List.cons_append]
  · have hd2 : ¬ dgP n t (i + 1) := h2.elim (fun h => absurd h h0) id
    have e34' := V34f (ro := ro) (d := d + 1) ht (i + 1) (ma_up σ 69 2 (nI (i + 1))) hd2
    have t48 := hd.2.1
    have h00 : 0 < t i - 48 := by omega
    simp (disch := first | assumption | omega | exact zb_fit | exact hbf .. | (simp (disch := omega) only [up_no, up_nk, up_at, u_cp_no] <;> (first | assumption | omega)) | (simp only [hkF] <;> omega) | decide) only [E33, S33, hf, m1_neg, e36, e34, hp, hpk, z_eq, Nat.reduceEqDiff, z_lt, h00, e36', e34', hkF, z_add, z_mul, up_at, up_no, up_nk, u_cp_no, ma_bd, ↓reduceIte, if_true, if_false, Option.toList, List.nil_append, List.cons_append]
theorem V33c {ro : ma_RO} {d : Nat} (n : Nat) (t : Nat → Nat) (hn : n ≤ 100) (ht : ∀ i, i < n → t i ≤ 127) (σ : ma_H) (i sz : Nat) (hi : i < 2 ^ 29) (h : XS n t σ i sz) (hd : dgP n t i) (h0 : ¬ t i = 48) (hd2 : dgP n t (i + 1)) : ma_ev ro (d + 2) 33 [.ref 69] SH σ = some (some (.int (nI (10 * (t i - 48) + (t (i + 1) - 48)))), SH, ma_up (ma_up σ 69 2 (nI (i + 1))) 69 2 (nI (i + 2))) := by
  obtain ⟨hX, hp, hf, -⟩ := h
  have e36 := V36 (ro := ro) (d := d) n t hn σ hX i (by omega) hp
  have e34 := V34t (ro := ro) (d := d + 1) ht i σ hd
  have hpk : pkc n t i - nI 48 = nI (t i - 48) := by rw [pkc_in hd.1, z_sub hd.2.1]
  have hX' : XT n t (ma_up σ 69 2 (nI (i + 1))) := XT_c (up_no (by decide)) (up_no (by decide)) hX
  have e36' := V36 (ro := ro) (d := d) n t hn (ma_up σ 69 2 (nI (i + 1))) hX' (i + 1) (by omega) (up_at _ _ _ _)
  have e34' := V34t (ro := ro) (d := d + 1) ht (i + 1) (ma_up σ 69 2 (nI (i + 1))) hd2
  have t48 := hd.2.1
  have t57 := hd.2.2
  have s48 := hd2.2.1
  have s57 := hd2.2.2
  have h00 : 0 < t i - 48 := by omega
  have hsum : nI (10 * (t i - 48)) + pkc n t (i + 1) - nI 48 = nI (10 * (t i - 48) + (t (i + 1) - 48)) := by
    rw [pkc_in hd2.1, z_add, z_sub (by omega)]
    congr 1
    omega
  have hi2 : i + 1 + 1 = i + 2 := rfl
  simp (disch := first | assumption | omega | exact zb_fit | exact hbf .. | (simp (disch := omega) only [up_no, up_nk, up_at, u_cp_no] <;> (first | assumption | omega)) | (simp only [hkF] <;> omega) | decide) only [E33, S33, hf, m1_neg, e36, e34, hp, hpk, z_eq, Nat.reduceEqDiff, z_lt, h00, e36', e34', hsum, hi2, hkF, z_add, z_mul, up_at, up_no, up_nk, u_cp_no, ma_bd, ↓reduceIte, if_true, if_false, Option.toList, List.nil_append, List.cons_append]
theorem W111 {ro : ma_RO} {d : Nat} (σ : ma_H) (h : σ 90 8 = nI 1) : ma_ev ro (d + 1) 111 [.ref 90] SH σ = some (some (.int (nI 0)), SH, σ) := by
  have f1 : ma_fitI .boolean (nI 1) = true := by decide
  have e1 := @up_same σ 90 8 (nI 1) h
  simp (disch := first | assumption | omega | exact zb_fit | exact hbf .. | (simp (disch := omega) only [up_no, up_nk, up_at, u_cp_no] <;> (first | assumption | omega)) | (simp only [hkF] <;> omega) | decide) only [E111, S111, Sh111_34, h, z_eq, Nat.reduceEqDiff, f1, e1, z_lt, Nat.reduceLT, Nat.reduceAdd, hkF, z_add, z_mul, up_at, up_no, up_nk, u_cp_no, ma_bd, ↓reduceIte, if_true, if_false, Option.toList, List.nil_append, List.cons_append]
theorem M111a {ro : ma_RO} {d : Nat} (n act : Nat) (t : Nat → Nat) (hn : n ≤ 100) (ht : ∀ i, i < n → t i ≤ 127) (σ : ma_H) (i ms : Nat) (hi : i < 2 ^ 30) (h : MS n t act σ i ms) (hd : ¬ dgP n t i) : ma_ev ro (d + 1) 111 [.ref 90] SH σ = some (some (.int (nI 0)), SH, ma_up σ 90 8 (nI 1)) := by
  obtain ⟨hX, -, hp, hw, -⟩ := h
  have f1 : ma_fitI .boolean (nI 1) = true := by decide
  have e108 := V108 (ro := ro) (d := d) n t hn σ hX i hi hp
  have e102 := V102df (ro := ro) (d := d) ht i σ hd
  simp (disch := first | assumption | omega | exact zb_fit | exact hbf .. | (simp (disch := omega) only [up_no, up_nk, up_at, u_cp_no] <;> (first | assumption | omega)) | (simp only [hkF] <;> omega) | decide) only [E111, S111, Sh111_34, hw, z_eq, Nat.reduceEqDiff, e108, e102, f1, z_lt, Nat.reduceLT, Nat.reduceAdd, hkF, z_add, z_mul, up_at, up_no, up_nk, u_cp_no, ma_bd, ↓reduceIte, if_true, if_false, Option.toList, List.nil_append, List.cons_append]
theorem M111b {ro : ma_RO} {d : Nat} (n act : Nat) (t : Nat → Nat) (hn : n ≤ 100) (ht : ∀ i, i < n → t i ≤ 127) (σ : ma_H) (i ms : Nat) (hi : i < 2 ^ 29) (h : MS n t act σ i ms) (hd : dgP n t i) (h2 : t i = 48 ∨ ¬ dgP n t (i + 1)) : ma_ev ro (d + 1) 111 [.ref 90] SH σ = some (some (.int (nI (t i - 48))), SH, ma_up σ 90 6 (nI (i + 1))) := by
  obtain ⟨hX, -, hp, hw, -⟩ := h
  have f0 : ma_fitI .boolean (nI 0) = true := by decide
  have e0 := @up_same σ 90 8 (nI 0) hw
  have e108 := V108 (ro := ro) (d := d) n t hn σ hX i (by omega) hp
  have e102 := V102dt (ro := ro) (d := d) ht i σ hd
  have hX' : MT n t (ma_up σ 90 6 (nI (i + 1))) := ⟨by rw [up_nk (by decide)]; exact hX.1, fun j hj => by rw [up_no (by decide)]; exact hX.2 j hj⟩
  have e108' := V108 (ro := ro) (d := d) n t hn (ma_up σ 90 6 (nI (i + 1))) hX' (i + 1) (by omega) (up_at _ _ _ _)
  have hz0 : nI 10 * nI 0 = nI 0 := by decide
  have hpk : nI 0 + pkc n t i - nI 48 = nI (t i - 48) := by rw [pkc_in hd.1, z_add, Nat.zero_add, z_sub hd.2.1]
  have t48 := hd.2.1
  have t57 := hd.2.2
  by_cases hd2 : dgP n t (i + 1)
  · have h0 : t i = 48 := h2.elim id (fun h => absurd hd2 h)
    have e102' := V102dt (ro := ro) (d := d) ht (i + 1) (ma_up σ 90 6 (nI (i + 1))) hd2
    have h00 : ¬ (0 < t i - 48) := by omega
    simp (disch := first | assumption | omega | exact zb_fit | exact hbf .. | (simp (disch := omega) only [up_no, up_nk, up_at, u_cp_no] <;> (first | assumption | omega)) | (simp only [hkF] <;> omega) | decide) only [E111, S111, Sh111_34, hw, z_eq, Nat.reduceEqDiff, e108, e102, f0, e0, z_lt, Nat.reduceLT, Nat.reduceAdd, hz0, Nat.mul_zero, hpk, hp, e108', e102', h00, hkF, z_add, z_mul, up_at, up_no, up_nk, u_cp_no, ma_bd, ↓reduceIte, if_true, if_false, Option.toList, List.nil_append, List.cons_append]
  · have e102' := V102df (ro := ro) (d := d) ht (i + 1) (ma_up σ 90 6 (nI (i + 1))) hd2
    simp (disch := first | assumption | omega | exact zb_fit | exact hbf .. | (simp (disch := omega) only [up_no, up_nk, up_at, u_cp_no] <;> (first | assumption | omega)) | (simp only [hkF] <;> omega) | decide) only [E111, S111, Sh111_34, hw, z_eq, Nat.reduceEqDiff, e108, e102, f0, e0, z_lt, Nat.reduceLT, Nat.reduceAdd, hz0, Nat.mul_zero, hpk, hp, e108', e102', hkF, z_add, z_mul, up_at, up_no, up_nk, u_cp_no, ma_bd, ↓reduceIte, if_true, if_false, Option.toList, List.nil_append, List.cons_append]
theorem M111c {ro : ma_RO} {d : Nat} (n act : Nat) (t : Nat → Nat) (hn : n ≤ 100) (ht : ∀ i, i < n → t i ≤ 127) (σ : ma_H) (i ms : Nat) (hi : i < 2 ^ 29) (h : MS n t act σ i ms) (hd : dgP n t i) (h0 : ¬ t i = 48) (hd2 : dgP n t (i + 1)) : ma_ev ro (d + 1) 111 [.ref 90] SH σ = some (some (.int (nI (10 * (t i - 48) + (t (i + 1) - 48)))), SH, ma_up (ma_up σ 90 6 (nI (i + 1))) 90 6 (nI (i + 2))) := by
  obtain ⟨hX, -, hp, hw, -⟩ := h
  have f0 : ma_fitI .boolean (nI 0) = true := by decide
  have e0 := @up_same σ 90 8 (nI 0) hw
  have e108 := V108 (ro := ro) (d := d) n t hn σ hX i (by omega) hp
  have e102 := V102dt (ro := ro) (d := d) ht i σ hd
  have hX' : MT n t (ma_up σ 90 6 (nI (i + 1))) := ⟨by rw [up_nk (by decide)]; exact hX.1, fun j hj => by rw [up_no (by decide)]; exact hX.2 j hj⟩
  have e108' := V108 (ro := ro) (d := d) n t hn (ma_up σ 90 6 (nI (i + 1))) hX' (i + 1) (by omega) (up_at _ _ _ _)
  have e102' := V102dt (ro := ro) (d := d) ht (i + 1) (ma_up σ 90 6 (nI (i + 1))) hd2
  have hz0 : nI 10 * nI 0 = nI 0 := by decide
  have hpk : nI 0 + pkc n t i - nI 48 = nI (t i - 48) := by rw [pkc_in hd.1, z_add, Nat.zero_add, z_sub hd.2.1]
  have t48 := hd.2.1
  have t57 := hd.2.2
  have s48 := hd2.2.1
  have s57 := hd2.2.2
  have h00 : 0 < t i - 48 := by omega
  have hsum : nI (10 * (t i - 48)) + pkc n t (i + 1) - nI 48 = nI (10 * (t i - 48) + (t (i + 1) - 48)) := by
    rw [pkc_in hd2.1, z_add, z_sub (by omega)]
    congr 1
    omega
  have hi2 : i + 1 + 1 = i + 2 := rfl
  simp (disch := first | assumption | omega | exact zb_fit | exact hbf .. | (simp (disch := omega) only [up_no, up_nk, up_at, u_cp_no] <;> (first | assumption | omega)) | (simp only [hkF] <;> omega) | decide) only [E111, S111, Sh111_34, hw, z_eq, Nat.reduceEqDiff, e108, e102, f0, e0, z_lt, Nat.reduceLT, Nat.reduceAdd, hz0, Nat.mul_zero, hpk, hp, e108', e102', h00, hsum, hi2, hkF, z_add, z_mul, up_at, up_no, up_nk, u_cp_no, ma_bd, ↓reduceIte, if_true, if_false, Option.toList, List.nil_append, List.cons_append]
def spF (n : Nat) (t : Nat → Nat) (l : List Int32) : Nat → Nat → Nat → Sum Nat Nat
  | 0, _, i => .inr i
  | m + 1, k, i => if pkc n t i = l.getD k 0 then spF n t l m (k + 1) (i + 1) else .inl i
def spO (r : Sum Nat Nat) : Out := match r with
  | .inl f => .inl f
  | .inr i => .inr (i, [])
theorem V35w {ro : ma_RO} {d : Nat} (σ : ma_H) (f s : Nat) (hs : s < 7) (hf2 : f ≤ 1000) (hf : σ 69 3 = nI f) : ma_ev ro d 35 [.ref 69, .ref (1000000 + s)] SH σ = some (none, SH, σ) := by
  have hl := (chs_len s hs).1
  have hl2 := (chs_len s hs).2
  simp (disch := first | assumption | omega | exact zb_fit | exact hbf .. | (simp (disch := omega) only [up_no, up_nk, up_at, u_cp_no] <;> (first | assumption | omega)) | (simp only [hkF] <;> omega) | decide) only [E35, S35, Sh35_2, hf, z_lt, Nat.not_lt_zero, hl, hkF, z_add, z_mul, up_at, up_no, up_nk, u_cp_no, ma_bd, ↓reduceIte, if_true, if_false, Option.toList, List.nil_append, List.cons_append]
theorem V35 {ro : ma_RO} {d : Nat} (n : Nat) (t : Nat → Nat) (hn : n ≤ 100) (s sz : Nat) (hs : s < 7) (hsz : sz ≤ 100) (σ : ma_H) (i : Nat) (hi : i ≤ 100) (h : XS n t σ i sz) : ∃ σ', ma_ev ro (d + 2) 35 [.ref 69, .ref (1000000 + s)] SH σ = some (none, SH, σ') ∧ XO sz σ σ' (spO (spF n t (ma_chs s) (ma_chs s).length 0 i)) := by
  have hl := chs_len s hs
  have H : ∀ m k i (σ : ma_H), k + m = (ma_chs s).length → i ≤ 100 + k → XS n t σ i sz → ∃ σ', ma_rn ro (d + 2) 35 (2, [some (.ref 69), some (.ref (1000000 + s)), some (.int (nI k))], [], SH, σ) = some (none, SH, σ') ∧ XO sz σ σ' (spO (spF n t (ma_chs s) m k i)) := by
    intro m
    induction m with
    | zero =>
      intro k i σ hk hik h
      have hkn : ¬ k < (ma_chs s).length := by omega
      refine ⟨σ, ?_, XO_refl h⟩
      rw [Sh35_2]
      simp (disch := first | assumption | omega | exact zb_fit | exact hbf .. | (simp (disch := omega) only [up_no, up_nk, up_at, u_cp_no] <;> (first | assumption | omega)) | (simp only [hkF] <;> omega) | decide) only [S35, z_lt, hkn, hkF, z_add, z_mul, up_at, up_no, up_nk, u_cp_no, ma_bd, ↓reduceIte, if_true, if_false, Option.toList, List.nil_append, List.cons_append]
    | succ m ih =>
      intro k i σ hk hik h
      have hkn : k < (ma_chs s).length := by omega
      obtain ⟨hX, hp, hf, h5⟩ := h
      have h : XS n t σ i sz := ⟨hX, hp, hf, h5⟩
      have e36 := V36 (ro := ro) (d := d) n t hn σ hX i (by omega) hp
      by_cases hc : pkc n t i = (ma_chs s).getD k 0
      · have o1 := XO_place (i + 1) h
        obtain ⟨σ', e, o2⟩ := ih (k + 1) (i + 1) (ma_up σ 69 2 (nI (i + 1))) (by omega) (by omega) (XS_of h o1)
        refine ⟨σ', ?_, ?_⟩
        · rw [← e, Sh35_2]
          simp (disch := first | assumption | omega | exact zb_fit | exact hbf .. | (simp (disch := omega) only [up_no, up_nk, up_at, u_cp_no] <;> (first | assumption | omega)) | (simp only [hkF] <;> omega) | decide) only [S35, z_lt, hkn, hf, m1_neg, e36, hc, hp, hkF, z_add, z_mul, up_at, up_no, up_nk, u_cp_no, ma_bd, ↓reduceIte, if_true, if_false, Option.toList, List.nil_append, List.cons_append]
        · rw [show spF n t (ma_chs s) (m + 1) k i = spF n t (ma_chs s) m (k + 1) (i + 1) from if_pos hc]
          have := XO_seq o1 o2
          revert this
          cases spF n t (ma_chs s) m (k + 1) (i + 1) <;> exact id
      · refine ⟨ma_up σ 69 3 (nI i), ?_, ?_⟩
        · rw [Sh35_2]
          by_cases hk2 : k + 1 < (ma_chs s).length
          · simp (disch := first | assumption | omega | exact zb_fit | exact hbf .. | (simp (disch := omega) only [up_no, up_nk, up_at, u_cp_no] <;> (first | assumption | omega)) | (simp only [hkF] <;> omega) | decide) only [S35, Sh35_2, z_lt, hkn, hf, m1_neg, e36, hc, hp, hk2, Nat.not_lt_zero, hkF, z_add, z_mul, up_at, up_no, up_nk, u_cp_no, ma_bd, ↓reduceIte, if_true, if_false, Option.toList, List.nil_append, List.cons_append]
          · simp (disch := first | assumption | omega | exact zb_fit | exact hbf .. | (simp (disch := omega) only [up_no, up_nk, up_at, u_cp_no] <;> (first | assumption | omega)) | (simp only [hkF] <;> omega) | decide) only [S35, Sh35_2, z_lt, hkn, hf, m1_neg, e36, hc, hp, hk2, Nat.not_lt_zero, hkF, z_add, z_mul, up_at, up_no, up_nk, u_cp_no, ma_bd, ↓reduceIte, if_true, if_false, Option.toList, List.nil_append, List.cons_append]
        · rw [show spF n t (ma_chs s) (m + 1) k i = .inl i from if_neg hc]
          exact XO_err i hsz h
  obtain ⟨σ', e, o⟩ := H (ma_chs s).length 0 i σ (by omega) (by omega) h
  refine ⟨σ', ?_, o⟩
  rw [← e]
  simp (disch := first | assumption | omega | exact zb_fit | exact hbf .. | (simp (disch := omega) only [up_no, up_nk, up_at, u_cp_no] <;> (first | assumption | omega)) | (simp only [hkF] <;> omega) | decide) only [E35, S35, hkF, z_add, z_mul, up_at, up_no, up_nk, u_cp_no, ma_bd, ↓reduceIte, if_true, if_false, Option.toList, List.nil_append, List.cons_append]
theorem V109 {ro : ma_RO} {d : Nat} (n act : Nat) (t : Nat → Nat) (hn : n ≤ 100) (σ : ma_H) (i ms : Nat) (c : Int32) (hi : i < 2 ^ 29) (h : MS n t act σ i ms) : ma_ev ro (d + 1) 109 [.ref 90, .int c] SH σ = some (none, SH, if pkc n t i = c then ma_up σ 90 6 (nI (i + 1)) else ma_up σ 90 8 (nI 1)) := by
  obtain ⟨hX, -, hp, hw, -⟩ := h
  have f0 : ma_fitI .boolean (nI 0) = true := by decide
  have f1 : ma_fitI .boolean (nI 1) = true := by decide
  have e0 := @up_same σ 90 8 (nI 0) hw
  have e108 := V108 (ro := ro) (d := d) n t hn σ hX i (by omega) hp
  have e6 : ma_up (ma_up σ 90 8 (nI 1)) 90 6 (nI i) = ma_up σ 90 8 (nI 1) := up_same (by rw [up_nk (by decide)]; exact hp)
  by_cases hc : pkc n t i = c
  · rw [if_pos hc]
    simp (disch := first | assumption | omega | exact zb_fit | exact hbf .. | (simp (disch := omega) only [up_no, up_nk, up_at, u_cp_no] <;> (first | assumption | omega)) | (simp only [hkF] <;> omega) | decide) only [E109, S109, hw, z_eq, Nat.reduceEqDiff, e108, hc, f0, e0, hp, hkF, z_add, z_mul, up_at, up_no, up_nk, u_cp_no, ma_bd, ↓reduceIte, if_true, if_false, Option.toList, List.nil_append, List.cons_append]
  · rw [if_neg hc]
    simp (disch := first | assumption | omega | exact zb_fit | exact hbf .. | (simp (disch := omega) only [up_no, up_nk, up_at, u_cp_no] <;> (first | assumption | omega)) | (simp only [hkF] <;> omega) | decide) only [E109, S109, hw, z_eq, Nat.reduceEqDiff, e108, hc, f1, hp, Nat.add_zero, e6, hkF, z_add, z_mul, up_at, up_no, up_nk, u_cp_no, ma_bd, ↓reduceIte, if_true, if_false, Option.toList, List.nil_append, List.cons_append]
theorem W110 {ro : ma_RO} {d : Nat} (s : Nat) (hs : s < 7) (σ : ma_H) (h : σ 90 8 = nI 1) : ∀ m k, k + m = (ma_chs s).length → ma_rn ro (d + 2) 110 (2, [some (.ref 90), some (.ref (1000000 + s)), some (.int (nI k))], [], SH, σ) = some (none, SH, σ) := by
  have hl := chs_len s hs
  intro m
  induction m with
  | zero =>
    intro k hk
    have hkn : ¬ k < (ma_chs s).length := by omega
    rw [Sh110_2]
    simp (disch := first | assumption | omega | exact zb_fit | exact hbf .. | (simp (disch := omega) only [up_no, up_nk, up_at, u_cp_no] <;> (first | assumption | omega)) | (simp only [hkF] <;> omega) | decide) only [S110, z_lt, hkn, hkF, z_add, z_mul, up_at, up_no, up_nk, u_cp_no, ma_bd, ↓reduceIte, if_true, if_false, Option.toList, List.nil_append, List.cons_append]
  | succ m ih =>
    intro k hk
    have hkn : k < (ma_chs s).length := by omega
    have e := W109 (ro := ro) (d := d) σ ((ma_chs s).getD k 0) h
    rw [← ih (k + 1) (by omega), Sh110_2]
    simp (disch := first | assumption | omega | exact zb_fit | exact hbf .. | (simp (disch := omega) only [up_no, up_nk, up_at, u_cp_no] <;> (first | assumption | omega)) | (simp only [hkF] <;> omega) | decide) only [S110, z_lt, hkn, e, hkF, z_add, z_mul, up_at, up_no, up_nk, u_cp_no, ma_bd, ↓reduceIte, if_true, if_false, Option.toList, List.nil_append, List.cons_append]
theorem V110 {ro : ma_RO} {d : Nat} (n act : Nat) (t : Nat → Nat) (hn : n ≤ 100) (ha : act < 5) (s ms : Nat) (hs : s < 7) (hms : ms ≤ 140) (σ : ma_H) (i : Nat) (hi : i ≤ 100) (h : MS n t act σ i ms) : ∃ σ', ma_ev ro (d + 2) 110 [.ref 90, .ref (1000000 + s)] SH σ = some (none, SH, σ') ∧ MO act ms σ σ' (spO (spF n t (ma_chs s) (ma_chs s).length 0 i)) := by
  have hl := chs_len s hs
  have H : ∀ m k i (σ : ma_H), k + m = (ma_chs s).length → i ≤ 100 + k → MS n t act σ i ms → ∃ σ', ma_rn ro (d + 2) 110 (2, [some (.ref 90), some (.ref (1000000 + s)), some (.int (nI k))], [], SH, σ) = some (none, SH, σ') ∧ MO act ms σ σ' (spO (spF n t (ma_chs s) m k i)) := by
    intro m
    induction m with
    | zero =>
      intro k i σ hk hik h
      have hkn : ¬ k < (ma_chs s).length := by omega
      refine ⟨σ, ?_, MO_refl h⟩
      rw [Sh110_2]
      simp (disch := first | assumption | omega | exact zb_fit | exact hbf .. | (simp (disch := omega) only [up_no, up_nk, up_at, u_cp_no] <;> (first | assumption | omega)) | (simp only [hkF] <;> omega) | decide) only [S110, z_lt, hkn, hkF, z_add, z_mul, up_at, up_no, up_nk, u_cp_no, ma_bd, ↓reduceIte, if_true, if_false, Option.toList, List.nil_append, List.cons_append]
    | succ m ih =>
      intro k i σ hk hik h
      have hkn : k < (ma_chs s).length := by omega
      have e109 := V109 (ro := ro) (d := d) n act t hn σ i ms ((ma_chs s).getD k 0) (by omega) h
      by_cases hc : pkc n t i = (ma_chs s).getD k 0
      · rw [if_pos hc] at e109
        have o1 := MO_place (i + 1) h
        obtain ⟨σ', e, o2⟩ := ih (k + 1) (i + 1) (ma_up σ 90 6 (nI (i + 1))) (by omega) (by omega) (MS_of hn ha h o1)
        refine ⟨σ', ?_, ?_⟩
        · rw [← e, Sh110_2]
          simp (disch := first | assumption | omega | exact zb_fit | exact hbf .. | (simp (disch := omega) only [up_no, up_nk, up_at, u_cp_no] <;> (first | assumption | omega)) | (simp only [hkF] <;> omega) | decide) only [S110, z_lt, hkn, e109, hkF, z_add, z_mul, up_at, up_no, up_nk, u_cp_no, ma_bd, ↓reduceIte, if_true, if_false, Option.toList, List.nil_append, List.cons_append]
        · rw [show spF n t (ma_chs s) (m + 1) k i = spF n t (ma_chs s) m (k + 1) (i + 1) from if_pos hc]
          have := MO_seq ha (by simpa using hms) o1 o2
          revert this
          cases spF n t (ma_chs s) m (k + 1) (i + 1) <;> exact id
      · rw [if_neg hc] at e109
        have e := W110 (ro := ro) (d := d) s hs (ma_up σ 90 8 (nI 1)) (up_at _ _ _ _) m (k + 1) (by omega)
        refine ⟨ma_up σ 90 8 (nI 1), ?_, ?_⟩
        · rw [← e, Sh110_2]
          simp (disch := first | assumption | omega | exact zb_fit | exact hbf .. | (simp (disch := omega) only [up_no, up_nk, up_at, u_cp_no] <;> (first | assumption | omega)) | (simp only [hkF] <;> omega) | decide) only [S110, z_lt, hkn, e109, hkF, z_add, z_mul, up_at, up_no, up_nk, u_cp_no, ma_bd, ↓reduceIte, if_true, if_false, Option.toList, List.nil_append, List.cons_append]
        · rw [show spF n t (ma_chs s) (m + 1) k i = .inl i from if_neg hc]
          exact MO_err h
  obtain ⟨σ', e, o⟩ := H (ma_chs s).length 0 i σ (by omega) (by omega) h
  refine ⟨σ', ?_, o⟩
  rw [← e]
  simp (disch := first | assumption | omega | exact zb_fit | exact hbf .. | (simp (disch := omega) only [up_no, up_nk, up_at, u_cp_no] <;> (first | assumption | omega)) | (simp only [hkF] <;> omega) | decide) only [E110, S110, hkF, z_add, z_mul, up_at, up_no, up_nk, u_cp_no, ma_bd, ↓reduceIte, if_true, if_false, Option.toList, List.nil_append, List.cons_append]
