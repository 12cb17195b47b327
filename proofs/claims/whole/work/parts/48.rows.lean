/-! Told rows. -/
def hkRw (r n : Nat) : Prop := hk_cls r = 4 ∧ hk_len (r + 1) = n ∧ hk_alen (r + 1) = n ∧ hk_len (r + 2) = n ∧ hk_alen (r + 2) = n ∧ hk_zlen (r + 3) = n ∧ hk_alen (r + 3) = n ∧ 0 < n ∧ n ≤ 8
theorem V38 {ro : ma_RO} {d : Nat} (σ : ma_H) (r n k : Nat) (kr : hkRw r n) (hk : k < n) : ma_ev ro d 38 [.ref r, .int (nI k)] SH σ = some (some (.int (nI 1)), SH, σ) := by
  obtain ⟨r1, r2, r3, r4, r5, r6, r7, r8, r9⟩ := kr
  simp (disch := first | assumption | omega | exact zb_fit | (simp (disch := omega) only [up_no, up_nk, up_at, u_cp_no] <;> (first | assumption | omega)) | (simp only [hkF] <;> omega) | decide) only [E38, S38, z_lt, Nat.not_lt_zero, r3, r5, r7, hk, hkF, z_add, z_mul, up_at, up_no, up_nk, u_cp_no, ma_bd, if_true, if_false, Option.toList, List.nil_append, List.cons_append]
theorem V38n {ro : ma_RO} {d : Nat} (σ : ma_H) (r n : Nat) (kr : hkRw r n) : ma_ev ro d 38 [.ref r, .int (nI n)] SH σ = some (some (.int (nI 0)), SH, σ) := by
  obtain ⟨r1, r2, r3, r4, r5, r6, r7, r8, r9⟩ := kr
  simp (disch := first | assumption | omega | exact zb_fit | (simp (disch := omega) only [up_no, up_nk, up_at, u_cp_no] <;> (first | assumption | omega)) | (simp only [hkF] <;> omega) | decide) only [E38, S38, z_lt, Nat.not_lt_zero, r3, r5, r7, Nat.lt_irrefl, hkF, z_add, z_mul, up_at, up_no, up_nk, u_cp_no, ma_bd, if_true, if_false, Option.toList, List.nil_append, List.cons_append]
theorem V41 {ro : ma_RO} {d : Nat} (σ : ma_H) (r n k : Nat) (kr : hkRw r n) (hk : k < n) : ma_ev ro (d + 1) 41 [.ref r, .int (nI k)] SH σ = some (some (.int (σ (r + 1) k)), SH, σ) := by
  have e := V38 (ro := ro) (d := d) σ r n k kr hk
  obtain ⟨r1, r2, r3, r4, r5, r6, r7, r8, r9⟩ := kr
  simp (disch := first | assumption | omega | exact zb_fit | (simp (disch := omega) only [up_no, up_nk, up_at, u_cp_no] <;> (first | assumption | omega)) | (simp only [hkF] <;> omega) | decide) only [E41, S41, e, z_eq, Nat.reduceEqDiff, hkF, z_add, z_mul, up_at, up_no, up_nk, u_cp_no, ma_bd, if_true, if_false, Option.toList, List.nil_append, List.cons_append]
theorem V42 {ro : ma_RO} {d : Nat} (σ : ma_H) (r n k : Nat) (kr : hkRw r n) (hk : k < n) : ma_ev ro (d + 1) 42 [.ref r, .int (nI k)] SH σ = some (some (.int (σ (r + 2) k)), SH, σ) := by
  have e := V38 (ro := ro) (d := d) σ r n k kr hk
  obtain ⟨r1, r2, r3, r4, r5, r6, r7, r8, r9⟩ := kr
  simp (disch := first | assumption | omega | exact zb_fit | (simp (disch := omega) only [up_no, up_nk, up_at, u_cp_no] <;> (first | assumption | omega)) | (simp only [hkF] <;> omega) | decide) only [E42, S42, e, z_eq, Nat.reduceEqDiff, hkF, z_add, z_mul, up_at, up_no, up_nk, u_cp_no, ma_bd, if_true, if_false, Option.toList, List.nil_append, List.cons_append]
theorem V43 {ro : ma_RO} {d : Nat} (σ : ma_H) (r n k : Nat) (kr : hkRw r n) (hk : k < n) (h1 : Rg (σ (r + 3) k) 1) : ma_ev ro (d + 1) 43 [.ref r, .int (nI k)] SH σ = some (some (.int (σ (r + 3) k)), SH, σ) := by
  have e := V38 (ro := ro) (d := d) σ r n k kr hk
  obtain ⟨r1, r2, r3, r4, r5, r6, r7, r8, r9⟩ := kr
  obtain ⟨b, hb, hb'⟩ := h1
  have hb2 : b = 0 ∨ b = 1 := by omega
  rcases hb2 with rfl | rfl <;> simp (disch := first | assumption | omega | exact zb_fit | (simp (disch := omega) only [up_no, up_nk, up_at, u_cp_no] <;> (first | assumption | omega)) | (simp only [hkF] <;> omega) | decide) only [E43, S43, e, hb', z_eq, Nat.reduceEqDiff, hkF, z_add, z_mul, up_at, up_no, up_nk, u_cp_no, ma_bd, if_true, if_false, Option.toList, List.nil_append, List.cons_append]
theorem V40 {ro : ma_RO} {d : Nat} (σ : ma_H) (r n k : Nat) (x y z : Int32) (kr : hkRw r n) (hk : k < n) (hz : vp_nar .boolean z = z) : ma_ev ro (d + 1) 40 [.ref r, .int (nI k), .int x, .int y, .int z] SH σ = some (none, SH, ma_up (ma_up (ma_up σ (r + 1) k x) (r + 2) k y) (r + 3) k z) := by
  have e := V38 (ro := ro) (d := d) σ r n k kr hk
  obtain ⟨r1, r2, r3, r4, r5, r6, r7, r8, r9⟩ := kr
  simp (disch := first | assumption | omega | exact zb_fit | (simp (disch := omega) only [up_no, up_nk, up_at, u_cp_no] <;> (first | assumption | omega)) | (simp only [hkF] <;> omega) | decide) only [E40, S40, e, z_eq, Nat.reduceEqDiff, hz, hkF, z_add, z_mul, up_at, up_no, up_nk, u_cp_no, ma_bd, if_true, if_false, Option.toList, List.nil_append, List.cons_append]
