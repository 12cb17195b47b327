theorem LS15 {ro : ma_RO} {L : Nat} {xs : Nat → Int32} (hr : ro 2000000 = some (L, xs)) (hL : L ≤ 2048) {d : Nat} (σ : ma_H) (hG : G σ) (i : Nat) (hi : i + 4 ≤ L) (hc : xs i &&& nI 31 = nI 15) : ∃ σ', G σ' ∧ ma_rn ro (d + 31) 178 (18, [some (.ref 2000000), some (.ref 0), some (.ref 90), some (.int (nI i))], [], SH, σ) = ma_rn ro (d + 31) 178 (18, [some (.ref 2000000), some (.ref 0), some (.ref 90), some (.int (nI (i + 4)))], [], SH, σ') := by
  have r1 := fun v0 v1 v2 v3 st σ => R178l hr (d := d + 31) v0 v1 v2 v3 st σ
  have r2 := @R178 ro L xs hr (by omega)
  have h4 : nI L - nI 4 = nI (L - 4) := z_sub (by omega)
  have hn : ¬ L - 4 < i := by omega
  obtain ⟨r, σ1, σ2, e1, e2, g⟩ : ∃ r σ1 σ2, ma_ev ro (d + 30) 73 [.ref 0, .int (xs (i + 1))] SH σ = some (some (.int r), SH, σ1) ∧ ma_ev ro (d + 30) 153 [.ref 90, .int (xs (i + 1))] SH σ1 = some (some (.int r), SH, σ2) ∧ G σ2 := C73 (d := d + 22) σ hG (xs (i + 1))
  refine ⟨σ2, g, ?_⟩
  rw [Sh178_18]
  simp (disch := first | assumption | omega | exact zb_fit | exact hbf .. | (simp (disch := omega) only [up_no, up_nk, up_at, u_cp_no] <;> (first | assumption | omega)) | (simp only [hkF] <;> omega) | decide) only [S178, r1, r2, h4, z_lt, hn, hc, e1, e2, eq_self_iff_true, z_eq, Nat.reduceEqDiff, hkF, z_add, z_mul, up_at, up_no, up_nk, u_cp_no, ma_bd, ↓reduceIte, if_true, if_false, Option.toList, List.nil_append, List.cons_append]
theorem LS16 {ro : ma_RO} {L : Nat} {xs : Nat → Int32} (hr : ro 2000000 = some (L, xs)) (hL : L ≤ 2048) {d : Nat} (σ : ma_H) (hG : G σ) (i : Nat) (hi : i + 4 ≤ L) (hc : xs i &&& nI 31 = nI 16) : ∃ σ', G σ' ∧ ma_rn ro (d + 31) 178 (18, [some (.ref 2000000), some (.ref 0), some (.ref 90), some (.int (nI i))], [], SH, σ) = ma_rn ro (d + 31) 178 (18, [some (.ref 2000000), some (.ref 0), some (.ref 90), some (.int (nI (i + 4)))], [], SH, σ') := by
  have r1 := fun v0 v1 v2 v3 st σ => R178l hr (d := d + 31) v0 v1 v2 v3 st σ
  have r2 := @R178 ro L xs hr (by omega)
  have h4 : nI L - nI 4 = nI (L - 4) := z_sub (by omega)
  have hn : ¬ L - 4 < i := by omega
  obtain ⟨r, σ1, σ2, e1, e2, g⟩ : ∃ r σ1 σ2, ma_ev ro (d + 30) 74 [.ref 0, .int (xs (i + 1)), .int (xs (i + 2))] SH σ = some (some (.int r), SH, σ1) ∧ ma_ev ro (d + 30) 154 [.ref 90, .int (xs (i + 1)), .int (xs (i + 2))] SH σ1 = some (some (.int r), SH, σ2) ∧ G σ2 := C74 (d := d + 22) σ hG (xs (i + 1)) (xs (i + 2))
  refine ⟨σ2, g, ?_⟩
  rw [Sh178_18]
  simp (disch := first | assumption | omega | exact zb_fit | exact hbf .. | (simp (disch := omega) only [up_no, up_nk, up_at, u_cp_no] <;> (first | assumption | omega)) | (simp only [hkF] <;> omega) | decide) only [S178, r1, r2, h4, z_lt, hn, hc, e1, e2, eq_self_iff_true, z_eq, Nat.reduceEqDiff, hkF, z_add, z_mul, up_at, up_no, up_nk, u_cp_no, ma_bd, ↓reduceIte, if_true, if_false, Option.toList, List.nil_append, List.cons_append]
theorem LS17 {ro : ma_RO} {L : Nat} {xs : Nat → Int32} (hr : ro 2000000 = some (L, xs)) (hL : L ≤ 2048) {d : Nat} (σ : ma_H) (hG : G σ) (i : Nat) (hi : i + 4 ≤ L) (hc : xs i &&& nI 31 = nI 17) : ∃ σ', G σ' ∧ ma_rn ro (d + 31) 178 (18, [some (.ref 2000000), some (.ref 0), some (.ref 90), some (.int (nI i))], [], SH, σ) = ma_rn ro (d + 31) 178 (18, [some (.ref 2000000), some (.ref 0), some (.ref 90), some (.int (nI (i + 4)))], [], SH, σ') := by
  have r1 := fun v0 v1 v2 v3 st σ => R178l hr (d := d + 31) v0 v1 v2 v3 st σ
  have r2 := @R178 ro L xs hr (by omega)
  have h4 : nI L - nI 4 = nI (L - 4) := z_sub (by omega)
  have hn : ¬ L - 4 < i := by omega
  obtain ⟨r, σ1, σ2, e1, e2, g⟩ : ∃ r σ1 σ2, ma_ev ro (d + 30) 75 [.ref 0, .int (xs (i + 1))] SH σ = some (some (.int r), SH, σ1) ∧ ma_ev ro (d + 30) 155 [.ref 90, .int (xs (i + 1))] SH σ1 = some (some (.int r), SH, σ2) ∧ G σ2 := C75 (d := d + 22) σ hG (xs (i + 1))
  refine ⟨σ2, g, ?_⟩
  rw [Sh178_18]
  simp (disch := first | assumption | omega | exact zb_fit | exact hbf .. | (simp (disch := omega) only [up_no, up_nk, up_at, u_cp_no] <;> (first | assumption | omega)) | (simp only [hkF] <;> omega) | decide) only [S178, r1, r2, h4, z_lt, hn, hc, e1, e2, eq_self_iff_true, z_eq, Nat.reduceEqDiff, hkF, z_add, z_mul, up_at, up_no, up_nk, u_cp_no, ma_bd, ↓reduceIte, if_true, if_false, Option.toList, List.nil_append, List.cons_append]
theorem LS18 {ro : ma_RO} {L : Nat} {xs : Nat → Int32} (hr : ro 2000000 = some (L, xs)) (hL : L ≤ 2048) {d : Nat} (σ : ma_H) (hG : G σ) (i : Nat) (hi : i + 4 ≤ L) (hc : xs i &&& nI 31 = nI 18) : ∃ σ', G σ' ∧ ma_rn ro (d + 31) 178 (18, [some (.ref 2000000), some (.ref 0), some (.ref 90), some (.int (nI i))], [], SH, σ) = ma_rn ro (d + 31) 178 (18, [some (.ref 2000000), some (.ref 0), some (.ref 90), some (.int (nI (i + 4)))], [], SH, σ') := by
  have r1 := fun v0 v1 v2 v3 st σ => R178l hr (d := d + 31) v0 v1 v2 v3 st σ
  have r2 := @R178 ro L xs hr (by omega)
  have h4 : nI L - nI 4 = nI (L - 4) := z_sub (by omega)
  have hn : ¬ L - 4 < i := by omega
  obtain ⟨r, σ1, σ2, e1, e2, g⟩ : ∃ r σ1 σ2, ma_ev ro (d + 30) 76 [.ref 0, .int (xs (i + 1)), .int (xs (i + 2)), .int (xs (i + 3))] SH σ = some (some (.long r), SH, σ1) ∧ ma_ev ro (d + 30) 157 [.ref 90, .int (xs (i + 1)), .int (xs (i + 2)), .int (xs (i + 3))] SH σ1 = some (some (.long r), SH, σ2) ∧ G σ2 := C76 (d := d + 22) σ hG (xs (i + 1)) (xs (i + 2)) (xs (i + 3))
  refine ⟨σ2, g, ?_⟩
  rw [Sh178_18]
  simp (disch := first | assumption | omega | exact zb_fit | exact hbf .. | (simp (disch := omega) only [up_no, up_nk, up_at, u_cp_no] <;> (first | assumption | omega)) | (simp only [hkF] <;> omega) | decide) only [S178, r1, r2, h4, z_lt, hn, hc, e1, e2, lg_same, eq_self_iff_true, z_eq, Nat.reduceEqDiff, hkF, z_add, z_mul, up_at, up_no, up_nk, u_cp_no, ma_bd, ↓reduceIte, if_true, if_false, Option.toList, List.nil_append, List.cons_append]
theorem LS19 {ro : ma_RO} {L : Nat} {xs : Nat → Int32} (hr : ro 2000000 = some (L, xs)) (hL : L ≤ 2048) {d : Nat} (σ : ma_H) (hG : G σ) (i : Nat) (hi : i + 4 ≤ L) (hc : xs i &&& nI 31 = nI 19) : ∃ σ', G σ' ∧ ma_rn ro (d + 31) 178 (18, [some (.ref 2000000), some (.ref 0), some (.ref 90), some (.int (nI i))], [], SH, σ) = ma_rn ro (d + 31) 178 (18, [some (.ref 2000000), some (.ref 0), some (.ref 90), some (.int (nI (i + 4)))], [], SH, σ') := by
  have r1 := fun v0 v1 v2 v3 st σ => R178l hr (d := d + 31) v0 v1 v2 v3 st σ
  have r2 := @R178 ro L xs hr (by omega)
  have h4 : nI L - nI 4 = nI (L - 4) := z_sub (by omega)
  have hn : ¬ L - 4 < i := by omega
  obtain ⟨r, σ1, σ2, e1, e2, g⟩ : ∃ r σ1 σ2, ma_ev ro (d + 30) 77 [.ref 0, .int (xs (i + 1))] SH σ = some (some (.long r), SH, σ1) ∧ ma_ev ro (d + 30) 158 [.ref 90, .int (xs (i + 1))] SH σ1 = some (some (.long r), SH, σ2) ∧ G σ2 := C77 (d := d + 27) σ hG (xs (i + 1))
  refine ⟨σ2, g, ?_⟩
  rw [Sh178_18]
  simp (disch := first | assumption | omega | exact zb_fit | exact hbf .. | (simp (disch := omega) only [up_no, up_nk, up_at, u_cp_no] <;> (first | assumption | omega)) | (simp only [hkF] <;> omega) | decide) only [S178, r1, r2, h4, z_lt, hn, hc, e1, e2, lg_same, eq_self_iff_true, z_eq, Nat.reduceEqDiff, hkF, z_add, z_mul, up_at, up_no, up_nk, u_cp_no, ma_bd, ↓reduceIte, if_true, if_false, Option.toList, List.nil_append, List.cons_append]
theorem LS20 {ro : ma_RO} {L : Nat} {xs : Nat → Int32} (hr : ro 2000000 = some (L, xs)) (hL : L ≤ 2048) {d : Nat} (σ : ma_H) (hG : G σ) (i : Nat) (hi : i + 4 ≤ L) (hc : xs i &&& nI 31 = nI 20) : ∃ σ', G σ' ∧ ma_rn ro (d + 31) 178 (18, [some (.ref 2000000), some (.ref 0), some (.ref 90), some (.int (nI i))], [], SH, σ) = ma_rn ro (d + 31) 178 (18, [some (.ref 2000000), some (.ref 0), some (.ref 90), some (.int (nI (i + 4)))], [], SH, σ') := by
  have r1 := fun v0 v1 v2 v3 st σ => R178l hr (d := d + 31) v0 v1 v2 v3 st σ
  have r2 := @R178 ro L xs hr (by omega)
  have h4 : nI L - nI 4 = nI (L - 4) := z_sub (by omega)
  have hn : ¬ L - 4 < i := by omega
  obtain ⟨r, σ1, σ2, e1, e2, g⟩ : ∃ r σ1 σ2, ma_ev ro (d + 30) 78 [.ref 0, .int (xs (i + 1)), .int (xs (i + 2))] SH σ = some (some (.int r), SH, σ1) ∧ ma_ev ro (d + 30) 159 [.ref 90, .int (xs (i + 1)), .int (xs (i + 2))] SH σ1 = some (some (.int r), SH, σ2) ∧ G σ2 := C78 (d := d + 27) σ hG (xs (i + 1)) (xs (i + 2))
  refine ⟨σ2, g, ?_⟩
  rw [Sh178_18]
  simp (disch := first | assumption | omega | exact zb_fit | exact hbf .. | (simp (disch := omega) only [up_no, up_nk, up_at, u_cp_no] <;> (first | assumption | omega)) | (simp only [hkF] <;> omega) | decide) only [S178, r1, r2, h4, z_lt, hn, hc, e1, e2, eq_self_iff_true, z_eq, Nat.reduceEqDiff, hkF, z_add, z_mul, up_at, up_no, up_nk, u_cp_no, ma_bd, ↓reduceIte, if_true, if_false, Option.toList, List.nil_append, List.cons_append]
theorem LS21 {ro : ma_RO} {L : Nat} {xs : Nat → Int32} (hr : ro 2000000 = some (L, xs)) (hL : L ≤ 2048) {d : Nat} (σ : ma_H) (hG : G σ) (i : Nat) (hi : i + 4 ≤ L) (hc : xs i &&& nI 31 = nI 21) : ∃ σ', G σ' ∧ ma_rn ro (d + 31) 178 (18, [some (.ref 2000000), some (.ref 0), some (.ref 90), some (.int (nI i))], [], SH, σ) = ma_rn ro (d + 31) 178 (18, [some (.ref 2000000), some (.ref 0), some (.ref 90), some (.int (nI (i + 4)))], [], SH, σ') := by
  have r1 := fun v0 v1 v2 v3 st σ => R178l hr (d := d + 31) v0 v1 v2 v3 st σ
  have r2 := @R178 ro L xs hr (by omega)
  have h4 : nI L - nI 4 = nI (L - 4) := z_sub (by omega)
  have hn : ¬ L - 4 < i := by omega
  obtain ⟨r, σ1, σ2, e1, e2, g⟩ : ∃ r σ1 σ2, ma_ev ro (d + 30) 79 [.ref 0, .int (xs (i + 1))] SH σ = some (some (.int r), SH, σ1) ∧ ma_ev ro (d + 30) 161 [.ref 90, .int (xs (i + 1))] SH σ1 = some (some (.int r), SH, σ2) ∧ G σ2 := C79 (d := d + 22) σ hG (xs (i + 1))
  refine ⟨σ2, g, ?_⟩
  rw [Sh178_18]
  simp (disch := first | assumption | omega | exact zb_fit | exact hbf .. | (simp (disch := omega) only [up_no, up_nk, up_at, u_cp_no] <;> (first | assumption | omega)) | (simp only [hkF] <;> omega) | decide) only [S178, r1, r2, h4, z_lt, hn, hc, e1, e2, eq_self_iff_true, z_eq, Nat.reduceEqDiff, hkF, z_add, z_mul, up_at, up_no, up_nk, u_cp_no, ma_bd, ↓reduceIte, if_true, if_false, Option.toList, List.nil_append, List.cons_append]
theorem LS22 {ro : ma_RO} {L : Nat} {xs : Nat → Int32} (hr : ro 2000000 = some (L, xs)) (hL : L ≤ 2048) {d : Nat} (σ : ma_H) (hG : G σ) (i : Nat) (hi : i + 4 ≤ L) (hc : xs i &&& nI 31 = nI 22) : ∃ σ', G σ' ∧ ma_rn ro (d + 31) 178 (18, [some (.ref 2000000), some (.ref 0), some (.ref 90), some (.int (nI i))], [], SH, σ) = ma_rn ro (d + 31) 178 (18, [some (.ref 2000000), some (.ref 0), some (.ref 90), some (.int (nI (i + 4)))], [], SH, σ') := by
  have r1 := fun v0 v1 v2 v3 st σ => R178l hr (d := d + 31) v0 v1 v2 v3 st σ
  have r2 := @R178 ro L xs hr (by omega)
  have h4 : nI L - nI 4 = nI (L - 4) := z_sub (by omega)
  have hn : ¬ L - 4 < i := by omega
  obtain ⟨r, σ1, σ2, e1, e2, g⟩ : ∃ r σ1 σ2, ma_ev ro (d + 30) 80 [.ref 0, .int (xs (i + 1)), .int (xs (i + 2))] SH σ = some (some (.int r), SH, σ1) ∧ ma_ev ro (d + 30) 162 [.ref 90, .int (xs (i + 1)), .int (xs (i + 2))] SH σ1 = some (some (.int r), SH, σ2) ∧ G σ2 := C80 (d := d + 27) σ hG (xs (i + 1)) (xs (i + 2))
  refine ⟨σ2, g, ?_⟩
  rw [Sh178_18]
  simp (disch := first | assumption | omega | exact zb_fit | exact hbf .. | (simp (disch := omega) only [up_no, up_nk, up_at, u_cp_no] <;> (first | assumption | omega)) | (simp only [hkF] <;> omega) | decide) only [S178, r1, r2, h4, z_lt, hn, hc, e1, e2, eq_self_iff_true, z_eq, Nat.reduceEqDiff, hkF, z_add, z_mul, up_at, up_no, up_nk, u_cp_no, ma_bd, ↓reduceIte, if_true, if_false, Option.toList, List.nil_append, List.cons_append]
theorem LS23 {ro : ma_RO} {L : Nat} {xs : Nat → Int32} (hr : ro 2000000 = some (L, xs)) (hL : L ≤ 2048) {d : Nat} (σ : ma_H) (hG : G σ) (i : Nat) (hi : i + 4 ≤ L) (hc : xs i &&& nI 31 = nI 23) : ∃ σ', G σ' ∧ ma_rn ro (d + 31) 178 (18, [some (.ref 2000000), some (.ref 0), some (.ref 90), some (.int (nI i))], [], SH, σ) = ma_rn ro (d + 31) 178 (18, [some (.ref 2000000), some (.ref 0), some (.ref 90), some (.int (nI (i + 4)))], [], SH, σ') := by
  have r1 := fun v0 v1 v2 v3 st σ => R178l hr (d := d + 31) v0 v1 v2 v3 st σ
  have r2 := @R178 ro L xs hr (by omega)
  have h4 : nI L - nI 4 = nI (L - 4) := z_sub (by omega)
  have hn : ¬ L - 4 < i := by omega
  obtain ⟨r, σ1, σ2, e1, e2, g⟩ : ∃ r σ1 σ2, ma_ev ro (d + 30) 81 [.ref 0] SH σ = some (some (.int r), SH, σ1) ∧ ma_ev ro (d + 30) 163 [.ref 90] SH σ1 = some (some (.int r), SH, σ2) ∧ G σ2 := C81 (d := d + 26) σ hG
  refine ⟨σ2, g, ?_⟩
  rw [Sh178_18]
  simp (disch := first | assumption | omega | exact zb_fit | exact hbf .. | (simp (disch := omega) only [up_no, up_nk, up_at, u_cp_no] <;> (first | assumption | omega)) | (simp only [hkF] <;> omega) | decide) only [S178, r1, r2, h4, z_lt, hn, hc, e1, e2, eq_self_iff_true, z_eq, Nat.reduceEqDiff, hkF, z_add, z_mul, up_at, up_no, up_nk, u_cp_no, ma_bd, ↓reduceIte, if_true, if_false, Option.toList, List.nil_append, List.cons_append]
theorem LS24 {ro : ma_RO} {L : Nat} {xs : Nat → Int32} (hr : ro 2000000 = some (L, xs)) (hro : ro 3000000 = some (7, ma_abv)) (hL : L ≤ 2048) {d : Nat} (σ : ma_H) (hG : G σ) (i : Nat) (hi : i + 4 ≤ L) (hc : xs i &&& nI 31 = nI 24) : ∃ σ', G σ' ∧ ma_rn ro (d + 31) 178 (18, [some (.ref 2000000), some (.ref 0), some (.ref 90), some (.int (nI i))], [], SH, σ) = ma_rn ro (d + 31) 178 (18, [some (.ref 2000000), some (.ref 0), some (.ref 90), some (.int (nI (i + 4)))], [], SH, σ') := by
  have r1 := fun v0 v1 v2 v3 st σ => R178l hr (d := d + 31) v0 v1 v2 v3 st σ
  have r2 := @R178 ro L xs hr (by omega)
  have h4 : nI L - nI 4 = nI (L - 4) := z_sub (by omega)
  have hn : ¬ L - 4 < i := by omega
  obtain ⟨r, σ1, σ2, e1, e2, g⟩ : ∃ r σ1 σ2, ma_ev ro (d + 30) 82 [.ref 0, .int (xs (i + 1)), .int (xs (i + 2)), .int (xs (i + 3))] SH σ = some (some (.int r), SH, σ1) ∧ ma_ev ro (d + 30) 172 [.ref 90, .int (xs (i + 1)), .int (xs (i + 2)), .int (xs (i + 3))] SH σ1 = some (some (.int r), SH, σ2) ∧ G σ2 := C82 hro (d := d + 17) σ hG (xs (i + 1)) (xs (i + 2)) (xs (i + 3))
  refine ⟨σ2, g, ?_⟩
  rw [Sh178_18]
  simp (disch := first | assumption | omega | exact zb_fit | exact hbf .. | (simp (disch := omega) only [up_no, up_nk, up_at, u_cp_no] <;> (first | assumption | omega)) | (simp only [hkF] <;> omega) | decide) only [S178, r1, r2, h4, z_lt, hn, hc, e1, e2, eq_self_iff_true, z_eq, Nat.reduceEqDiff, hkF, z_add, z_mul, up_at, up_no, up_nk, u_cp_no, ma_bd, ↓reduceIte, if_true, if_false, Option.toList, List.nil_append, List.cons_append]
theorem LS25 {ro : ma_RO} {L : Nat} {xs : Nat → Int32} (hr : ro 2000000 = some (L, xs)) (hL : L ≤ 2048) {d : Nat} (σ : ma_H) (hG : G σ) (i : Nat) (hi : i + 4 ≤ L) (hc : xs i &&& nI 31 = nI 25) : ∃ σ', G σ' ∧ ma_rn ro (d + 31) 178 (18, [some (.ref 2000000), some (.ref 0), some (.ref 90), some (.int (nI i))], [], SH, σ) = ma_rn ro (d + 31) 178 (18, [some (.ref 2000000), some (.ref 0), some (.ref 90), some (.int (nI (i + 4)))], [], SH, σ') := by
  have r1 := fun v0 v1 v2 v3 st σ => R178l hr (d := d + 31) v0 v1 v2 v3 st σ
  have r2 := @R178 ro L xs hr (by omega)
  have h4 : nI L - nI 4 = nI (L - 4) := z_sub (by omega)
  have hn : ¬ L - 4 < i := by omega
  obtain ⟨r, σ1, σ2, e1, e2, g⟩ : ∃ r σ1 σ2, ma_ev ro (d + 30) 83 [.ref 0, .int (xs (i + 1))] SH σ = some (some (.int r), SH, σ1) ∧ ma_ev ro (d + 30) 173 [.ref 90, .int (xs (i + 1))] SH σ1 = some (some (.int r), SH, σ2) ∧ G σ2 := C83 (d := d + 27) σ hG (xs (i + 1))
  refine ⟨σ2, g, ?_⟩
  rw [Sh178_18]
  simp (disch := first | assumption | omega | exact zb_fit | exact hbf .. | (simp (disch := omega) only [up_no, up_nk, up_at, u_cp_no] <;> (first | assumption | omega)) | (simp only [hkF] <;> omega) | decide) only [S178, r1, r2, h4, z_lt, hn, hc, e1, e2, eq_self_iff_true, z_eq, Nat.reduceEqDiff, hkF, z_add, z_mul, up_at, up_no, up_nk, u_cp_no, ma_bd, ↓reduceIte, if_true, if_false, Option.toList, List.nil_append, List.cons_append]
theorem LS26 {ro : ma_RO} {L : Nat} {xs : Nat → Int32} (hr : ro 2000000 = some (L, xs)) (hro : ro 3000000 = some (7, ma_abv)) (hL : L ≤ 2048) {d : Nat} (σ : ma_H) (hG : G σ) (i : Nat) (hi : i + 4 ≤ L) (hc : xs i &&& nI 31 = nI 26) : ∃ σ', G σ' ∧ ma_rn ro (d + 31) 178 (18, [some (.ref 2000000), some (.ref 0), some (.ref 90), some (.int (nI i))], [], SH, σ) = ma_rn ro (d + 31) 178 (18, [some (.ref 2000000), some (.ref 0), some (.ref 90), some (.int (nI (i + 4)))], [], SH, σ') := by
  have r1 := fun v0 v1 v2 v3 st σ => R178l hr (d := d + 31) v0 v1 v2 v3 st σ
  have r2 := @R178 ro L xs hr (by omega)
  have h4 : nI L - nI 4 = nI (L - 4) := z_sub (by omega)
  have hn : ¬ L - 4 < i := by omega
  obtain ⟨r, σ1, σ2, e1, e2, g⟩ : ∃ r σ1 σ2, ma_ev ro (d + 30) 84 [.ref 0, .int (xs (i + 1)), .int (xs (i + 2))] SH σ = some (some (.int r), SH, σ1) ∧ ma_ev ro (d + 30) 174 [.ref 90, .int (xs (i + 1)), .int (xs (i + 2))] SH σ1 = some (some (.int r), SH, σ2) ∧ G σ2 := C84 hro (d := d + 27) σ hG (xs (i + 1)) (xs (i + 2))
  refine ⟨σ2, g, ?_⟩
  rw [Sh178_18]
  simp (disch := first | assumption | omega | exact zb_fit | exact hbf .. | (simp (disch := omega) only [up_no, up_nk, up_at, u_cp_no] <;> (first | assumption | omega)) | (simp only [hkF] <;> omega) | decide) only [S178, r1, r2, h4, z_lt, hn, hc, e1, e2, eq_self_iff_true, z_eq, Nat.reduceEqDiff, hkF, z_add, z_mul, up_at, up_no, up_nk, u_cp_no, ma_bd, ↓reduceIte, if_true, if_false, Option.toList, List.nil_append, List.cons_append]
theorem LS27 {ro : ma_RO} {L : Nat} {xs : Nat → Int32} (hr : ro 2000000 = some (L, xs)) (hL : L ≤ 2048) {d : Nat} (σ : ma_H) (hG : G σ) (i : Nat) (hi : i + 4 ≤ L) (hc : xs i &&& nI 31 = nI 27) : ∃ σ', G σ' ∧ ma_rn ro (d + 31) 178 (18, [some (.ref 2000000), some (.ref 0), some (.ref 90), some (.int (nI i))], [], SH, σ) = ma_rn ro (d + 31) 178 (18, [some (.ref 2000000), some (.ref 0), some (.ref 90), some (.int (nI (i + 4)))], [], SH, σ') := by
  have r1 := fun v0 v1 v2 v3 st σ => R178l hr (d := d + 31) v0 v1 v2 v3 st σ
  have r2 := @R178 ro L xs hr (by omega)
  have h4 : nI L - nI 4 = nI (L - 4) := z_sub (by omega)
  have hn : ¬ L - 4 < i := by omega
  obtain ⟨r, σ1, σ2, e1, e2, g⟩ : ∃ r σ1 σ2, ma_ev ro (d + 30) 85 [.ref 0] SH σ = some (some (.int r), SH, σ1) ∧ ma_ev ro (d + 30) 175 [.ref 90] SH σ1 = some (some (.int r), SH, σ2) ∧ G σ2 := C85 (d := d + 26) σ hG
  refine ⟨σ2, g, ?_⟩
  rw [Sh178_18]
  simp (disch := first | assumption | omega | exact zb_fit | exact hbf .. | (simp (disch := omega) only [up_no, up_nk, up_at, u_cp_no] <;> (first | assumption | omega)) | (simp only [hkF] <;> omega) | decide) only [S178, r1, r2, h4, z_lt, hn, hc, e1, e2, eq_self_iff_true, z_eq, Nat.reduceEqDiff, hkF, z_add, z_mul, up_at, up_no, up_nk, u_cp_no, ma_bd, ↓reduceIte, if_true, if_false, Option.toList, List.nil_append, List.cons_append]
theorem LS28 {ro : ma_RO} {L : Nat} {xs : Nat → Int32} (hr : ro 2000000 = some (L, xs)) (hL : L ≤ 2048) {d : Nat} (σ : ma_H) (hG : G σ) (i : Nat) (hi : i + 4 ≤ L) (hc : xs i &&& nI 31 = nI 28) : ∃ σ', G σ' ∧ ma_rn ro (d + 31) 178 (18, [some (.ref 2000000), some (.ref 0), some (.ref 90), some (.int (nI i))], [], SH, σ) = ma_rn ro (d + 31) 178 (18, [some (.ref 2000000), some (.ref 0), some (.ref 90), some (.int (nI (i + 4)))], [], SH, σ') := by
  have r1 := fun v0 v1 v2 v3 st σ => R178l hr (d := d + 31) v0 v1 v2 v3 st σ
  have r2 := @R178 ro L xs hr (by omega)
  have h4 : nI L - nI 4 = nI (L - 4) := z_sub (by omega)
  have hn : ¬ L - 4 < i := by omega
  obtain ⟨r, σ1, σ2, e1, e2, g⟩ : ∃ r σ1 σ2, ma_ev ro (d + 30) 86 [.ref 0] SH σ = some (some (.int r), SH, σ1) ∧ ma_ev ro (d + 30) 176 [.ref 90] SH σ1 = some (some (.int r), SH, σ2) ∧ G σ2 := C86 (d := d + 26) σ hG
  refine ⟨σ2, g, ?_⟩
  rw [Sh178_18]
  simp (disch := first | assumption | omega | exact zb_fit | exact hbf .. | (simp (disch := omega) only [up_no, up_nk, up_at, u_cp_no] <;> (first | assumption | omega)) | (simp only [hkF] <;> omega) | decide) only [S178, r1, r2, h4, z_lt, hn, hc, e1, e2, eq_self_iff_true, z_eq, Nat.reduceEqDiff, hkF, z_add, z_mul, up_at, up_no, up_nk, u_cp_no, ma_bd, ↓reduceIte, if_true, if_false, Option.toList, List.nil_append, List.cons_append]
theorem LS29 {ro : ma_RO} {L : Nat} {xs : Nat → Int32} (hr : ro 2000000 = some (L, xs)) (hL : L ≤ 2048) {d : Nat} (σ : ma_H) (hG : G σ) (i : Nat) (hi : i + 4 ≤ L) (hc : xs i &&& nI 31 = nI 29) : ∃ σ', G σ' ∧ ma_rn ro (d + 31) 178 (18, [some (.ref 2000000), some (.ref 0), some (.ref 90), some (.int (nI i))], [], SH, σ) = ma_rn ro (d + 31) 178 (18, [some (.ref 2000000), some (.ref 0), some (.ref 90), some (.int (nI (i + 4)))], [], SH, σ') := by
  have r1 := fun v0 v1 v2 v3 st σ => R178l hr (d := d + 31) v0 v1 v2 v3 st σ
  have r2 := @R178 ro L xs hr (by omega)
  have h4 : nI L - nI 4 = nI (L - 4) := z_sub (by omega)
  have hn : ¬ L - 4 < i := by omega
  obtain ⟨r, σ1, σ2, e1, e2, g⟩ : ∃ r σ1 σ2, ma_ev ro (d + 30) 87 [.ref 0, .int (xs (i + 1))] SH σ = some (some (.int r), SH, σ1) ∧ ma_ev ro (d + 30) 177 [.ref 90, .int (xs (i + 1))] SH σ1 = some (some (.int r), SH, σ2) ∧ G σ2 := C87 (d := d + 27) σ hG (xs (i + 1))
  refine ⟨σ2, g, ?_⟩
  rw [Sh178_18]
  simp (disch := first | assumption | omega | exact zb_fit | exact hbf .. | (simp (disch := omega) only [up_no, up_nk, up_at, u_cp_no] <;> (first | assumption | omega)) | (simp only [hkF] <;> omega) | decide) only [S178, r1, r2, h4, z_lt, hn, hc, e1, e2, eq_self_iff_true, z_eq, Nat.reduceEqDiff, hkF, z_add, z_mul, up_at, up_no, up_nk, u_cp_no, ma_bd, ↓reduceIte, if_true, if_false, Option.toList, List.nil_append, List.cons_append]
theorem LS30 {ro : ma_RO} {L : Nat} {xs : Nat → Int32} (hr : ro 2000000 = some (L, xs)) (hL : L ≤ 2048) {d : Nat} (σ : ma_H) (hG : G σ) (i : Nat) (hi : i + 4 ≤ L) (j : Nat) (hj : j = 30 ∨ j = 31) (hc : xs i &&& nI 31 = nI j) : ∃ σ', G σ' ∧ ma_rn ro (d + 31) 178 (18, [some (.ref 2000000), some (.ref 0), some (.ref 90), some (.int (nI i))], [], SH, σ) = ma_rn ro (d + 31) 178 (18, [some (.ref 2000000), some (.ref 0), some (.ref 90), some (.int (nI (i + 4)))], [], SH, σ') := by
  have r1 := fun v0 v1 v2 v3 st σ => R178l hr (d := d + 31) v0 v1 v2 v3 st σ
  have r2 := @R178 ro L xs hr (by omega)
  have h4 : nI L - nI 4 = nI (L - 4) := z_sub (by omega)
  have hn : ¬ L - 4 < i := by omega
  refine ⟨σ, hG, ?_⟩
  rcases hj with rfl | rfl
  · rw [Sh178_18]
    simp (disch := first | assumption | omega | exact zb_fit | exact hbf .. | (simp (disch := omega) only [up_no, up_nk, up_at, u_cp_no] <;> (first | assumption | omega)) | (simp only [hkF] <;> omega) | decide) only [S178, r1, r2, h4, z_lt, hn, hc, z_eq, Nat.reduceEqDiff, hkF, z_add, z_mul, up_at, up_no, up_nk, u_cp_no, ma_bd, ↓reduceIte, if_true, if_false, Option.toList, List.nil_append, List.cons_append]
  · rw [Sh178_18]
    simp (disch := first | assumption | omega | exact zb_fit | exact hbf .. | (simp (disch := omega) only [up_no, up_nk, up_at, u_cp_no] <;> (first | assumption | omega)) | (simp only [hkF] <;> omega) | decide) only [S178, r1, r2, h4, z_lt, hn, hc, z_eq, Nat.reduceEqDiff, hkF, z_add, z_mul, up_at, up_no, up_nk, u_cp_no, ma_bd, ↓reduceIte, if_true, if_false, Option.toList, List.nil_append, List.cons_append]
theorem LSend {ro : ma_RO} {L : Nat} {xs : Nat → Int32} (hr : ro 2000000 = some (L, xs)) (hL : L ≤ 2048) {d : Nat} (σ : ma_H) (i : Nat) (hi2 : i ≤ 3000) (hi : ¬ i + 4 ≤ L) : ma_rn ro (d + 31) 178 (18, [some (.ref 2000000), some (.ref 0), some (.ref 90), some (.int (nI i))], [], SH, σ) = some (some (.int (nI 1)), SH, σ) := by
  have r1 := fun v0 v1 v2 v3 st σ => R178l hr (d := d + 31) v0 v1 v2 v3 st σ
  have f1 : ma_fitI .boolean (nI 1) = true := by decide
  have hlt : nI L - nI 4 < nI i := by
    by_cases h : 4 ≤ L
    · rw [z_sub h, z_lt (by omega) (by omega)]; omega
    · have := @neg_sub L 4 (by omega) (by decide)
      rw [Int32.lt_iff_toInt_lt] at this ⊢
      rw [z0_toInt] at this
      rw [nI_toInt (by omega)]
      omega
  rw [Sh178_18]
  simp (disch := first | assumption | omega | exact zb_fit | exact hbf .. | (simp (disch := omega) only [up_no, up_nk, up_at, u_cp_no] <;> (first | assumption | omega)) | (simp only [hkF] <;> omega) | decide) only [S178, r1, hlt, f1, hkF, z_add, z_mul, up_at, up_no, up_nk, u_cp_no, ma_bd, ↓reduceIte, if_true, if_false, Option.toList, List.nil_append, List.cons_append]
