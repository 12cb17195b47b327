/-! The model: its small methods. -/
theorem V102 {ro : ma_RO} {d : Nat} (v lo hi : Int32) (σ : ma_H) : ma_ev ro d 102 [.int v, .int lo, .int hi] SH σ = some (some (.int (zb (¬ v < lo ∧ ¬ hi < v))), SH, σ) := by
  simp (disch := first | assumption | omega | exact zb_fit | (simp only [hkF] <;> omega) | decide) only [E102, S102, hkF, z_add, z_mul, up_at, up_no, up_nk, u_cp_no, ma_bd, if_true, if_false, Option.toList, List.nil_append, List.cons_append]
  by_cases h1 : v < lo <;> by_cases h2 : hi < v <;> simp (disch := first | assumption | omega | exact zb_fit | (simp only [hkF] <;> omega) | decide) only [h1, h2, S102, not_true, not_false_iff, and_true, true_and, zb_t, zb_f, and_self, hkF, z_add, z_mul, up_at, up_no, up_nk, u_cp_no, ma_bd, if_true, if_false, Option.toList, List.nil_append, List.cons_append]
theorem V104 {ro : ma_RO} {d : Nat} (x m : Int32) (σ : ma_H) : ma_ev ro d 104 [.int x, .int m] SH σ = some (some (.int (if x < nI 0 then nI 0 else if m < x then m else x)), SH, σ) := by
  simp (disch := first | assumption | omega | exact zb_fit | (simp only [hkF] <;> omega) | decide) only [E104, S104, hkF, z_add, z_mul, up_at, up_no, up_nk, u_cp_no, ma_bd, if_true, if_false, Option.toList, List.nil_append, List.cons_append]
  by_cases h1 : x < nI 0 <;> by_cases h2 : m < x <;> simp (disch := first | assumption | omega | exact zb_fit | (simp only [hkF] <;> omega) | decide) only [h1, h2, S104, hkF, z_add, z_mul, up_at, up_no, up_nk, u_cp_no, ma_bd, if_true, if_false, Option.toList, List.nil_append, List.cons_append]
theorem V103 {ro : ma_RO} {d : Nat} (p : Int32) (σ : ma_H) : ma_ev ro (d + 1) 103 [.ref 90, .int p] SH σ = some (some (.int (zb (¬ p < nI 0 ∧ ¬ σ 91 33 - nI 1 < p))), SH, σ) := by
  simp (disch := first | assumption | omega | exact zb_fit | (simp only [hkF] <;> omega) | decide) only [E103, S103, V102, zb_fit, hkF, z_add, z_mul, up_at, up_no, up_nk, u_cp_no, ma_bd, if_true, if_false, Option.toList, List.nil_append, List.cons_append]
theorem V105 {ro : ma_RO} {d : Nat} (σ : ma_H) : ma_ev ro d 105 [.ref 90] SH σ = some (none, SH, u_cp σ 93 91 33) := by
  have H : ∀ k, k < 33 → ma_rn ro d 105 (2, [some (.ref 90), some (.int (nI k))], [], SH, u_cp σ 93 91 k) = ma_rn ro d 105 (2, [some (.ref 90), some (.int (nI (k + 1)))], [], SH, u_cp σ 93 91 (k + 1)) := by
    intro k hk
    rw [Sh105_2]
    simp (disch := first | assumption | omega | exact zb_fit | (simp only [hkF] <;> omega) | decide) only [S105, z_lt, hk, u_cpS, hkF, z_add, z_mul, up_at, up_no, up_nk, u_cp_no, ma_bd, if_true, if_false, Option.toList, List.nil_append, List.cons_append]
  simp (disch := first | assumption | omega | exact zb_fit | (simp only [hkF] <;> omega) | decide) only [E105, S105, hkF, z_add, z_mul, up_at, up_no, up_nk, u_cp_no, ma_bd, if_true, if_false, Option.toList, List.nil_append, List.cons_append]
  have := ma_loop (fun k => ma_rn ro d 105 (2, [some (.ref 90), some (.int (nI k))], [], SH, u_cp σ 93 91 k)) 33 H
  simp only [u_cp0] at this
  rw [this, Sh105_2]
  simp (disch := first | assumption | omega | exact zb_fit | (simp only [hkF] <;> omega) | decide) only [S105, z_lt, Nat.lt_irrefl, hkF, z_add, z_mul, up_at, up_no, up_nk, u_cp_no, ma_bd, if_true, if_false, Option.toList, List.nil_append, List.cons_append]
