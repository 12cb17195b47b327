/-! The calls set, row. -/
theorem C63 {ro : ma_RO} {d : Nat} (σ : ma_H) (hG : G σ) (x y n : Int32) : ∃ r σ1 σ2, ma_ev ro (d + 3) 63 [.ref 0, .int x, .int y, .int n] SH σ = some (some (.int r), SH, σ1) ∧ ma_ev ro (d + 3) 131 [.ref 90, .int x, .int y, .int n] SH σ1 = some (some (.int r), SH, σ2) ∧ G σ2 := by
  obtain ⟨nd, cs, wo, hg⟩ := hG.1
  have hg' := hg
  obtain ⟨k1, k2, k3, k4, ⟨i1, i2, i3, i4, i5⟩, k6⟩ := hg'
  obtain ⟨w1, w2, w3, w4, w5⟩ := k6.1
  have kw := hkWh_1.2.1
  rcases Or.symm (dcases x nd (by omega)) with hx | ⟨p, hp, rfl⟩
  · have e50 := V50n (ro := ro) (d := d + 2) σ 2 nd x kw w1 hx
    have e103 := V103n (ro := ro) (d := d + 1) σ x nd k1 k2 hx
    exact ⟨_, σ, σ, by simp (disch := first | assumption | omega | exact zb_fit | exact hbf .. | (simp (disch := omega) only [up_no, up_nk, up_at, u_cp_no] <;> (first | assumption | omega)) | (simp only [hkF] <;> omega) | decide) only [E63, S63, e50, hkF, z_add, z_mul, up_at, up_no, up_nk, u_cp_no, ma_bd, ↓reduceIte, if_true, if_false, Option.toList, List.nil_append, List.cons_append]; rfl, by simp (disch := first | assumption | omega | exact zb_fit | exact hbf .. | (simp (disch := omega) only [up_no, up_nk, up_at, u_cp_no] <;> (first | assumption | omega)) | (simp only [hkF] <;> omega) | decide) only [E131, S131, e103, z_eq, Nat.reduceEqDiff, hkF, z_add, z_mul, up_at, up_no, up_nk, u_cp_no, ma_bd, ↓reduceIte, if_true, if_false, Option.toList, List.nil_append, List.cons_append], hG⟩
  have e50 := V50 (ro := ro) (d := d + 2) σ 2 p nd kw w1 k1 hp
  have kd := kw.2.2.2 p (by omega)
  have kd1 := kd.1
  have e103 := fun s h => V103p (ro := ro) (d := d + 1) s p nd k1 h hp
  by_cases h : y < nI 0 ∨ nI 2 < y
  · have e88 := V88t (ro := ro) (d := d + 2) σ h
    have e102 := V102f (ro := ro) (d := d + 2) σ h
    have e103 := e103 σ k2
    exact ⟨_, σ, σ, by simp (disch := first | assumption | omega | exact zb_fit | exact hbf .. | (simp (disch := omega) only [up_no, up_nk, up_at, u_cp_no] <;> (first | assumption | omega)) | (simp only [hkF] <;> omega) | decide) only [E63, S63, e50, e88, z_eq, Nat.reduceEqDiff, hkF, z_add, z_mul, up_at, up_no, up_nk, u_cp_no, ma_bd, ↓reduceIte, if_true, if_false, Option.toList, List.nil_append, List.cons_append]; rfl, by simp (disch := first | assumption | omega | exact zb_fit | exact hbf .. | (simp (disch := omega) only [up_no, up_nk, up_at, u_cp_no] <;> (first | assumption | omega)) | (simp only [hkF] <;> omega) | decide) only [E131, S131, e103, e102, z_eq, Nat.reduceEqDiff, hkF, z_add, z_mul, up_at, up_no, up_nk, u_cp_no, ma_bd, ↓reduceIte, if_true, if_false, Option.toList, List.nil_append, List.cons_append], hG⟩
  have e88 := V88f (ro := ro) (d := d + 2) σ h
  have e102 := fun s => V102t (ro := ro) (d := d + 2) s h
  obtain ⟨a, ha, rfl⟩ := Rg_of (by decide) h
  have hI := i1 p hp
  have dd := (w5 p hp).1
  have ea : 4 + 2 * p = 2 + 1 + 1 + 2 * p := by omega
  have hbf : ma_bef [some (Value.ref 0), some (Value.int (nI p)), some (Value.int (nI a)), some (Value.int n), some (Value.ref (2 + 1 + 1 + 2 * p)), none] 5 = false := rfl
  have c3 : a = 0 ∨ a = 1 ∨ a = 2 := by omega
  rcases c3 with rfl | rfl | rfl
  · have d4 : σ (2 + 1 + 1 + 2 * p) 4 = σ 91 (9 + p) := dd 4 (by decide)
    by_cases hn : n < nI 0 ∨ nI 99 < n
    · have f88 := V88t (ro := ro) (d := d + 2) σ hn
      have f102 := V102f (ro := ro) (d := d + 2) σ hn
      have e103 := e103 σ k2
      have e102 := e102 σ
      exact ⟨_, σ, σ, by simp (disch := first | assumption | omega | exact zb_fit | exact hbf .. | (simp (disch := omega) only [up_no, up_nk, up_at, u_cp_no] <;> (first | assumption | omega)) | (simp only [hkF] <;> omega) | decide) only [E63, S63, e50, e88, f88, z_eq, Nat.reduceEqDiff, hkF, z_add, z_mul, up_at, up_no, up_nk, u_cp_no, ma_bd, ↓reduceIte, if_true, if_false, Option.toList, List.nil_append, List.cons_append]; rfl, by simp (disch := first | assumption | omega | exact zb_fit | exact hbf .. | (simp (disch := omega) only [up_no, up_nk, up_at, u_cp_no] <;> (first | assumption | omega)) | (simp only [hkF] <;> omega) | decide) only [E131, S131, e103, e102, f102, z_eq, Nat.reduceEqDiff, hkF, z_add, z_mul, up_at, up_no, up_nk, u_cp_no, ma_bd, ↓reduceIte, if_true, if_false, Option.toList, List.nil_append, List.cons_append], hG⟩
    have f88 := V88f (ro := ro) (d := d + 2) σ hn
    refine ⟨σ 91 (9 + p), ma_up σ (2 + 1 + 1 + 2 * p) 4 n, ma_up (ma_up σ (2 + 1 + 1 + 2 * p) 4 n) 91 (9 + p) n, ?_, ?_, ?_⟩
    · simp (disch := first | assumption | omega | exact zb_fit | exact hbf .. | (simp (disch := omega) only [up_no, up_nk, up_at, u_cp_no] <;> (first | assumption | omega)) | (simp only [hkF] <;> omega) | decide) only [E63, S63, e50, e88, f88, d4, z_eq, Nat.reduceEqDiff, hkF, z_add, z_mul, up_at, up_no, up_nk, u_cp_no, ma_bd, ↓reduceIte, if_true, if_false, Option.toList, List.nil_append, List.cons_append]
    · generalize hs : ma_up σ (2 + 1 + 1 + 2 * p) 4 n = s
      have s91 : s 91 = σ 91 := by rw [← hs, up_no (by omega)]
      have e103 := e103 s (by rw [s91]; exact k2)
      have e102 := e102 s
      have f102 := V102t (ro := ro) (d := d + 2) s hn
      have e127 := V127 (ro := ro) (d := d + 2) (9 + p) (by omega) n s
      rw [s91] at e127
      simp (disch := first | assumption | omega | exact zb_fit | exact hbf .. | (simp (disch := omega) only [up_no, up_nk, up_at, u_cp_no] <;> (first | assumption | omega)) | (simp only [hkF] <;> omega) | decide) only [E131, S131, e103, e102, f102, e127, z_eq, Nat.reduceEqDiff, hkF, z_add, z_mul, up_at, up_no, up_nk, u_cp_no, ma_bd, ↓reduceIte, if_true, if_false, Option.toList, List.nil_append, List.cons_append]
    · refine G_deed hG hg p hp (fun j => if j = 4 then n else vD (σ 91) p j) ?_ ?_ (fun j hj => ?_) (fun o h1 h2 => by rw [up_no h1, up_no (by omega)])
      · obtain ⟨g1, g2, g3⟩ := hI
        exact ⟨g1, Rg_of (by decide) hn, g3⟩
      · rw [up_S, up_no (by omega), setD_up4 _ _ (by omega)]
      · rw [ea, up_no (by omega)]
        by_cases h4 : j = 4
        · subst h4; rw [up_at]; rfl
        · rw [up_nk h4, if_neg h4]
          by_cases h3 : 3 ≤ j
          · rw [if_pos h3]; exact dd j hj
          · rw [if_neg h3]
  · have d4 : σ (2 + 1 + 1 + 2 * p) 5 = σ 91 (15 + p) := dd 5 (by decide)
    by_cases hn : n < nI 0 ∨ nI 99 < n
    · have f88 := V88t (ro := ro) (d := d + 2) σ hn
      have f102 := V102f (ro := ro) (d := d + 2) σ hn
      have e103 := e103 σ k2
      have e102 := e102 σ
      exact ⟨_, σ, σ, by simp (disch := first | assumption | omega | exact zb_fit | exact hbf .. | (simp (disch := omega) only [up_no, up_nk, up_at, u_cp_no] <;> (first | assumption | omega)) | (simp only [hkF] <;> omega) | decide) only [E63, S63, e50, e88, f88, z_eq, Nat.reduceEqDiff, hkF, z_add, z_mul, up_at, up_no, up_nk, u_cp_no, ma_bd, ↓reduceIte, if_true, if_false, Option.toList, List.nil_append, List.cons_append]; rfl, by simp (disch := first | assumption | omega | exact zb_fit | exact hbf .. | (simp (disch := omega) only [up_no, up_nk, up_at, u_cp_no] <;> (first | assumption | omega)) | (simp only [hkF] <;> omega) | decide) only [E131, S131, e103, e102, f102, z_eq, Nat.reduceEqDiff, hkF, z_add, z_mul, up_at, up_no, up_nk, u_cp_no, ma_bd, ↓reduceIte, if_true, if_false, Option.toList, List.nil_append, List.cons_append], hG⟩
    have f88 := V88f (ro := ro) (d := d + 2) σ hn
    refine ⟨σ 91 (15 + p), ma_up σ (2 + 1 + 1 + 2 * p) 5 n, ma_up (ma_up σ (2 + 1 + 1 + 2 * p) 5 n) 91 (15 + p) n, ?_, ?_, ?_⟩
    · simp (disch := first | assumption | omega | exact zb_fit | exact hbf .. | (simp (disch := omega) only [up_no, up_nk, up_at, u_cp_no] <;> (first | assumption | omega)) | (simp only [hkF] <;> omega) | decide) only [E63, S63, e50, e88, f88, d4, z_eq, Nat.reduceEqDiff, hkF, z_add, z_mul, up_at, up_no, up_nk, u_cp_no, ma_bd, ↓reduceIte, if_true, if_false, Option.toList, List.nil_append, List.cons_append]
    · generalize hs : ma_up σ (2 + 1 + 1 + 2 * p) 5 n = s
      have s91 : s 91 = σ 91 := by rw [← hs, up_no (by omega)]
      have e103 := e103 s (by rw [s91]; exact k2)
      have e102 := e102 s
      have f102 := V102t (ro := ro) (d := d + 2) s hn
      have e127 := V127 (ro := ro) (d := d + 2) (15 + p) (by omega) n s
      rw [s91] at e127
      simp (disch := first | assumption | omega | exact zb_fit | exact hbf .. | (simp (disch := omega) only [up_no, up_nk, up_at, u_cp_no] <;> (first | assumption | omega)) | (simp only [hkF] <;> omega) | decide) only [E131, S131, e103, e102, f102, e127, z_eq, Nat.reduceEqDiff, hkF, z_add, z_mul, up_at, up_no, up_nk, u_cp_no, ma_bd, ↓reduceIte, if_true, if_false, Option.toList, List.nil_append, List.cons_append]
    · refine G_deed hG hg p hp (fun j => if j = 5 then n else vD (σ 91) p j) ?_ ?_ (fun j hj => ?_) (fun o h1 h2 => by rw [up_no h1, up_no (by omega)])
      · obtain ⟨g1, g2, g3, g4⟩ := hI
        exact ⟨g1, g2, Rg_of (by decide) hn, g4⟩
      · rw [up_S, up_no (by omega), setD_up5 _ _ (by omega)]
      · rw [ea, up_no (by omega)]
        by_cases h4 : j = 5
        · subst h4; rw [up_at]; rfl
        · rw [up_nk h4, if_neg h4]
          by_cases h3 : 3 ≤ j
          · rw [if_pos h3]; exact dd j hj
          · rw [if_neg h3]
  · have d4 : σ (2 + 1 + 1 + 2 * p) 6 = σ 91 (21 + p) := dd 6 (by decide)
    by_cases hn : n < nI 0 ∨ nI 9 < n
    · have f88 := V88t (ro := ro) (d := d + 2) σ hn
      have f102 := V102f (ro := ro) (d := d + 2) σ hn
      have e103 := e103 σ k2
      have e102 := e102 σ
      exact ⟨_, σ, σ, by simp (disch := first | assumption | omega | exact zb_fit | exact hbf .. | (simp (disch := omega) only [up_no, up_nk, up_at, u_cp_no] <;> (first | assumption | omega)) | (simp only [hkF] <;> omega) | decide) only [E63, S63, e50, e88, f88, z_eq, Nat.reduceEqDiff, hkF, z_add, z_mul, up_at, up_no, up_nk, u_cp_no, ma_bd, ↓reduceIte, if_true, if_false, Option.toList, List.nil_append, List.cons_append]; rfl, by simp (disch := first | assumption | omega | exact zb_fit | exact hbf .. | (simp (disch := omega) only [up_no, up_nk, up_at, u_cp_no] <;> (first | assumption | omega)) | (simp only [hkF] <;> omega) | decide) only [E131, S131, e103, e102, f102, z_eq, Nat.reduceEqDiff, hkF, z_add, z_mul, up_at, up_no, up_nk, u_cp_no, ma_bd, ↓reduceIte, if_true, if_false, Option.toList, List.nil_append, List.cons_append], hG⟩
    have f88 := V88f (ro := ro) (d := d + 2) σ hn
    refine ⟨σ 91 (21 + p), ma_up σ (2 + 1 + 1 + 2 * p) 6 n, ma_up (ma_up σ (2 + 1 + 1 + 2 * p) 6 n) 91 (21 + p) n, ?_, ?_, ?_⟩
    · simp (disch := first | assumption | omega | exact zb_fit | exact hbf .. | (simp (disch := omega) only [up_no, up_nk, up_at, u_cp_no] <;> (first | assumption | omega)) | (simp only [hkF] <;> omega) | decide) only [E63, S63, e50, e88, f88, d4, z_eq, Nat.reduceEqDiff, hkF, z_add, z_mul, up_at, up_no, up_nk, u_cp_no, ma_bd, ↓reduceIte, if_true, if_false, Option.toList, List.nil_append, List.cons_append]
    · generalize hs : ma_up σ (2 + 1 + 1 + 2 * p) 6 n = s
      have s91 : s 91 = σ 91 := by rw [← hs, up_no (by omega)]
      have e103 := e103 s (by rw [s91]; exact k2)
      have e102 := e102 s
      have f102 := V102t (ro := ro) (d := d + 2) s hn
      have e127 := V127 (ro := ro) (d := d + 2) (21 + p) (by omega) n s
      rw [s91] at e127
      simp (disch := first | assumption | omega | exact zb_fit | exact hbf .. | (simp (disch := omega) only [up_no, up_nk, up_at, u_cp_no] <;> (first | assumption | omega)) | (simp only [hkF] <;> omega) | decide) only [E131, S131, e103, e102, f102, e127, z_eq, Nat.reduceEqDiff, hkF, z_add, z_mul, up_at, up_no, up_nk, u_cp_no, ma_bd, ↓reduceIte, if_true, if_false, Option.toList, List.nil_append, List.cons_append]
    · refine G_deed hG hg p hp (fun j => if j = 6 then n else vD (σ 91) p j) ?_ ?_ (fun j hj => ?_) (fun o h1 h2 => by rw [up_no h1, up_no (by omega)])
      · obtain ⟨g1, g2, g3, g4, g5⟩ := hI
        exact ⟨g1, g2, g3, Rg_of (by decide) hn, g5⟩
      · rw [up_S, up_no (by omega), setD_up6 _ _ (by omega)]
      · rw [ea, up_no (by omega)]
        by_cases h4 : j = 6
        · subst h4; rw [up_at]; rfl
        · rw [up_nk h4, if_neg h4]
          by_cases h3 : 3 ≤ j
          · rw [if_pos h3]; exact dd j hj
          · rw [if_neg h3]
theorem V10 {ro : ma_RO} {d : Nat} (σ : ma_H) (a k : Nat) (hk : k < 4) (n : Int32) (kd : hkDd a) : ma_ev ro d 10 [.ref a, .int (nI k), .int n] SH σ = some (none, SH, ma_up σ (a + 1) k n) := by
  obtain ⟨a1, a2, a3⟩ := kd
  have hl : k < hk_len (a + 1) := by omega
  simp (disch := first | assumption | omega | exact zb_fit | exact hbf .. | (simp (disch := omega) only [up_no, up_nk, up_at, u_cp_no] <;> (first | assumption | omega)) | (simp only [hkF] <;> omega) | decide) only [E10, S10, z_lt, Nat.not_lt_zero, a3, hk, hkF, z_add, z_mul, up_at, up_no, up_nk, u_cp_no, ma_bd, ↓reduceIte, if_true, if_false, Option.toList, List.nil_append, List.cons_append]
theorem C62 {ro : ma_RO} {d : Nat} (σ : ma_H) (hG : G σ) (x y n : Int32) : ∃ r σ1 σ2, ma_ev ro (d + 3) 62 [.ref 0, .int x, .int y, .int n] SH σ = some (some (.int r), SH, σ1) ∧ ma_ev ro (d + 3) 130 [.ref 90, .int x, .int y, .int n] SH σ1 = some (some (.int r), SH, σ2) ∧ G σ2 := by
  obtain ⟨nd, cs, wo, hg⟩ := hG.1
  obtain ⟨h1, h2, h3, h4, h5, h6, h7, h8, h9, h10, h11, h12, h13, h14, h15, h16, h17, h18, h19, h20, h21⟩ := GS_open hg
  have kw := hkWh_1.2.1
  have w1 := h15.1
  rcases Or.symm (dcases x nd (by omega)) with hx | ⟨p, hp, rfl⟩
  · have e50 := V50n (ro := ro) (d := d + 2) σ 2 nd x kw w1 hx
    have e103 := V103n (ro := ro) (d := d + 1) σ x nd h1 h2 hx
    exact ⟨_, σ, σ, by simp (disch := first | assumption | omega | exact zb_fit | exact hbf .. | (simp (disch := omega) only [up_no, up_nk, up_at, u_cp_no] <;> (first | assumption | omega)) | (simp only [hkF] <;> omega) | decide) only [E62, S62, e50, hkF, z_add, z_mul, up_at, up_no, up_nk, u_cp_no, ma_bd, ↓reduceIte, if_true, if_false, Option.toList, List.nil_append, List.cons_append]; rfl, by simp (disch := first | assumption | omega | exact zb_fit | exact hbf .. | (simp (disch := omega) only [up_no, up_nk, up_at, u_cp_no] <;> (first | assumption | omega)) | (simp only [hkF] <;> omega) | decide) only [E130, S130, e103, z_eq, Nat.reduceEqDiff, hkF, z_add, z_mul, up_at, up_no, up_nk, u_cp_no, ma_bd, ↓reduceIte, if_true, if_false, Option.toList, List.nil_append, List.cons_append], hG⟩
  have e50 := V50 (ro := ro) (d := d + 2) σ 2 p nd kw w1 h1 hp
  have kd := kw.2.2.2 p (by omega)
  have kd1 := kd.1
  have e103 := fun s h => V103p (ro := ro) (d := d + 1) s p nd h1 h hp
  by_cases h : y < nI 0 ∨ nI 3 < y
  · have e88 := V88t (ro := ro) (d := d + 2) σ h
    have e102 := V102f (ro := ro) (d := d + 2) σ h
    have e103 := e103 σ h2
    exact ⟨_, σ, σ, by simp (disch := first | assumption | omega | exact zb_fit | exact hbf .. | (simp (disch := omega) only [up_no, up_nk, up_at, u_cp_no] <;> (first | assumption | omega)) | (simp only [hkF] <;> omega) | decide) only [E62, S62, e50, e88, z_eq, Nat.reduceEqDiff, hkF, z_add, z_mul, up_at, up_no, up_nk, u_cp_no, ma_bd, ↓reduceIte, if_true, if_false, Option.toList, List.nil_append, List.cons_append]; rfl, by simp (disch := first | assumption | omega | exact zb_fit | exact hbf .. | (simp (disch := omega) only [up_no, up_nk, up_at, u_cp_no] <;> (first | assumption | omega)) | (simp only [hkF] <;> omega) | decide) only [E130, S130, e103, e102, z_eq, Nat.reduceEqDiff, hkF, z_add, z_mul, up_at, up_no, up_nk, u_cp_no, ma_bd, ↓reduceIte, if_true, if_false, Option.toList, List.nil_append, List.cons_append], hG⟩
  have e88 := V88f (ro := ro) (d := d + 2) σ h
  have e102 := fun s => V102t (ro := ro) (d := d + 2) s h
  obtain ⟨k, hk, rfl⟩ := Rg_of (by decide) h
  by_cases hn : n < nI 0 ∨ nI 9 < n
  · have f88 := V88t (ro := ro) (d := d + 2) σ hn
    have f102 := V102f (ro := ro) (d := d + 2) σ hn
    have e103 := e103 σ h2
    have e102 := e102 σ
    exact ⟨_, σ, σ, by simp (disch := first | assumption | omega | exact zb_fit | exact hbf .. | (simp (disch := omega) only [up_no, up_nk, up_at, u_cp_no] <;> (first | assumption | omega)) | (simp only [hkF] <;> omega) | decide) only [E62, S62, e50, e88, f88, z_eq, Nat.reduceEqDiff, hkF, z_add, z_mul, up_at, up_no, up_nk, u_cp_no, ma_bd, ↓reduceIte, if_true, if_false, Option.toList, List.nil_append, List.cons_append]; rfl, by simp (disch := first | assumption | omega | exact zb_fit | exact hbf .. | (simp (disch := omega) only [up_no, up_nk, up_at, u_cp_no] <;> (first | assumption | omega)) | (simp only [hkF] <;> omega) | decide) only [E130, S130, e103, e102, f102, z_eq, Nat.reduceEqDiff, hkF, z_add, z_mul, up_at, up_no, up_nk, u_cp_no, ma_bd, ↓reduceIte, if_true, if_false, Option.toList, List.nil_append, List.cons_append], hG⟩
  have f88 := V88f (ro := ro) (d := d + 2) σ hn
  have f102 := fun s => V102t (ro := ro) (d := d + 2) s hn
  have dd := (h15.2.2.2.2 p hp).1
  have d1 : σ (2 + 1 + 1 + 2 * p) 1 = σ 91 (40 + p) := dd 1 (by decide)
  have p1 : 40 + p < 933 := by omega
  by_cases h6' : σ 91 (40 + p) = nI 6
  · have e9 := V9 (ro := ro) (d := d + 2) σ (2 + 1 + 1 + 2 * p) k (by omega) kd.1 kd.2.1 kd.2.2
    have e10 := V10 (ro := ro) (d := d + 2) σ (2 + 1 + 1 + 2 * p) k (by omega) n kd
    have dr : σ (2 + 1 + 1 + 2 * p + 1) k = σ 91 (52 + 4 * p + k) := (h15.2.2.2.2 p hp).2 k (by omega)
    have hbf : ma_bef [some (Value.ref 0), some (Value.int (nI p)), some (Value.int (nI k)), some (Value.int n), some (Value.ref (2 + 1 + 1 + 2 * p)), none] 5 = false := rfl
    refine ⟨σ 91 (52 + 4 * p + k), ma_up σ (2 + 1 + 1 + 2 * p + 1) k n, ma_up (ma_up σ (2 + 1 + 1 + 2 * p + 1) k n) 91 (52 + 4 * p + k) n, ?_, ?_, ?_⟩
    · simp (disch := first | assumption | omega | exact zb_fit | exact hbf .. | (simp (disch := omega) only [up_no, up_nk, up_at, u_cp_no] <;> (first | assumption | omega)) | (simp only [hkF] <;> omega) | decide) only [E62, S62, e50, e88, f88, d1, h6', e9, dr, e10, z_eq, Nat.reduceEqDiff, hkF, z_add, z_mul, up_at, up_no, up_nk, u_cp_no, ma_bd, ↓reduceIte, if_true, if_false, Option.toList, List.nil_append, List.cons_append]
    · generalize hs : ma_up σ (2 + 1 + 1 + 2 * p + 1) k n = s
      have s91 : s 91 = σ 91 := by rw [← hs, up_no (by omega)]
      have e103 := e103 s (by rw [s91]; exact h2)
      have e102 := e102 s
      have f102 := f102 s
      have e127 := V127 (ro := ro) (d := d + 2) (52 + 4 * p + k) (by omega) n s
      rw [s91] at e127
      have h6'' : s 91 (40 + p) = nI 6 := by rw [s91]; exact h6'
      simp (disch := first | assumption | omega | exact zb_fit | exact hbf .. | (simp (disch := omega) only [up_no, up_nk, up_at, u_cp_no] <;> (first | assumption | omega)) | (simp only [hkF] <;> omega) | decide) only [E130, S130, e103, e102, f102, h6'', e127, z_eq, Nat.reduceEqDiff, hkF, z_add, z_mul, up_at, up_no, up_nk, u_cp_no, ma_bd, ↓reduceIte, if_true, if_false, Option.toList, List.nil_append, List.cons_append]
    · have e : ∀ j, ¬ j = 52 + 4 * p + k → ma_up (ma_up σ (2 + 1 + 1 + 2 * p + 1) k n) 91 (52 + 4 * p + k) n 91 j = σ 91 j := fun j hj => by rw [up_nk hj, up_no (by omega)]
      have a : ∀ o, ¬ o = 91 → ¬ o = 5 + 2 * p → ma_up (ma_up σ (2 + 1 + 1 + 2 * p + 1) k n) 91 (52 + 4 * p + k) n o = σ o := fun o o1 o2 => by rw [up_no o1, up_no (by omega)]
      generalize hs2 : ma_up (ma_up σ (2 + 1 + 1 + 2 * p + 1) k n) 91 (52 + 4 * p + k) n = s2
      rw [hs2] at e a
      have x91 : s2 91 (52 + 4 * p + k) = n := by rw [← hs2, up_at]
      have x5 : ∀ j, s2 (2 + 1 + 1 + 2 * p + 1) j = if j = k then n else σ (2 + 1 + 1 + 2 * p + 1) j := fun j => by
        rw [← hs2, up_no (by omega)]
        by_cases hj : j = k
        · subst hj; rw [up_at, if_pos rfl]
        · rw [up_nk hj, if_neg hj]
      refine G_mk hG ⟨nd, cs, wo, GS_mk h1 (by rw [e 33 (by omega)]; exact h2) h3 (HMr_c2 (e 39 (by omega)) (fun k hk => e k (by omega)) h4) (IvAc h1 (fun k h1 h2 => e k (by omega)) (fun k h1 h2 => e k (by omega)) h5) (by rw [e 0 (by omega)]; exact h6) (by rw [e 1 (by omega)]; exact h7) (by rw [e 2 (by omega)]; exact h8) (fun q hq => ?_) (q6c (e 34 (by omega)) (e 39 (by omega)) h10) (q7c (Nat.le_refl _) (e 35 (by omega)) (fun k h1 h2 => e k (by omega)) h11) (q8c (Nat.le_refl _) (e 36 (by omega)) (fun k h1 h2 => e k (by omega)) h12) (q9c (Nat.le_refl _) (e 37 (by omega)) (fun k h1 h2 => e k (by omega)) h13) (q10c (e 38 (by omega)) (fun k h1 h2 => e k (by omega)) h14) ?_ (HXr_congr (fun o h1 h2 => a o (by omega) (by omega)) h16) (by rw [a 1 (by omega) (by omega), e 34 (by omega)]; exact h17) (t4c (by rw [a 1 (by omega) (by omega)]) (a _ (by omega) (by omega)) (e 38 (by omega)) (fun k h1 h2 => e k (by omega)) h18) (t5c (fun o h1 h2 => a o (by omega) (by omega)) (e 35 (by omega)) (fun k h1 h2 => e k (by omega)) h19) (t6c (fun o h1 h2 => a o (by omega) (by omega)) (e 36 (by omega)) (fun k h1 h2 => e k (by omega)) h20) (t7c (fun o h1 h2 => a o (by omega) (by omega)) (e 37 (by omega)) (fun k h1 h2 => e k (by omega)) h21)⟩ (fun o ho => a o (by omega) (by omega)) (fun q hq => by rw [a _ (by omega) (by omega)]; exact hG.2.1 q hq) (by rw [a 90 (by omega) (by omega)]) (by rw [a 90 (by omega) (by omega)])
      · obtain ⟨g1, g2, g3⟩ := h9 q hq
        refine ⟨by rw [e _ (by omega)]; exact g1, by rw [e _ (by omega)]; exact g2, fun j hj => ?_⟩
        by_cases hj2 : 52 + 4 * q + j = 52 + 4 * p + k
        · rw [hj2, x91]; exact Rg_of (by decide) hn
        · rw [e _ hj2]; exact g3 j hj
      · obtain ⟨w1, w2, w3, w4, w5⟩ := h15
        have a2 := a 2 (by omega) (by omega)
        refine ⟨by rw [a2]; exact w1, by rw [a2, e 1 (by omega)]; exact w2, by rw [a2, e 0 (by omega)]; exact w3, by rw [a2, e 2 (by omega)]; exact w4, fun q hq => ?_⟩
        obtain ⟨g1, g2⟩ := w5 q hq
        refine ⟨fun j hj => by rw [a _ (by omega) (by omega), vD_c h1 hq (fun k h1 h2 => e k (by omega)) (fun k h1 h2 => e k (by omega))]; exact g1 j hj, fun j hj => ?_⟩
        by_cases hqp : q = p
        · subst hqp
          refine (x5 j).trans ?_
          by_cases hjk : j = k
          · subst hjk; rw [if_pos rfl]; exact x91.symm
          · rw [if_neg hjk]; exact (g2 j hj).trans (e _ (by omega)).symm
        · rw [a _ (by omega) (by omega)]
          exact (g2 j hj).trans (e _ (by omega)).symm
  · have e103 := e103 σ h2
    have e102 := e102 σ
    have f102 := f102 σ
    exact ⟨_, σ, σ, by simp (disch := first | assumption | omega | exact zb_fit | exact hbf .. | (simp (disch := omega) only [up_no, up_nk, up_at, u_cp_no] <;> (first | assumption | omega)) | (simp only [hkF] <;> omega) | decide) only [E62, S62, e50, e88, f88, d1, h6', z_eq, Nat.reduceEqDiff, hkF, z_add, z_mul, up_at, up_no, up_nk, u_cp_no, ma_bd, ↓reduceIte, if_true, if_false, Option.toList, List.nil_append, List.cons_append]; rfl, by simp (disch := first | assumption | omega | exact zb_fit | exact hbf .. | (simp (disch := omega) only [up_no, up_nk, up_at, u_cp_no] <;> (first | assumption | omega)) | (simp only [hkF] <;> omega) | decide) only [E130, S130, e103, e102, f102, h6', z_eq, Nat.reduceEqDiff, hkF, z_add, z_mul, up_at, up_no, up_nk, u_cp_no, ma_bd, ↓reduceIte, if_true, if_false, Option.toList, List.nil_append, List.cons_append], hG⟩
