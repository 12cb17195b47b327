/-! The calls count, trace, struck, row, set. -/
theorem lt_m1 {x : Int32} {n : Nat} (hn : n ≤ 2 ^ 30) (h : x < nI 0 ∨ ¬ x < nI n) : x < nI 0 ∨ nI n - nI 1 < x := by
  by_cases h1 : x < nI 0
  · exact .inl h1
  · refine .inr ?_
    have h3 : ¬ x < nI n := by rcases h with h | h; exact absurd h h1; exact h
    rw [Int32.lt_iff_toInt_lt] at h1 h3 ⊢
    rw [nI_toInt (by omega)] at h3
    rw [z0_toInt] at h1
    by_cases h0 : n = 0
    · subst h0
      rw [show (nI 0 - nI 1).toInt = -1 by decide]; omega
    · rw [z_sub (show 1 ≤ n by omega), nI_toInt (by omega)]; omega
theorem C83 {ro : ma_RO} {d : Nat} (σ : ma_H) (hG : G σ) (x : Int32) : ∃ r σ1 σ2, ma_ev ro (d + 3) 83 [.ref 0, .int x] SH σ = some (some (.int r), SH, σ1) ∧ ma_ev ro (d + 3) 173 [.ref 90, .int x] SH σ1 = some (some (.int r), SH, σ2) ∧ G σ2 := by
  obtain ⟨rn, b1, b2, b3, b4⟩ := hG.2.2.2
  have ha : hk_alen 87 = 20 := rfl
  obtain ⟨m, hm, hmr⟩ : ∃ m, m ≤ 20 ∧ m = if rn < 20 then rn else 20 := ⟨_, by split <;> omega, rfl⟩
  rcases dcases x m (by omega) with ⟨k, hk, rfl⟩ | hx
  · have hk1 : k < rn := by split at hmr <;> omega
    have hk2 : k < 20 := by omega
    have hl : k < hk_len 87 := hk2
    have hl2 : k < hk_len 96 := hk2
    have hb := b4 k hk1 hk2
    have e102 := V102t (ro := ro) (d := d + 2) σ (n := nI k) (m := nI m - nI 1) (by rw [z_sub (by omega), z_lt (by omega) (by omega), z_lt (by omega) (by omega)]; omega)
    refine ⟨_, σ, σ, by simp (disch := first | assumption | omega | exact zb_fit | exact hbf .. | (simp (disch := omega) only [up_no, up_nk, up_at, u_cp_no] <;> (first | assumption | omega)) | (simp only [hkF] <;> omega) | decide) only [E83, S83, E2, S2, b2, z_lt, Nat.not_lt_zero, hk1, ha, hk2, hb, hkF, z_add, z_mul, up_at, up_no, up_nk, u_cp_no, ma_bd, ↓reduceIte, if_true, if_false, Option.toList, List.nil_append, List.cons_append]; rfl, ?_, hG⟩
    by_cases h20 : rn < 20
    · rw [if_pos h20] at hmr
      subst hmr
      simp (disch := first | assumption | omega | exact zb_fit | exact hbf .. | (simp (disch := omega) only [up_no, up_nk, up_at, u_cp_no] <;> (first | assumption | omega)) | (simp only [hkF] <;> omega) | decide) only [E173, S173, b3, z_lt, h20, e102, z_eq, Nat.reduceEqDiff, hkF, z_add, z_mul, up_at, up_no, up_nk, u_cp_no, ma_bd, ↓reduceIte, if_true, if_false, Option.toList, List.nil_append, List.cons_append]
    · rw [if_neg h20] at hmr
      subst hmr
      simp (disch := first | assumption | omega | exact zb_fit | exact hbf .. | (simp (disch := omega) only [up_no, up_nk, up_at, u_cp_no] <;> (first | assumption | omega)) | (simp only [hkF] <;> omega) | decide) only [E173, S173, b3, z_lt, h20, e102, z_eq, Nat.reduceEqDiff, hkF, z_add, z_mul, up_at, up_no, up_nk, u_cp_no, ma_bd, ↓reduceIte, if_true, if_false, Option.toList, List.nil_append, List.cons_append]
  · have hy := lt_m1 (by omega) hx
    have e102 := V102f (ro := ro) (d := d + 2) σ hy
    refine ⟨-1, σ, σ, ?_, ?_, hG⟩
    · by_cases h1 : x < nI 0
      · simp (disch := first | assumption | omega | exact zb_fit | exact hbf .. | (simp (disch := omega) only [up_no, up_nk, up_at, u_cp_no] <;> (first | assumption | omega)) | (simp only [hkF] <;> omega) | decide) only [E83, S83, E2, S2, h1, hkF, z_add, z_mul, up_at, up_no, up_nk, u_cp_no, ma_bd, ↓reduceIte, if_true, if_false, Option.toList, List.nil_append, List.cons_append]
      · have h3 : ¬ x < nI m := by rcases hx with h | h; exact absurd h h1; exact h
        by_cases h4 : x < nI rn
        · have h5 : ¬ x < nI 20 := by
            by_cases h20 : rn < 20
            · rw [if_pos h20] at hmr; rw [hmr] at h3; exact absurd h4 h3
            · rw [if_neg h20] at hmr; rw [hmr] at h3; exact h3
          simp (disch := first | assumption | omega | exact zb_fit | exact hbf .. | (simp (disch := omega) only [up_no, up_nk, up_at, u_cp_no] <;> (first | assumption | omega)) | (simp only [hkF] <;> omega) | decide) only [E83, S83, E2, S2, b2, h1, h4, ha, h5, hkF, z_add, z_mul, up_at, up_no, up_nk, u_cp_no, ma_bd, ↓reduceIte, if_true, if_false, Option.toList, List.nil_append, List.cons_append]
        · simp (disch := first | assumption | omega | exact zb_fit | exact hbf .. | (simp (disch := omega) only [up_no, up_nk, up_at, u_cp_no] <;> (first | assumption | omega)) | (simp only [hkF] <;> omega) | decide) only [E83, S83, E2, S2, b2, h1, h4, ha, hkF, z_add, z_mul, up_at, up_no, up_nk, u_cp_no, ma_bd, ↓reduceIte, if_true, if_false, Option.toList, List.nil_append, List.cons_append]
    · by_cases h20 : rn < 20
      · rw [if_pos h20] at hmr
        subst hmr
        simp (disch := first | assumption | omega | exact zb_fit | exact hbf .. | (simp (disch := omega) only [up_no, up_nk, up_at, u_cp_no] <;> (first | assumption | omega)) | (simp only [hkF] <;> omega) | decide) only [E173, S173, b3, z_lt, h20, e102, z_eq, Nat.reduceEqDiff, hkF, z_add, z_mul, up_at, up_no, up_nk, u_cp_no, ma_bd, ↓reduceIte, if_true, if_false, Option.toList, List.nil_append, List.cons_append]
      · rw [if_neg h20] at hmr
        subst hmr
        simp (disch := first | assumption | omega | exact zb_fit | exact hbf .. | (simp (disch := omega) only [up_no, up_nk, up_at, u_cp_no] <;> (first | assumption | omega)) | (simp only [hkF] <;> omega) | decide) only [E173, S173, b3, z_lt, h20, e102, z_eq, Nat.reduceEqDiff, hkF, z_add, z_mul, up_at, up_no, up_nk, u_cp_no, ma_bd, ↓reduceIte, if_true, if_false, Option.toList, List.nil_append, List.cons_append]
theorem C87 {ro : ma_RO} {d : Nat} (σ : ma_H) (hG : G σ) (x : Int32) : ∃ r σ1 σ2, ma_ev ro (d + 3) 87 [.ref 0, .int x] SH σ = some (some (.int r), SH, σ1) ∧ ma_ev ro (d + 3) 177 [.ref 90, .int x] SH σ1 = some (some (.int r), SH, σ2) ∧ G σ2 := by
  obtain ⟨nd, cs, wo, hg⟩ := hG.1
  obtain ⟨h1, h2, h3, h4, h5, h6, h7, h8, h9, h10, h11, h12, h13, h14, h15, h16, h17, ⟨n4, a4, b4, c4, -⟩, ⟨n5, a5, b5, c5, -⟩, ⟨n6, a6, b6, c6, -⟩, ⟨n7, a7, b7, c7, -⟩⟩ := GS_open hg
  obtain ⟨rn, r1, r2, r3, -⟩ := hG.2.2.2
  have w1 : σ 2 1 = nI nd := h15.1
  have c5' : σ 21 3 = nI n5 := c5.1
  have c6' : σ 25 3 = nI n6 := c6
  have c7' : σ 29 3 = nI n7 := c7
  by_cases h : x < nI 0 ∨ nI 6 < x
  · have n0 : ∀ k, k ≤ 6 → ¬ x = nI k := by
      rintro k hk rfl
      rw [z_lt (by omega) (by decide), z_lt (by decide) (by omega)] at h
      omega
    have m0 := n0 0 (by decide)
    have m1 := n0 1 (by decide)
    have m2 := n0 2 (by decide)
    have m3 := n0 3 (by decide)
    have m4 := n0 4 (by decide)
    have m5 := n0 5 (by decide)
    have m6 := n0 6 (by decide)
    have e102 := V102f (ro := ro) (d := d + 2) σ (n := x) (m := nI 5) (h.elim .inl (fun h => .inr (by rw [Int32.lt_iff_toInt_lt] at h ⊢; rw [nI_toInt (by decide)] at h ⊢; omega)))
    exact ⟨_, σ, σ, by simp (disch := first | assumption | omega | exact zb_fit | exact hbf .. | (simp (disch := omega) only [up_no, up_nk, up_at, u_cp_no] <;> (first | assumption | omega)) | (simp only [hkF] <;> omega) | decide) only [E87, S87, m0, m1, m2, m3, m4, m5, m6, hkF, z_add, z_mul, up_at, up_no, up_nk, u_cp_no, ma_bd, ↓reduceIte, if_true, if_false, Option.toList, List.nil_append, List.cons_append]; rfl, by simp (disch := first | assumption | omega | exact zb_fit | exact hbf .. | (simp (disch := omega) only [up_no, up_nk, up_at, u_cp_no] <;> (first | assumption | omega)) | (simp only [hkF] <;> omega) | decide) only [E177, S177, m6, e102, z_eq, Nat.reduceEqDiff, hkF, z_add, z_mul, up_at, up_no, up_nk, u_cp_no, ma_bd, ↓reduceIte, if_true, if_false, Option.toList, List.nil_append, List.cons_append], hG⟩
  · obtain ⟨k, hk, rfl⟩ := Rg_of (by decide) h
    have hc : k = 6 ∨ k = 0 ∨ k = 1 ∨ k = 2 ∨ k = 3 ∨ k = 4 ∨ k = 5 := by omega
    rcases hc with rfl | hc
    · exact ⟨nI rn, σ, σ, by simp (disch := first | assumption | omega | exact zb_fit | exact hbf .. | (simp (disch := omega) only [up_no, up_nk, up_at, u_cp_no] <;> (first | assumption | omega)) | (simp only [hkF] <;> omega) | decide) only [E87, S87, r2, z_eq, Nat.reduceEqDiff, hkF, z_add, z_mul, up_at, up_no, up_nk, u_cp_no, ma_bd, ↓reduceIte, if_true, if_false, Option.toList, List.nil_append, List.cons_append], by simp (disch := first | assumption | omega | exact zb_fit | exact hbf .. | (simp (disch := omega) only [up_no, up_nk, up_at, u_cp_no] <;> (first | assumption | omega)) | (simp only [hkF] <;> omega) | decide) only [E177, S177, r3, z_eq, Nat.reduceEqDiff, hkF, z_add, z_mul, up_at, up_no, up_nk, u_cp_no, ma_bd, ↓reduceIte, if_true, if_false, Option.toList, List.nil_append, List.cons_append], hG⟩
    have e102 := V102t (ro := ro) (d := d + 2) σ (n := nI k) (m := nI 5) (by rw [z_lt (by omega) (by decide), z_lt (by decide) (by omega)]; omega)
    rcases hc with rfl | rfl | rfl | rfl | rfl | rfl
    · exact ⟨_, σ, σ, by simp (disch := first | assumption | omega | exact zb_fit | exact hbf .. | (simp (disch := omega) only [up_no, up_nk, up_at, u_cp_no] <;> (first | assumption | omega)) | (simp only [hkF] <;> omega) | decide) only [E87, S87, w1, z_eq, Nat.reduceEqDiff, hkF, z_add, z_mul, up_at, up_no, up_nk, u_cp_no, ma_bd, ↓reduceIte, if_true, if_false, Option.toList, List.nil_append, List.cons_append]; rfl, by simp (disch := first | assumption | omega | exact zb_fit | exact hbf .. | (simp (disch := omega) only [up_no, up_nk, up_at, u_cp_no] <;> (first | assumption | omega)) | (simp only [hkF] <;> omega) | decide) only [E177, S177, e102, h2, Nat.reduceAdd, z_eq, Nat.reduceEqDiff, hkF, z_add, z_mul, up_at, up_no, up_nk, u_cp_no, ma_bd, ↓reduceIte, if_true, if_false, Option.toList, List.nil_append, List.cons_append], hG⟩
    · exact ⟨_, σ, σ, by simp (disch := first | assumption | omega | exact zb_fit | exact hbf .. | (simp (disch := omega) only [up_no, up_nk, up_at, u_cp_no] <;> (first | assumption | omega)) | (simp only [hkF] <;> omega) | decide) only [E87, S87, h17, z_eq, Nat.reduceEqDiff, hkF, z_add, z_mul, up_at, up_no, up_nk, u_cp_no, ma_bd, ↓reduceIte, if_true, if_false, Option.toList, List.nil_append, List.cons_append]; rfl, by simp (disch := first | assumption | omega | exact zb_fit | exact hbf .. | (simp (disch := omega) only [up_no, up_nk, up_at, u_cp_no] <;> (first | assumption | omega)) | (simp only [hkF] <;> omega) | decide) only [E177, S177, e102, Nat.reduceAdd, z_eq, Nat.reduceEqDiff, hkF, z_add, z_mul, up_at, up_no, up_nk, u_cp_no, ma_bd, ↓reduceIte, if_true, if_false, Option.toList, List.nil_append, List.cons_append], hG⟩
    · exact ⟨_, σ, σ, by simp (disch := first | assumption | omega | exact zb_fit | exact hbf .. | (simp (disch := omega) only [up_no, up_nk, up_at, u_cp_no] <;> (first | assumption | omega)) | (simp only [hkF] <;> omega) | decide) only [E87, S87, c5', Nat.reduceAdd, z_eq, Nat.reduceEqDiff, hkF, z_add, z_mul, up_at, up_no, up_nk, u_cp_no, ma_bd, ↓reduceIte, if_true, if_false, Option.toList, List.nil_append, List.cons_append]; rfl, by simp (disch := first | assumption | omega | exact zb_fit | exact hbf .. | (simp (disch := omega) only [up_no, up_nk, up_at, u_cp_no] <;> (first | assumption | omega)) | (simp only [hkF] <;> omega) | decide) only [E177, S177, e102, b5, Nat.reduceAdd, z_eq, Nat.reduceEqDiff, hkF, z_add, z_mul, up_at, up_no, up_nk, u_cp_no, ma_bd, ↓reduceIte, if_true, if_false, Option.toList, List.nil_append, List.cons_append], hG⟩
    · exact ⟨_, σ, σ, by simp (disch := first | assumption | omega | exact zb_fit | exact hbf .. | (simp (disch := omega) only [up_no, up_nk, up_at, u_cp_no] <;> (first | assumption | omega)) | (simp only [hkF] <;> omega) | decide) only [E87, S87, c6', Nat.reduceAdd, z_eq, Nat.reduceEqDiff, hkF, z_add, z_mul, up_at, up_no, up_nk, u_cp_no, ma_bd, ↓reduceIte, if_true, if_false, Option.toList, List.nil_append, List.cons_append]; rfl, by simp (disch := first | assumption | omega | exact zb_fit | exact hbf .. | (simp (disch := omega) only [up_no, up_nk, up_at, u_cp_no] <;> (first | assumption | omega)) | (simp only [hkF] <;> omega) | decide) only [E177, S177, e102, b6, Nat.reduceAdd, z_eq, Nat.reduceEqDiff, hkF, z_add, z_mul, up_at, up_no, up_nk, u_cp_no, ma_bd, ↓reduceIte, if_true, if_false, Option.toList, List.nil_append, List.cons_append], hG⟩
    · exact ⟨_, σ, σ, by simp (disch := first | assumption | omega | exact zb_fit | exact hbf .. | (simp (disch := omega) only [up_no, up_nk, up_at, u_cp_no] <;> (first | assumption | omega)) | (simp only [hkF] <;> omega) | decide) only [E87, S87, c7', Nat.reduceAdd, z_eq, Nat.reduceEqDiff, hkF, z_add, z_mul, up_at, up_no, up_nk, u_cp_no, ma_bd, ↓reduceIte, if_true, if_false, Option.toList, List.nil_append, List.cons_append]; rfl, by simp (disch := first | assumption | omega | exact zb_fit | exact hbf .. | (simp (disch := omega) only [up_no, up_nk, up_at, u_cp_no] <;> (first | assumption | omega)) | (simp only [hkF] <;> omega) | decide) only [E177, S177, e102, b7, Nat.reduceAdd, z_eq, Nat.reduceEqDiff, hkF, z_add, z_mul, up_at, up_no, up_nk, u_cp_no, ma_bd, ↓reduceIte, if_true, if_false, Option.toList, List.nil_append, List.cons_append], hG⟩
    · exact ⟨_, σ, σ, by simp (disch := first | assumption | omega | exact zb_fit | exact hbf .. | (simp (disch := omega) only [up_no, up_nk, up_at, u_cp_no] <;> (first | assumption | omega)) | (simp only [hkF] <;> omega) | decide) only [E87, S87, c4, z_eq, Nat.reduceEqDiff, hkF, z_add, z_mul, up_at, up_no, up_nk, u_cp_no, ma_bd, ↓reduceIte, if_true, if_false, Option.toList, List.nil_append, List.cons_append]; rfl, by simp (disch := first | assumption | omega | exact zb_fit | exact hbf .. | (simp (disch := omega) only [up_no, up_nk, up_at, u_cp_no] <;> (first | assumption | omega)) | (simp only [hkF] <;> omega) | decide) only [E177, S177, e102, b4, Nat.reduceAdd, z_eq, Nat.reduceEqDiff, hkF, z_add, z_mul, up_at, up_no, up_nk, u_cp_no, ma_bd, ↓reduceIte, if_true, if_false, Option.toList, List.nil_append, List.cons_append], hG⟩
theorem C81 {ro : ma_RO} {d : Nat} (σ : ma_H) (hG : G σ) : ∃ r σ1 σ2, ma_ev ro (d + 4) 81 [.ref 0] SH σ = some (some (.int r), SH, σ1) ∧ ma_ev ro (d + 4) 163 [.ref 90] SH σ1 = some (some (.int r), SH, σ2) ∧ G σ2 := by
  obtain ⟨nd, cs, wo, hg⟩ := hG.1
  obtain ⟨h1, h2, h3, h4, h5, h6, h7, h8, h9, h10, h11, h12, h13, h14, h15, h16, h17, h18, h19, h20, ⟨n, n1, n2, n3, n4⟩⟩ := GS_open hg
  have kw := hkWh_1.2.1
  have kr : hkRw 29 8 := hkWh_1.2.2.2.2.2.2.2
  have n3' : σ 29 3 = nI n := n3
  have H : ∀ m k, k + m = n → ∀ v2, ∃ r, ma_rn ro (d + 4) 81 (2, [some (.ref 0), some (.int (nI k)), v2], [], SH, σ) = some (some (.int r), SH, σ) ∧ ma_rn ro (d + 4) 163 (2, [some (.ref 90), some (.int (nI k))], [], SH, σ) = some (some (.int r), SH, σ) := by
    intro m
    induction m with
    | zero =>
      intro k hk v2
      have hkn : ¬ k < n := by omega
      refine ⟨-5, ?_, ?_⟩
      · rw [Sh81_2]
        simp (disch := first | assumption | omega | exact zb_fit | exact hbf .. | (simp (disch := omega) only [up_no, up_nk, up_at, u_cp_no] <;> (first | assumption | omega)) | (simp only [hkF] <;> omega) | decide) only [S81, n3', z_lt, hkn, hkF, z_add, z_mul, up_at, up_no, up_nk, u_cp_no, ma_bd, ↓reduceIte, if_true, if_false, Option.toList, List.nil_append, List.cons_append]
      · rw [Sh163_2]
        simp (disch := first | assumption | omega | exact zb_fit | exact hbf .. | (simp (disch := omega) only [up_no, up_nk, up_at, u_cp_no] <;> (first | assumption | omega)) | (simp only [hkF] <;> omega) | decide) only [S163, n2, z_lt, hkn, hkF, z_add, z_mul, up_at, up_no, up_nk, u_cp_no, ma_bd, ↓reduceIte, if_true, if_false, Option.toList, List.nil_append, List.cons_append]
    | succ m ih =>
      intro k hk v2
      have hkn : k < n := by omega
      obtain ⟨⟨q, hq, hq'⟩, -⟩ := h13 n n1 n2 k hkn
      have g1 : σ 30 k = nI q := (n4 k hkn).1.trans hq'
      have g2 : σ 31 k = σ 91 (115 + k) := (n4 k hkn).2.1
      have e41 := V41 (ro := ro) (d := d + 2) σ 29 8 k kr (by omega)
      have e42 := V42 (ro := ro) (d := d + 2) σ 29 8 k kr (by omega)
      have e50 := V50 (ro := ro) (d := d + 3) σ 2 q nd kw h15.1 h1 hq
      have kd := kw.2.2.2 q (by omega)
      have kd1 := kd.1
      have g3 : σ (2 + 1 + 1 + 2 * q) 4 = σ 91 (9 + q) := (h15.2.2.2.2 q hq).1 4 (by decide)
      have p1 : 107 + k < 933 := by omega
      have p2 : 115 + k < 933 := by omega
      have p3 : 9 + q < 933 := by omega
      by_cases he : σ 91 (9 + q) = σ 91 (115 + k)
      · obtain ⟨r, e1, e2⟩ := ih (k + 1) (by omega) (some (.ref (2 + 1 + 1 + 2 * q)))
        refine ⟨r, ?_, ?_⟩
        · rw [← e1, Sh81_2]
          simp (disch := first | assumption | omega | exact zb_fit | exact hbf .. | (simp (disch := omega) only [up_no, up_nk, up_at, u_cp_no] <;> (first | assumption | omega)) | (simp only [hkF] <;> omega) | decide) only [S81, n3', z_lt, hkn, e41, g1, e50, g3, e42, g2, he, hkF, z_add, z_mul, up_at, up_no, up_nk, u_cp_no, ma_bd, ↓reduceIte, if_true, if_false, Option.toList, List.nil_append, List.cons_append]
        · rw [← e2, Sh163_2]
          simp (disch := first | assumption | omega | exact zb_fit | exact hbf .. | (simp (disch := omega) only [up_no, up_nk, up_at, u_cp_no] <;> (first | assumption | omega)) | (simp only [hkF] <;> omega) | decide) only [S163, n2, z_lt, hkn, hq', he, hkF, z_add, z_mul, up_at, up_no, up_nk, u_cp_no, ma_bd, ↓reduceIte, if_true, if_false, Option.toList, List.nil_append, List.cons_append]
      · refine ⟨nI k, ?_, ?_⟩
        · rw [Sh81_2]
          simp (disch := first | assumption | omega | exact zb_fit | exact hbf .. | (simp (disch := omega) only [up_no, up_nk, up_at, u_cp_no] <;> (first | assumption | omega)) | (simp only [hkF] <;> omega) | decide) only [S81, n3', z_lt, hkn, e41, g1, e50, g3, e42, g2, he, hkF, z_add, z_mul, up_at, up_no, up_nk, u_cp_no, ma_bd, ↓reduceIte, if_true, if_false, Option.toList, List.nil_append, List.cons_append]
        · rw [Sh163_2]
          simp (disch := first | assumption | omega | exact zb_fit | exact hbf .. | (simp (disch := omega) only [up_no, up_nk, up_at, u_cp_no] <;> (first | assumption | omega)) | (simp only [hkF] <;> omega) | decide) only [S163, n2, z_lt, hkn, hq', he, hkF, z_add, z_mul, up_at, up_no, up_nk, u_cp_no, ma_bd, ↓reduceIte, if_true, if_false, Option.toList, List.nil_append, List.cons_append]
  obtain ⟨r, e1, e2⟩ := H n 0 (by omega) none
  refine ⟨r, σ, σ, ?_, ?_, hG⟩
  · rw [← e1]
    simp (disch := first | assumption | omega | exact zb_fit | exact hbf .. | (simp (disch := omega) only [up_no, up_nk, up_at, u_cp_no] <;> (first | assumption | omega)) | (simp only [hkF] <;> omega) | decide) only [E81, S81, hkF, z_add, z_mul, up_at, up_no, up_nk, u_cp_no, ma_bd, ↓reduceIte, if_true, if_false, Option.toList, List.nil_append, List.cons_append]
  · rw [← e2]
    simp (disch := first | assumption | omega | exact zb_fit | exact hbf .. | (simp (disch := omega) only [up_no, up_nk, up_at, u_cp_no] <;> (first | assumption | omega)) | (simp only [hkF] <;> omega) | decide) only [E163, S163, hkF, z_add, z_mul, up_at, up_no, up_nk, u_cp_no, ma_bd, ↓reduceIte, if_true, if_false, Option.toList, List.nil_append, List.cons_append]
theorem setD_up4 (S : Nat → Int32) (p : Nat) (hp : p < 6) (n : Int32) : setD S p (fun j => if j = 4 then n else vD S p j) = upS S (9 + p) n := by
  funext k
  unfold setD upS
  by_cases h9 : k = 9 + p
  · subst h9; rw [if_neg (by omega), if_pos rfl, if_pos rfl]; rfl
  · rw [if_neg h9, if_neg h9]
    by_cases h3 : k = 3 + p
    · subst h3; rw [if_pos rfl]; rfl
    · rw [if_neg h3]
      by_cases h15 : k = 15 + p
      · subst h15; rw [if_pos rfl]; rfl
      · rw [if_neg h15]
        by_cases h21 : k = 21 + p
        · subst h21; rw [if_pos rfl]; rfl
        · rw [if_neg h21]
          by_cases h27 : k = 27 + p
          · subst h27; rw [if_pos rfl]; rfl
          · rw [if_neg h27]
theorem setD_up5 (S : Nat → Int32) (p : Nat) (hp : p < 6) (n : Int32) : setD S p (fun j => if j = 5 then n else vD S p j) = upS S (15 + p) n := by
  funext k
  unfold setD upS
  by_cases h15 : k = 15 + p
  · subst h15; rw [if_neg (by omega), if_neg (by omega), if_pos rfl, if_pos rfl]; rfl
  · rw [if_neg h15, if_neg h15]
    by_cases h3 : k = 3 + p
    · subst h3; rw [if_pos rfl]; rfl
    · rw [if_neg h3]
      by_cases h9 : k = 9 + p
      · subst h9; rw [if_pos rfl]; rfl
      · rw [if_neg h9]
        by_cases h21 : k = 21 + p
        · subst h21; rw [if_pos rfl]; rfl
        · rw [if_neg h21]
          by_cases h27 : k = 27 + p
          · subst h27; rw [if_pos rfl]; rfl
          · rw [if_neg h27]
theorem setD_up6 (S : Nat → Int32) (p : Nat) (hp : p < 6) (n : Int32) : setD S p (fun j => if j = 6 then n else vD S p j) = upS S (21 + p) n := by
  funext k
  unfold setD upS
  by_cases h21 : k = 21 + p
  · subst h21; rw [if_neg (by omega), if_neg (by omega), if_neg (by omega), if_pos rfl, if_pos rfl]; rfl
  · rw [if_neg h21, if_neg h21]
    by_cases h3 : k = 3 + p
    · subst h3; rw [if_pos rfl]; rfl
    · rw [if_neg h3]
      by_cases h9 : k = 9 + p
      · subst h9; rw [if_pos rfl]; rfl
      · rw [if_neg h9]
        by_cases h15 : k = 15 + p
        · subst h15; rw [if_pos rfl]; rfl
        · rw [if_neg h15]
          by_cases h27 : k = 27 + p
          · subst h27; rw [if_pos rfl]; rfl
          · rw [if_neg h27]
