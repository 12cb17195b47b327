/-! The calls see, feed. -/
theorem G_seen_add {σ : ma_H} (hG : G σ) {nd : Nat} {cs : List (Bool × Nat × List (Nat × Nat × Nat))} {wo : Int32} (hg : GS σ 1 (σ 91) nd cs wo) (n : Nat) (hn : n < 5) (n2 : σ 91 35 = nI n) (p : Nat) (hp : p < nd) (y z : Int32) (hy : Rg y 20) (hz : Rg z 1) :
    G (ma_up (ma_up (ma_up (ma_up (ma_up (ma_up (ma_up (ma_up σ 22 n (nI p)) 23 n y) 24 n z) 21 3 (nI (n + 1))) 91 (76 + n) (nI p)) 91 (81 + n) y) 91 (86 + n) z) 91 35 (nI (n + 1))) := by
  obtain ⟨h1, h2, h3, h4, h5, h6, h7, h8, h9, h10, h11, h12, h13, h14, h15, h16, h17, h18, ⟨n', m1, m2, m3, m4⟩, h20, h21⟩ := GS_open hg
  have hn' : n' = n := by have := m2.symm.trans n2; rw [z_eq (by omega) (by omega)] at this; exact this
  subst hn'
  refine G_seen hG hg (fun k g1 g2 => ?_) (fun o g1 g2 => ?_) (fun m hm1 hm2 k hk => ?_) ⟨n' + 1, by omega, up_at _ _ _ _, ⟨?_, fun k hk => ?_⟩, fun k hk => ?_⟩
  · rw [up_nk g1, up_nk (by omega), up_nk (by omega), up_nk (by omega), up_no (by decide), up_no (by decide), up_no (by decide), up_no (by decide)]
  · rw [up_no g1, up_no g1, up_no g1, up_no g1, up_no (by omega), up_no (by omega), up_no (by omega), up_no (by omega)]
  · rw [up_at, z_eq (by omega) (by omega)] at hm2
    subst hm2
    by_cases hkn : k = n'
    · subst hkn
      refine ⟨⟨p, hp, ?_⟩, ?_, ?_⟩
      · rw [up_nk (by omega), up_nk (by omega), up_nk (by omega), up_at]
      · rw [up_nk (by omega), up_nk (by omega), up_at]; exact hy
      · rw [up_nk (by omega), up_at]; exact hz
    · have := h11 n' m1 m2 k (by omega)
      refine ⟨?_, ?_, ?_⟩
      · rw [up_nk (by omega), up_nk (by omega), up_nk (by omega), up_nk (by omega), up_no (by decide), up_no (by decide), up_no (by decide), up_no (by decide)]; exact this.1
      · rw [up_nk (by omega), up_nk (by omega), up_nk (by omega), up_nk (by omega), up_no (by decide), up_no (by decide), up_no (by decide), up_no (by decide)]; exact this.2.1
      · rw [up_nk (by omega), up_nk (by omega), up_nk (by omega), up_nk (by omega), up_no (by decide), up_no (by decide), up_no (by decide), up_no (by decide)]; exact this.2.2
  · rw [up_no (by decide), up_no (by decide), up_no (by decide), up_no (by decide)]; exact up_at _ _ _ _
  · by_cases hkn : k = n'
    · subst hkn
      refine ⟨?_, ?_, ?_⟩
      · simp (disch := first | assumption | omega | exact zb_fit | exact hbf .. | (simp (disch := omega) only [up_no, up_nk, up_at, u_cp_no] <;> (first | assumption | omega)) | (simp only [hkF] <;> omega) | decide) only [Nat.reduceEqDiff, hkF, z_add, z_mul, up_at, up_no, up_nk, u_cp_no, ma_bd, ↓reduceIte, if_true, if_false, Option.toList, List.nil_append, List.cons_append]
      · simp (disch := first | assumption | omega | exact zb_fit | exact hbf .. | (simp (disch := omega) only [up_no, up_nk, up_at, u_cp_no] <;> (first | assumption | omega)) | (simp only [hkF] <;> omega) | decide) only [Nat.reduceEqDiff, hkF, z_add, z_mul, up_at, up_no, up_nk, u_cp_no, ma_bd, ↓reduceIte, if_true, if_false, Option.toList, List.nil_append, List.cons_append]
      · simp (disch := first | assumption | omega | exact zb_fit | exact hbf .. | (simp (disch := omega) only [up_no, up_nk, up_at, u_cp_no] <;> (first | assumption | omega)) | (simp only [hkF] <;> omega) | decide) only [Nat.reduceEqDiff, hkF, z_add, z_mul, up_at, up_no, up_nk, u_cp_no, ma_bd, ↓reduceIte, if_true, if_false, Option.toList, List.nil_append, List.cons_append]
        exact hz
    · have := m3.2 k (by omega)
      have q1 : ¬ k = n' := hkn
      refine ⟨?_, ?_, ?_⟩
      · simp (disch := first | assumption | omega | exact zb_fit | exact hbf .. | (simp (disch := omega) only [up_no, up_nk, up_at, u_cp_no] <;> (first | assumption | omega)) | (simp only [hkF] <;> omega) | decide) only [Nat.reduceEqDiff, hkF, z_add, z_mul, up_at, up_no, up_nk, u_cp_no, ma_bd, ↓reduceIte, if_true, if_false, Option.toList, List.nil_append, List.cons_append]
        exact this.1
      · simp (disch := first | assumption | omega | exact zb_fit | exact hbf .. | (simp (disch := omega) only [up_no, up_nk, up_at, u_cp_no] <;> (first | assumption | omega)) | (simp only [hkF] <;> omega) | decide) only [Nat.reduceEqDiff, hkF, z_add, z_mul, up_at, up_no, up_nk, u_cp_no, ma_bd, ↓reduceIte, if_true, if_false, Option.toList, List.nil_append, List.cons_append]
        exact this.2.1
      · simp (disch := first | assumption | omega | exact zb_fit | exact hbf .. | (simp (disch := omega) only [up_no, up_nk, up_at, u_cp_no] <;> (first | assumption | omega)) | (simp only [hkF] <;> omega) | decide) only [Nat.reduceEqDiff, hkF, z_add, z_mul, up_at, up_no, up_nk, u_cp_no, ma_bd, ↓reduceIte, if_true, if_false, Option.toList, List.nil_append, List.cons_append]
        exact this.2.2
  · by_cases hkn : k = n'
    · subst hkn
      simp (disch := first | assumption | omega | exact zb_fit | exact hbf .. | (simp (disch := omega) only [up_no, up_nk, up_at, u_cp_no] <;> (first | assumption | omega)) | (simp only [hkF] <;> omega) | decide) only [Nat.reduceEqDiff, hkF, z_add, z_mul, up_at, up_no, up_nk, u_cp_no, ma_bd, ↓reduceIte, if_true, if_false, Option.toList, List.nil_append, List.cons_append]
    · have := m4 k (by omega)
      simp (disch := first | assumption | omega | exact zb_fit | exact hbf .. | (simp (disch := omega) only [up_no, up_nk, up_at, u_cp_no] <;> (first | assumption | omega)) | (simp only [hkF] <;> omega) | decide) only [Nat.reduceEqDiff, hkF, z_add, z_mul, up_at, up_no, up_nk, u_cp_no, ma_bd, ↓reduceIte, if_true, if_false, Option.toList, List.nil_append, List.cons_append]
      exact this
theorem C72 {ro : ma_RO} {d : Nat} (σ : ma_H) (hG : G σ) (x y z : Int32) (hz : Rg z 1) : ∃ r σ1 σ2, ma_ev ro (d + 3) 72 [.ref 0, .int x, .int y, .int z] SH σ = some (some (.int r), SH, σ1) ∧ ma_ev ro (d + 3) 150 [.ref 90, .int x, .int y, .int z] SH σ1 = some (some (.int r), SH, σ2) ∧ G σ2 := by
  obtain ⟨nd, cs, wo, hg⟩ := hG.1
  obtain ⟨h1, h2, h3, h4, h5, h6, h7, h8, h9, h10, h11, h12, h13, h14, h15, h16, h17, h18, ⟨n, n1, n2, n3, n4⟩, h20, h21⟩ := GS_open hg
  have kw := hkWh_1.2.1
  have kr : hkRw 21 5 := hkWh_1.2.2.2.2.2.1
  have n3' : σ 21 3 = nI n := n3.1
  by_cases hm : x = -1
  · subst hm
    refine ⟨nI 0, ma_up σ 21 3 (nI 0), ma_up (ma_up σ 21 3 (nI 0)) 91 35 (nI 0), by simp (disch := first | assumption | omega | exact zb_fit | exact hbf .. | (simp (disch := omega) only [up_no, up_nk, up_at, u_cp_no] <;> (first | assumption | omega)) | (simp only [hkF] <;> omega) | decide) only [E72, S72, hkF, z_add, z_mul, up_at, up_no, up_nk, u_cp_no, ma_bd, ↓reduceIte, if_true, if_false, Option.toList, List.nil_append, List.cons_append], by simp (disch := first | assumption | omega | exact zb_fit | exact hbf .. | (simp (disch := omega) only [up_no, up_nk, up_at, u_cp_no] <;> (first | assumption | omega)) | (simp only [hkF] <;> omega) | decide) only [E150, S150, hkF, z_add, z_mul, up_at, up_no, up_nk, u_cp_no, ma_bd, ↓reduceIte, if_true, if_false, Option.toList, List.nil_append, List.cons_append], ?_⟩
    have e37 : ma_up (ma_up σ 21 3 (nI 0)) 91 35 (nI 0) 91 35 = nI 0 := up_at _ _ _ _
    refine G_seen hG hg (fun k g1 g2 => by rw [up_nk g1, up_no (by decide)]) (fun o g1 g2 => by rw [up_no g1, up_no (by omega)]) (fun m hm1 hm2 k hk => ?_) ⟨0, by decide, e37, ⟨by rw [up_no (by decide)]; exact up_at _ _ _ _, fun k hk => by omega⟩, fun k hk => by omega⟩
    rw [e37, z_eq (by omega) (by omega)] at hm2
    omega
  rcases Or.symm (dcases x nd (by omega)) with hx | ⟨p, hp, rfl⟩
  · have e50 := V50n (ro := ro) (d := d + 2) σ 2 nd x kw h15.1 hx
    have e103 := V103n (ro := ro) (d := d + 1) σ x nd h1 h2 hx
    exact ⟨_, σ, σ, by simp (disch := first | assumption | omega | exact zb_fit | exact hbf .. | (simp (disch := omega) only [up_no, up_nk, up_at, u_cp_no] <;> (first | assumption | omega)) | (simp only [hkF] <;> omega) | decide) only [E72, S72, hm, e50, hkF, z_add, z_mul, up_at, up_no, up_nk, u_cp_no, ma_bd, ↓reduceIte, if_true, if_false, Option.toList, List.nil_append, List.cons_append]; rfl, by simp (disch := first | assumption | omega | exact zb_fit | exact hbf .. | (simp (disch := omega) only [up_no, up_nk, up_at, u_cp_no] <;> (first | assumption | omega)) | (simp only [hkF] <;> omega) | decide) only [E150, S150, hm, e103, z_eq, Nat.reduceEqDiff, hkF, z_add, z_mul, up_at, up_no, up_nk, u_cp_no, ma_bd, ↓reduceIte, if_true, if_false, Option.toList, List.nil_append, List.cons_append], hG⟩
  have e50 := V50 (ro := ro) (d := d + 2) σ 2 p nd kw h15.1 h1 hp
  by_cases h : y < nI 0 ∨ nI 20 < y
  · have e103 := V103p (ro := ro) (d := d + 1) σ p nd h1 h2 hp
    have e88 := V88t (ro := ro) (d := d + 2) σ h
    have e102 := V102f (ro := ro) (d := d + 2) σ h
    exact ⟨_, σ, σ, by simp (disch := first | assumption | omega | exact zb_fit | exact hbf .. | (simp (disch := omega) only [up_no, up_nk, up_at, u_cp_no] <;> (first | assumption | omega)) | (simp only [hkF] <;> omega) | decide) only [E72, S72, hm, e50, e88, z_eq, Nat.reduceEqDiff, hkF, z_add, z_mul, up_at, up_no, up_nk, u_cp_no, ma_bd, ↓reduceIte, if_true, if_false, Option.toList, List.nil_append, List.cons_append]; rfl, by simp (disch := first | assumption | omega | exact zb_fit | exact hbf .. | (simp (disch := omega) only [up_no, up_nk, up_at, u_cp_no] <;> (first | assumption | omega)) | (simp only [hkF] <;> omega) | decide) only [E150, S150, hm, e103, e102, z_eq, Nat.reduceEqDiff, hkF, z_add, z_mul, up_at, up_no, up_nk, u_cp_no, ma_bd, ↓reduceIte, if_true, if_false, Option.toList, List.nil_append, List.cons_append], hG⟩
  have e88 := V88f (ro := ro) (d := d + 2) σ h
  by_cases hn8 : n = 5
  · subst hn8
    have e103 := V103p (ro := ro) (d := d + 1) σ p nd h1 h2 hp
    have e39 := V39n (ro := ro) (d := d + 1) σ 21 5 (nI p) y z kr n3'
    have e102 := V102t (ro := ro) (d := d + 2) σ h
    exact ⟨_, σ, σ, by simp (disch := first | assumption | omega | exact zb_fit | exact hbf .. | (simp (disch := omega) only [up_no, up_nk, up_at, u_cp_no] <;> (first | assumption | omega)) | (simp only [hkF] <;> omega) | decide) only [E72, S72, hm, e50, e88, e39, z_eq, Nat.reduceEqDiff, hkF, z_add, z_mul, up_at, up_no, up_nk, u_cp_no, ma_bd, ↓reduceIte, if_true, if_false, Option.toList, List.nil_append, List.cons_append]; rfl, by simp (disch := first | assumption | omega | exact zb_fit | exact hbf .. | (simp (disch := omega) only [up_no, up_nk, up_at, u_cp_no] <;> (first | assumption | omega)) | (simp only [hkF] <;> omega) | decide) only [E150, S150, hm, e103, e102, n2, z_eq, Nat.reduceEqDiff, hkF, z_add, z_mul, up_at, up_no, up_nk, u_cp_no, ma_bd, ↓reduceIte, if_true, if_false, Option.toList, List.nil_append, List.cons_append], hG⟩
  have e39 := V39 (ro := ro) (d := d) σ 21 5 n (nI p) y z kr (by omega) n3' hz
  have hp1 : 76 + n < 933 := by omega
  have hp2 : 81 + n < 933 := by omega
  have hp3 : 86 + n < 933 := by omega
  refine ⟨nI (n + 1), _, _, by simp (disch := first | assumption | omega | exact zb_fit | exact hbf .. | (simp (disch := omega) only [up_no, up_nk, up_at, u_cp_no] <;> (first | assumption | omega)) | (simp only [hkF] <;> omega) | decide) only [E72, S72, hm, e50, e88, e39, z_eq, Nat.reduceEqDiff, hkF, z_add, z_mul, up_at, up_no, up_nk, u_cp_no, ma_bd, ↓reduceIte, if_true, if_false, Option.toList, List.nil_append, List.cons_append]; rfl, ?_, G_seen_add hG hg n (by omega) n2 p hp y z (Rg_of (by decide) h) hz⟩
  generalize hσ1 : ma_up (ma_up (ma_up (ma_up σ 22 n (nI p)) 23 n y) 24 n z) 21 3 (nI (n + 1)) = σ1
  have s91 : σ1 91 = σ 91 := by rw [← hσ1, up_no (by decide), up_no (by decide), up_no (by decide), up_no (by decide)]
  have e103 := V103p (ro := ro) (d := d + 1) σ1 p nd h1 (by rw [s91]; exact h2) hp
  have e102 := V102t (ro := ro) (d := d + 2) σ1 h
  have n2' : σ1 91 35 = nI n := by rw [s91]; exact n2
  obtain ⟨b, hb, rfl⟩ := hz
  have hb2 : b = 0 ∨ b = 1 := by omega
  rcases hb2 with rfl | rfl
  · simp (disch := first | assumption | omega | exact zb_fit | exact hbf .. | (simp (disch := omega) only [up_no, up_nk, up_at, u_cp_no] <;> (first | assumption | omega)) | (simp only [hkF] <;> omega) | decide) only [E150, S150, hm, e103, e102, n2', z_eq, Nat.reduceEqDiff, hn8, hkF, z_add, z_mul, up_at, up_no, up_nk, u_cp_no, ma_bd, ↓reduceIte, if_true, if_false, Option.toList, List.nil_append, List.cons_append]
  · simp (disch := first | assumption | omega | exact zb_fit | exact hbf .. | (simp (disch := omega) only [up_no, up_nk, up_at, u_cp_no] <;> (first | assumption | omega)) | (simp only [hkF] <;> omega) | decide) only [E150, S150, hm, e103, e102, n2', z_eq, Nat.reduceEqDiff, hn8, hkF, z_add, z_mul, up_at, up_no, up_nk, u_cp_no, ma_bd, ↓reduceIte, if_true, if_false, Option.toList, List.nil_append, List.cons_append]
theorem V46 {ro : ma_RO} {d : Nat} (σ : ma_H) (n : Nat) (x : Int32) (hn : n < 100) (h4 : σ 1 4 = nI n) : ma_ev ro d 46 [.ref 1, .int x] SH σ = some (some (.int (nI 1)), SH, ma_up (ma_up σ 20 n x) 1 4 (nI (n + 1))) := by
  have f1 : ma_fitI .boolean (nI 1) = true := by decide
  have ha : hk_alen (1 + 19) = 100 := rfl
  have hl : n < hk_len (1 + 19) := hn
  simp (disch := first | assumption | omega | exact zb_fit | exact hbf .. | (simp (disch := omega) only [up_no, up_nk, up_at, u_cp_no] <;> (first | assumption | omega)) | (simp only [hkF] <;> omega) | decide) only [E46, S46, h4, z_lt, Nat.not_lt_zero, ha, hn, f1, hkF, z_add, z_mul, up_at, up_no, up_nk, u_cp_no, ma_bd, ↓reduceIte, if_true, if_false, Option.toList, List.nil_append, List.cons_append]
theorem V46n {ro : ma_RO} {d : Nat} (σ : ma_H) (x : Int32) (h4 : σ 1 4 = nI 100) : ma_ev ro d 46 [.ref 1, .int x] SH σ = some (some (.int (nI 0)), SH, σ) := by
  have f1 : ma_fitI .boolean (nI 0) = true := by decide
  have ha : hk_alen (1 + 19) = 100 := rfl
  simp (disch := first | assumption | omega | exact zb_fit | exact hbf .. | (simp (disch := omega) only [up_no, up_nk, up_at, u_cp_no] <;> (first | assumption | omega)) | (simp only [hkF] <;> omega) | decide) only [E46, S46, h4, z_lt, Nat.not_lt_zero, ha, Nat.reduceLT, f1, hkF, z_add, z_mul, up_at, up_no, up_nk, u_cp_no, ma_bd, ↓reduceIte, if_true, if_false, Option.toList, List.nil_append, List.cons_append]
theorem C58 {ro : ma_RO} {d : Nat} (σ : ma_H) (hG : G σ) (x : Int32) : ∃ r σ1 σ2, ma_ev ro (d + 3) 58 [.ref 0, .int x] SH σ = some (some (.int r), SH, σ1) ∧ ma_ev ro (d + 3) 107 [.ref 90, .int x] SH σ1 = some (some (.int r), SH, σ2) ∧ G σ2 := by
  obtain ⟨nd, cs, wo, hg⟩ := hG.1
  obtain ⟨h1, h2, h3, h4, h5, h6, h7, h8, h9, h10, h11, h12, h13, h14, h15, h16, h17, ⟨n, n1, n2, n3, n4⟩, h19, h20, h21⟩ := GS_open hg
  by_cases h : x < nI 0 ∨ nI 127 < x
  · have e88 := V88t (ro := ro) (d := d + 2) σ h
    have e102 := V102f (ro := ro) (d := d + 2) σ h
    exact ⟨_, σ, σ, by simp (disch := first | assumption | omega | exact zb_fit | exact hbf .. | (simp (disch := omega) only [up_no, up_nk, up_at, u_cp_no] <;> (first | assumption | omega)) | (simp only [hkF] <;> omega) | decide) only [E58, S58, e88, z_eq, Nat.reduceEqDiff, hkF, z_add, z_mul, up_at, up_no, up_nk, u_cp_no, ma_bd, ↓reduceIte, if_true, if_false, Option.toList, List.nil_append, List.cons_append]; rfl, by simp (disch := first | assumption | omega | exact zb_fit | exact hbf .. | (simp (disch := omega) only [up_no, up_nk, up_at, u_cp_no] <;> (first | assumption | omega)) | (simp only [hkF] <;> omega) | decide) only [E107, S107, e102, z_eq, Nat.reduceEqDiff, hkF, z_add, z_mul, up_at, up_no, up_nk, u_cp_no, ma_bd, ↓reduceIte, if_true, if_false, Option.toList, List.nil_append, List.cons_append], hG⟩
  have e88 := V88f (ro := ro) (d := d + 2) σ h
  by_cases hn : n = 100
  · subst hn
    have e46 := V46n (ro := ro) (d := d + 2) σ x n3
    have e102 := V102t (ro := ro) (d := d + 2) σ h
    exact ⟨_, σ, σ, by simp (disch := first | assumption | omega | exact zb_fit | exact hbf .. | (simp (disch := omega) only [up_no, up_nk, up_at, u_cp_no] <;> (first | assumption | omega)) | (simp only [hkF] <;> omega) | decide) only [E58, S58, e88, e46, z_eq, Nat.reduceEqDiff, hkF, z_add, z_mul, up_at, up_no, up_nk, u_cp_no, ma_bd, ↓reduceIte, if_true, if_false, Option.toList, List.nil_append, List.cons_append]; rfl, by simp (disch := first | assumption | omega | exact zb_fit | exact hbf .. | (simp (disch := omega) only [up_no, up_nk, up_at, u_cp_no] <;> (first | assumption | omega)) | (simp only [hkF] <;> omega) | decide) only [E107, S107, e102, n2, z_eq, Nat.reduceEqDiff, hkF, z_add, z_mul, up_at, up_no, up_nk, u_cp_no, ma_bd, ↓reduceIte, if_true, if_false, Option.toList, List.nil_append, List.cons_append], hG⟩
  have e46 := V46 (ro := ro) (d := d + 2) σ n x (by omega) n3
  have hp1 : 123 + n < 933 := by omega
  refine ⟨nI (n + 1), _, ma_up (ma_up (ma_up (ma_up σ 20 n x) 1 4 (nI (n + 1))) 91 (123 + n) x) 91 38 (nI (n + 1)), by simp (disch := first | assumption | omega | exact zb_fit | exact hbf .. | (simp (disch := omega) only [up_no, up_nk, up_at, u_cp_no] <;> (first | assumption | omega)) | (simp only [hkF] <;> omega) | decide) only [E58, S58, e88, e46, z_eq, Nat.reduceEqDiff, hkF, z_add, z_mul, up_at, up_no, up_nk, u_cp_no, ma_bd, ↓reduceIte, if_true, if_false, Option.toList, List.nil_append, List.cons_append]; rfl, ?_, ?_⟩
  · generalize hσ1 : ma_up (ma_up σ 20 n x) 1 4 (nI (n + 1)) = σ1
    have s91 : σ1 91 = σ 91 := by rw [← hσ1, up_no (by decide), up_no (by decide)]
    have e102 := V102t (ro := ro) (d := d + 2) σ1 h
    have n2' : σ1 91 38 = nI n := by rw [s91]; exact n2
    simp (disch := first | assumption | omega | exact zb_fit | exact hbf .. | (simp (disch := omega) only [up_no, up_nk, up_at, u_cp_no] <;> (first | assumption | omega)) | (simp only [hkF] <;> omega) | decide) only [E107, S107, e102, n2', z_eq, Nat.reduceEqDiff, hn, hkF, z_add, z_mul, up_at, up_no, up_nk, u_cp_no, ma_bd, ↓reduceIte, if_true, if_false, Option.toList, List.nil_append, List.cons_append]
  · refine G_tape hG hg (fun k g1 g2 => ?_) (fun o g1 g2 g3 => ?_) ?_ (fun m hm1 hm2 k hk => ?_) ⟨n + 1, by omega, up_at _ _ _ _, ?_, fun k hk => ?_⟩
    · rw [up_nk g1, up_nk (by omega), up_no (by decide), up_no (by decide)]
    · rw [up_no g1, up_no g1, up_no g2, up_no (by omega)]
    · simp (disch := first | assumption | omega | exact zb_fit | exact hbf .. | (simp (disch := omega) only [up_no, up_nk, up_at, u_cp_no] <;> (first | assumption | omega)) | (simp only [hkF] <;> omega) | decide) only [Nat.reduceEqDiff, hkF, z_add, z_mul, up_at, up_no, up_nk, u_cp_no, ma_bd, ↓reduceIte, if_true, if_false, Option.toList, List.nil_append, List.cons_append]
    · rw [up_at, z_eq (by omega) (by omega)] at hm2
      subst hm2
      by_cases hkn : k = n
      · subst hkn
        rw [up_nk (by omega), up_at]; exact Rg_of (by decide) h
      · have := h14 n n1 n2 k (by omega)
        rw [up_nk (by omega), up_nk (by omega), up_no (by decide), up_no (by decide)]; exact this
    · simp (disch := first | assumption | omega | exact zb_fit | exact hbf .. | (simp (disch := omega) only [up_no, up_nk, up_at, u_cp_no] <;> (first | assumption | omega)) | (simp only [hkF] <;> omega) | decide) only [Nat.reduceEqDiff, hkF, z_add, z_mul, up_at, up_no, up_nk, u_cp_no, ma_bd, ↓reduceIte, if_true, if_false, Option.toList, List.nil_append, List.cons_append]
    · by_cases hkn : k = n
      · subst hkn
        simp (disch := first | assumption | omega | exact zb_fit | exact hbf .. | (simp (disch := omega) only [up_no, up_nk, up_at, u_cp_no] <;> (first | assumption | omega)) | (simp only [hkF] <;> omega) | decide) only [Nat.reduceEqDiff, hkF, z_add, z_mul, up_at, up_no, up_nk, u_cp_no, ma_bd, ↓reduceIte, if_true, if_false, Option.toList, List.nil_append, List.cons_append]
      · have := n4 k (by omega)
        simp (disch := first | assumption | omega | exact zb_fit | exact hbf .. | (simp (disch := omega) only [up_no, up_nk, up_at, u_cp_no] <;> (first | assumption | omega)) | (simp only [hkF] <;> omega) | decide) only [Nat.reduceEqDiff, hkF, z_add, z_mul, up_at, up_no, up_nk, u_cp_no, ma_bd, ↓reduceIte, if_true, if_false, Option.toList, List.nil_append, List.cons_append]
        exact this
