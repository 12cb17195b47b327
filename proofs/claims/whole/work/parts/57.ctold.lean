/-! Calls that only ask: told, doubt, of. -/
theorem V88t {ro : ma_RO} {d : Nat} {n m : Int32} (σ : ma_H) (h : n < nI 0 ∨ m < n) : ma_ev ro d 88 [.int n, .int m] SH σ = some (some (.int (nI 1)), SH, σ) := by rw [V88, zb_t h]
theorem V88f {ro : ma_RO} {d : Nat} {n m : Int32} (σ : ma_H) (h : ¬ (n < nI 0 ∨ m < n)) : ma_ev ro d 88 [.int n, .int m] SH σ = some (some (.int (nI 0)), SH, σ) := by rw [V88, zb_f h]
theorem V102t {ro : ma_RO} {d : Nat} {n m : Int32} (σ : ma_H) (h : ¬ (n < nI 0 ∨ m < n)) : ma_ev ro d 102 [.int n, .int (nI 0), .int m] SH σ = some (some (.int (nI 1)), SH, σ) := by
  rw [V102, zb_t ⟨fun k => h (.inl k), fun k => h (.inr k)⟩]
theorem V102f {ro : ma_RO} {d : Nat} {n m : Int32} (σ : ma_H) (h : n < nI 0 ∨ m < n) : ma_ev ro d 102 [.int n, .int (nI 0), .int m] SH σ = some (some (.int (nI 0)), SH, σ) := by
  rw [V102, zb_f (fun k => h.elim k.1 k.2)]
theorem C67 {ro : ma_RO} {d : Nat} (σ : ma_H) (hG : G σ) (x : Int32) : ∃ r σ1 σ2, ma_ev ro (d + 3) 67 [.ref 0, .int x] SH σ = some (some (.int r), SH, σ1) ∧ ma_ev ro (d + 3) 137 [.ref 90, .int x] SH σ1 = some (some (.int r), SH, σ2) ∧ G σ2 := by
  obtain ⟨nd, cs, wo, k1, k2, k3, k4, ⟨i1, i2, i3, i4, i5⟩, k6⟩ := hG.1
  have hw := k6.1
  obtain ⟨w1, w2, w3, w4, w5⟩ := k6.1
  have x1 : σ 16 0 = wo := k6.2.1.1
  have w2' : σ 2 2 = σ 91 1 := w2
  have w3' : σ 2 3 = σ 91 0 := w3
  have w4' : σ 2 4 = σ 91 2 := w4
  obtain ⟨t1, t2⟩ := tel_wo k4
  have e55 := V55 (ro := ro) (d := d + 1) σ 2 nd (σ 91) hkWh_1.2.1 k1 hw i1
  have e136 := V136 (ro := ro) (d := d + 2) σ nd k1 k2
  have e122 := V122 (ro := ro) (d := d + 2) 223 (nI 2) σ (by decide) t2
  rw [t1] at e122
  by_cases h0 : x = nI 0
  · subst h0; exact ⟨_, σ, σ, by simp (disch := first | assumption | omega | exact zb_fit | exact hbf .. | (simp (disch := omega) only [up_no, up_nk, up_at, u_cp_no] <;> (first | assumption | omega)) | (simp only [hkF] <;> omega) | decide) only [E67, S67, w3', z_eq, Nat.reduceEqDiff, hkF, z_add, z_mul, up_at, up_no, up_nk, u_cp_no, ma_bd, ↓reduceIte, if_true, if_false, Option.toList, List.nil_append, List.cons_append]; rfl, by simp (disch := first | assumption | omega | exact zb_fit | exact hbf .. | (simp (disch := omega) only [up_no, up_nk, up_at, u_cp_no] <;> (first | assumption | omega)) | (simp only [hkF] <;> omega) | decide) only [E137, S137, z_eq, Nat.reduceEqDiff, hkF, z_add, z_mul, up_at, up_no, up_nk, u_cp_no, ma_bd, ↓reduceIte, if_true, if_false, Option.toList, List.nil_append, List.cons_append], hG⟩
  by_cases h1 : x = nI 1
  · subst h1; exact ⟨_, σ, σ, by simp (disch := first | assumption | omega | exact zb_fit | exact hbf .. | (simp (disch := omega) only [up_no, up_nk, up_at, u_cp_no] <;> (first | assumption | omega)) | (simp only [hkF] <;> omega) | decide) only [E67, S67, x1, z_eq, Nat.reduceEqDiff, hkF, z_add, z_mul, up_at, up_no, up_nk, u_cp_no, ma_bd, ↓reduceIte, if_true, if_false, Option.toList, List.nil_append, List.cons_append]; rfl, by simp (disch := first | assumption | omega | exact zb_fit | exact hbf .. | (simp (disch := omega) only [up_no, up_nk, up_at, u_cp_no] <;> (first | assumption | omega)) | (simp only [hkF] <;> omega) | decide) only [E137, S137, e122, z_eq, Nat.reduceEqDiff, hkF, z_add, z_mul, up_at, up_no, up_nk, u_cp_no, ma_bd, ↓reduceIte, if_true, if_false, Option.toList, List.nil_append, List.cons_append], hG⟩
  by_cases h2 : x = nI 2
  · subst h2; exact ⟨_, σ, σ, by simp (disch := first | assumption | omega | exact zb_fit | exact hbf .. | (simp (disch := omega) only [up_no, up_nk, up_at, u_cp_no] <;> (first | assumption | omega)) | (simp only [hkF] <;> omega) | decide) only [E67, S67, w2', z_eq, Nat.reduceEqDiff, hkF, z_add, z_mul, up_at, up_no, up_nk, u_cp_no, ma_bd, ↓reduceIte, if_true, if_false, Option.toList, List.nil_append, List.cons_append]; rfl, by simp (disch := first | assumption | omega | exact zb_fit | exact hbf .. | (simp (disch := omega) only [up_no, up_nk, up_at, u_cp_no] <;> (first | assumption | omega)) | (simp only [hkF] <;> omega) | decide) only [E137, S137, z_eq, Nat.reduceEqDiff, hkF, z_add, z_mul, up_at, up_no, up_nk, u_cp_no, ma_bd, ↓reduceIte, if_true, if_false, Option.toList, List.nil_append, List.cons_append], hG⟩
  by_cases h3 : x = nI 3
  · subst h3; exact ⟨_, σ, σ, by simp (disch := first | assumption | omega | exact zb_fit | exact hbf .. | (simp (disch := omega) only [up_no, up_nk, up_at, u_cp_no] <;> (first | assumption | omega)) | (simp only [hkF] <;> omega) | decide) only [E67, S67, w4', z_eq, Nat.reduceEqDiff, hkF, z_add, z_mul, up_at, up_no, up_nk, u_cp_no, ma_bd, ↓reduceIte, if_true, if_false, Option.toList, List.nil_append, List.cons_append]; rfl, by simp (disch := first | assumption | omega | exact zb_fit | exact hbf .. | (simp (disch := omega) only [up_no, up_nk, up_at, u_cp_no] <;> (first | assumption | omega)) | (simp only [hkF] <;> omega) | decide) only [E137, S137, z_eq, Nat.reduceEqDiff, hkF, z_add, z_mul, up_at, up_no, up_nk, u_cp_no, ma_bd, ↓reduceIte, if_true, if_false, Option.toList, List.nil_append, List.cons_append], hG⟩
  by_cases h4 : x = nI 4
  · subst h4; exact ⟨_, σ, σ, by simp (disch := first | assumption | omega | exact zb_fit | exact hbf .. | (simp (disch := omega) only [up_no, up_nk, up_at, u_cp_no] <;> (first | assumption | omega)) | (simp only [hkF] <;> omega) | decide) only [E67, S67, e55, z_eq, Nat.reduceEqDiff, hkF, z_add, z_mul, up_at, up_no, up_nk, u_cp_no, ma_bd, ↓reduceIte, if_true, if_false, Option.toList, List.nil_append, List.cons_append]; rfl, by simp (disch := first | assumption | omega | exact zb_fit | exact hbf .. | (simp (disch := omega) only [up_no, up_nk, up_at, u_cp_no] <;> (first | assumption | omega)) | (simp only [hkF] <;> omega) | decide) only [E137, S137, e136, z_eq, Nat.reduceEqDiff, hkF, z_add, z_mul, up_at, up_no, up_nk, u_cp_no, ma_bd, ↓reduceIte, if_true, if_false, Option.toList, List.nil_append, List.cons_append], hG⟩
  exact ⟨_, σ, σ, by simp (disch := first | assumption | omega | exact zb_fit | exact hbf .. | (simp (disch := omega) only [up_no, up_nk, up_at, u_cp_no] <;> (first | assumption | omega)) | (simp only [hkF] <;> omega) | decide) only [E67, S67, h0, h1, h2, h3, h4, hkF, z_add, z_mul, up_at, up_no, up_nk, u_cp_no, ma_bd, ↓reduceIte, if_true, if_false, Option.toList, List.nil_append, List.cons_append]; rfl, by simp (disch := first | assumption | omega | exact zb_fit | exact hbf .. | (simp (disch := omega) only [up_no, up_nk, up_at, u_cp_no] <;> (first | assumption | omega)) | (simp only [hkF] <;> omega) | decide) only [E137, S137, h0, h1, h2, h3, h4, hkF, z_add, z_mul, up_at, up_no, up_nk, u_cp_no, ma_bd, ↓reduceIte, if_true, if_false, Option.toList, List.nil_append, List.cons_append], hG⟩
theorem C66 {ro : ma_RO} {d : Nat} (σ : ma_H) (hG : G σ) (x y : Int32) : ∃ r σ1 σ2, ma_ev ro (d + 3) 66 [.ref 0, .int x, .int y] SH σ = some (some (.int r), SH, σ1) ∧ ma_ev ro (d + 3) 135 [.ref 90, .int x, .int y] SH σ1 = some (some (.int r), SH, σ2) ∧ G σ2 := by
  obtain ⟨nd, cs, wo, k1, k2, k3, k4, ⟨i1, i2, i3, i4, i5⟩, k6⟩ := hG.1
  obtain ⟨w1, w2, w3, w4, w5⟩ := k6.1
  have x1 : σ 16 0 = wo := k6.2.1.1
  obtain ⟨t1, t2⟩ := tel_wo k4
  have kw := hkWh_1.2.1
  rcases dcases x nd (by omega) with ⟨p, hp, rfl⟩ | hx
  · have e50 := V50 (ro := ro) (d := d + 2) σ 2 p nd kw w1 k1 hp
    have kd := kw.2.2.2 p (by omega)
    have kd1 := kd.1
    have d4 : σ (1 + 1 + 1 + 1 + 2 * p) 4 = σ 91 (9 + p) := (w5 p hp).1 4 (by decide)
    have e103 := V103p (ro := ro) (d := d + 1) σ p nd k1 k2 hp
    have e14 := V14 (ro := ro) (d := d + 2) σ (1 + 1 + 1 + 1 + 2 * p) y wo kd
    rw [d4] at e14
    have e125 := V125 (ro := ro) (d := d + 1) σ p y (by omega) t2
    rw [t1] at e125
    by_cases h : y < nI 0 ∨ nI 60 < y
    · have e88 := V88t (ro := ro) (d := d + 2) σ h
      have e102 := V102f (ro := ro) (d := d + 2) σ h
      exact ⟨_, σ, σ, by simp (disch := first | assumption | omega | exact zb_fit | exact hbf .. | (simp (disch := omega) only [up_no, up_nk, up_at, u_cp_no] <;> (first | assumption | omega)) | (simp only [hkF] <;> omega) | decide) only [E66, S66, e50, e88, z_eq, Nat.reduceEqDiff, hkF, z_add, z_mul, up_at, up_no, up_nk, u_cp_no, ma_bd, ↓reduceIte, if_true, if_false, Option.toList, List.nil_append, List.cons_append]; rfl, by simp (disch := first | assumption | omega | exact zb_fit | exact hbf .. | (simp (disch := omega) only [up_no, up_nk, up_at, u_cp_no] <;> (first | assumption | omega)) | (simp only [hkF] <;> omega) | decide) only [E135, S135, e103, e102, z_eq, Nat.reduceEqDiff, hkF, z_add, z_mul, up_at, up_no, up_nk, u_cp_no, ma_bd, ↓reduceIte, if_true, if_false, Option.toList, List.nil_append, List.cons_append], hG⟩
    · have e88 := V88f (ro := ro) (d := d + 2) σ h
      have e102 := V102t (ro := ro) (d := d + 2) σ h
      exact ⟨_, σ, σ, by simp (disch := first | assumption | omega | exact zb_fit | exact hbf .. | (simp (disch := omega) only [up_no, up_nk, up_at, u_cp_no] <;> (first | assumption | omega)) | (simp only [hkF] <;> omega) | decide) only [E66, S66, e50, e88, x1, e14, z_eq, Nat.reduceEqDiff, hkF, z_add, z_mul, up_at, up_no, up_nk, u_cp_no, ma_bd, ↓reduceIte, if_true, if_false, Option.toList, List.nil_append, List.cons_append]; rfl, by simp (disch := first | assumption | omega | exact zb_fit | exact hbf .. | (simp (disch := omega) only [up_no, up_nk, up_at, u_cp_no] <;> (first | assumption | omega)) | (simp only [hkF] <;> omega) | decide) only [E135, S135, e103, e102, e125, z_eq, Nat.reduceEqDiff, hkF, z_add, z_mul, up_at, up_no, up_nk, u_cp_no, ma_bd, ↓reduceIte, if_true, if_false, Option.toList, List.nil_append, List.cons_append], hG⟩
  · have e50 := V50n (ro := ro) (d := d + 2) σ 2 nd x kw w1 hx
    have e103 := V103n (ro := ro) (d := d + 1) σ x nd k1 k2 hx
    exact ⟨_, σ, σ, by simp (disch := first | assumption | omega | exact zb_fit | exact hbf .. | (simp (disch := omega) only [up_no, up_nk, up_at, u_cp_no] <;> (first | assumption | omega)) | (simp only [hkF] <;> omega) | decide) only [E66, S66, e50, hkF, z_add, z_mul, up_at, up_no, up_nk, u_cp_no, ma_bd, ↓reduceIte, if_true, if_false, Option.toList, List.nil_append, List.cons_append]; rfl, by simp (disch := first | assumption | omega | exact zb_fit | exact hbf .. | (simp (disch := omega) only [up_no, up_nk, up_at, u_cp_no] <;> (first | assumption | omega)) | (simp only [hkF] <;> omega) | decide) only [E135, S135, e103, hkF, z_add, z_mul, up_at, up_no, up_nk, u_cp_no, ma_bd, ↓reduceIte, if_true, if_false, Option.toList, List.nil_append, List.cons_append], hG⟩
theorem C61 {ro : ma_RO} {d : Nat} (σ : ma_H) (hG : G σ) (x y : Int32) : ∃ r σ1 σ2, ma_ev ro (d + 5) 61 [.ref 0, .int x, .int y] SH σ = some (some (.int r), SH, σ1) ∧ ma_ev ro (d + 5) 129 [.ref 90, .int x, .int y] SH σ1 = some (some (.int r), SH, σ2) ∧ G σ2 := by
  obtain ⟨nd, cs, wo, k1, k2, k3, k4, ⟨i1, ⟨mm, i2, i2'⟩, i3, i4, i5⟩, k6⟩ := hG.1
  obtain ⟨w1, w2, w3, w4, w5⟩ := k6.1
  have x1 : σ 16 0 = wo := k6.2.1.1
  have w3' : σ 2 3 = nI mm := w3.trans i2'
  obtain ⟨t1, t2⟩ := tel_wo k4
  have kw := hkWh_1.2.1
  rcases dcases x nd (by omega) with ⟨p, hp, rfl⟩ | hx
  · have e50 := V50 (ro := ro) (d := d + 4) σ 2 p nd kw w1 k1 hp
    have kd := kw.2.2.2 p (by omega)
    have kd1 := kd.1
    have dd := (w5 p hp).1
    have d1 : σ (1 + 1 + 1 + 1 + 2 * p) 1 = σ 91 (40 + p) := dd 1 (by decide)
    have d2 : σ (1 + 1 + 1 + 1 + 2 * p) 2 = σ 91 (46 + p) := dd 2 (by decide)
    have d3 : σ (1 + 1 + 1 + 1 + 2 * p) 3 = σ 91 (3 + p) := dd 3 (by decide)
    have d4 : σ (1 + 1 + 1 + 1 + 2 * p) 4 = σ 91 (9 + p) := dd 4 (by decide)
    have d5 : σ (1 + 1 + 1 + 1 + 2 * p) 5 = σ 91 (15 + p) := dd 5 (by decide)
    have d6 : σ (1 + 1 + 1 + 1 + 2 * p) 6 = σ 91 (21 + p) := dd 6 (by decide)
    have d7 : σ (1 + 1 + 1 + 1 + 2 * p) 7 = σ 91 (27 + p) := dd 7 (by decide)
    have e103 := V103p (ro := ro) (d := d + 3) σ p nd k1 k2 hp
    have e15 := V15 (ro := ro) (d := d + 3) σ (1 + 1 + 1 + 1 + 2 * p) wo kd
    rw [d4] at e15
    have e126 := V126 (ro := ro) (d := d + 2) σ p (by omega) t2
    rw [t1] at e126
    have e11 := V11 (ro := ro) (d := d) σ (1 + 1 + 1 + 1 + 2 * p) 16 mm cs wo k6.2.1 k3 kd hkWh_1.2.2.1 (by omega)
    rw [careD_congr cs mm dd (w5 p hp).2] at e11
    obtain ⟨σ2, e124, r124⟩ := V124 (ro := ro) (d := d + 2) σ cs wo k4 k3 p mm (by omega) (by omega) i2'
    have p1 : 40 + p < 933 := by omega
    have p2 : 46 + p < 933 := by omega
    have p3 : 3 + p < 933 := by omega
    have p4 : 9 + p < 933 := by omega
    have p5 : 15 + p < 933 := by omega
    have p6 : 21 + p < 933 := by omega
    have p7 : 27 + p < 933 := by omega
    by_cases h0 : y = nI 0
    · subst h0; exact ⟨_, σ, σ, by simp (disch := first | assumption | omega | exact zb_fit | exact hbf .. | (simp (disch := omega) only [up_no, up_nk, up_at, u_cp_no] <;> (first | assumption | omega)) | (simp only [hkF] <;> omega) | decide) only [E61, S61, e50, d1, z_eq, Nat.reduceEqDiff, hkF, z_add, z_mul, up_at, up_no, up_nk, u_cp_no, ma_bd, ↓reduceIte, if_true, if_false, Option.toList, List.nil_append, List.cons_append]; rfl, by simp (disch := first | assumption | omega | exact zb_fit | exact hbf .. | (simp (disch := omega) only [up_no, up_nk, up_at, u_cp_no] <;> (first | assumption | omega)) | (simp only [hkF] <;> omega) | decide) only [E129, S129, e103, z_eq, Nat.reduceEqDiff, hkF, z_add, z_mul, up_at, up_no, up_nk, u_cp_no, ma_bd, ↓reduceIte, if_true, if_false, Option.toList, List.nil_append, List.cons_append], hG⟩
    by_cases h1 : y = nI 1
    · subst h1; exact ⟨_, σ, σ, by simp (disch := first | assumption | omega | exact zb_fit | exact hbf .. | (simp (disch := omega) only [up_no, up_nk, up_at, u_cp_no] <;> (first | assumption | omega)) | (simp only [hkF] <;> omega) | decide) only [E61, S61, e50, d2, z_eq, Nat.reduceEqDiff, hkF, z_add, z_mul, up_at, up_no, up_nk, u_cp_no, ma_bd, ↓reduceIte, if_true, if_false, Option.toList, List.nil_append, List.cons_append]; rfl, by simp (disch := first | assumption | omega | exact zb_fit | exact hbf .. | (simp (disch := omega) only [up_no, up_nk, up_at, u_cp_no] <;> (first | assumption | omega)) | (simp only [hkF] <;> omega) | decide) only [E129, S129, e103, z_eq, Nat.reduceEqDiff, hkF, z_add, z_mul, up_at, up_no, up_nk, u_cp_no, ma_bd, ↓reduceIte, if_true, if_false, Option.toList, List.nil_append, List.cons_append], hG⟩
    by_cases h2 : y = nI 2
    · subst h2
      obtain ⟨b, hb, hb'⟩ := (i1 p hp).1
      have hb3 : σ 91 (3 + p) = nI b := hb'
      have hb2 : b = 0 ∨ b = 1 := by omega
      rcases hb2 with rfl | rfl
      · exact ⟨_, σ, σ, by simp (disch := first | assumption | omega | exact zb_fit | exact hbf .. | (simp (disch := omega) only [up_no, up_nk, up_at, u_cp_no] <;> (first | assumption | omega)) | (simp only [hkF] <;> omega) | decide) only [E61, S61, e50, d3, hb3, z_eq, Nat.reduceEqDiff, hkF, z_add, z_mul, up_at, up_no, up_nk, u_cp_no, ma_bd, ↓reduceIte, if_true, if_false, Option.toList, List.nil_append, List.cons_append]; rfl, by simp (disch := first | assumption | omega | exact zb_fit | exact hbf .. | (simp (disch := omega) only [up_no, up_nk, up_at, u_cp_no] <;> (first | assumption | omega)) | (simp only [hkF] <;> omega) | decide) only [E129, S129, e103, hb3, z_eq, Nat.reduceEqDiff, hkF, z_add, z_mul, up_at, up_no, up_nk, u_cp_no, ma_bd, ↓reduceIte, if_true, if_false, Option.toList, List.nil_append, List.cons_append], hG⟩
      · exact ⟨_, σ, σ, by simp (disch := first | assumption | omega | exact zb_fit | exact hbf .. | (simp (disch := omega) only [up_no, up_nk, up_at, u_cp_no] <;> (first | assumption | omega)) | (simp only [hkF] <;> omega) | decide) only [E61, S61, e50, d3, hb3, z_eq, Nat.reduceEqDiff, hkF, z_add, z_mul, up_at, up_no, up_nk, u_cp_no, ma_bd, ↓reduceIte, if_true, if_false, Option.toList, List.nil_append, List.cons_append]; rfl, by simp (disch := first | assumption | omega | exact zb_fit | exact hbf .. | (simp (disch := omega) only [up_no, up_nk, up_at, u_cp_no] <;> (first | assumption | omega)) | (simp only [hkF] <;> omega) | decide) only [E129, S129, e103, hb3, z_eq, Nat.reduceEqDiff, hkF, z_add, z_mul, up_at, up_no, up_nk, u_cp_no, ma_bd, ↓reduceIte, if_true, if_false, Option.toList, List.nil_append, List.cons_append], hG⟩
    by_cases h3 : y = nI 3
    · subst h3; exact ⟨_, σ, σ, by simp (disch := first | assumption | omega | exact zb_fit | exact hbf .. | (simp (disch := omega) only [up_no, up_nk, up_at, u_cp_no] <;> (first | assumption | omega)) | (simp only [hkF] <;> omega) | decide) only [E61, S61, e50, d4, z_eq, Nat.reduceEqDiff, hkF, z_add, z_mul, up_at, up_no, up_nk, u_cp_no, ma_bd, ↓reduceIte, if_true, if_false, Option.toList, List.nil_append, List.cons_append]; rfl, by simp (disch := first | assumption | omega | exact zb_fit | exact hbf .. | (simp (disch := omega) only [up_no, up_nk, up_at, u_cp_no] <;> (first | assumption | omega)) | (simp only [hkF] <;> omega) | decide) only [E129, S129, e103, z_eq, Nat.reduceEqDiff, hkF, z_add, z_mul, up_at, up_no, up_nk, u_cp_no, ma_bd, ↓reduceIte, if_true, if_false, Option.toList, List.nil_append, List.cons_append], hG⟩
    by_cases h4 : y = nI 4
    · subst h4; exact ⟨_, σ, σ, by simp (disch := first | assumption | omega | exact zb_fit | exact hbf .. | (simp (disch := omega) only [up_no, up_nk, up_at, u_cp_no] <;> (first | assumption | omega)) | (simp only [hkF] <;> omega) | decide) only [E61, S61, e50, d5, z_eq, Nat.reduceEqDiff, hkF, z_add, z_mul, up_at, up_no, up_nk, u_cp_no, ma_bd, ↓reduceIte, if_true, if_false, Option.toList, List.nil_append, List.cons_append]; rfl, by simp (disch := first | assumption | omega | exact zb_fit | exact hbf .. | (simp (disch := omega) only [up_no, up_nk, up_at, u_cp_no] <;> (first | assumption | omega)) | (simp only [hkF] <;> omega) | decide) only [E129, S129, e103, z_eq, Nat.reduceEqDiff, hkF, z_add, z_mul, up_at, up_no, up_nk, u_cp_no, ma_bd, ↓reduceIte, if_true, if_false, Option.toList, List.nil_append, List.cons_append], hG⟩
    by_cases h5 : y = nI 5
    · subst h5; exact ⟨_, σ, σ, by simp (disch := first | assumption | omega | exact zb_fit | exact hbf .. | (simp (disch := omega) only [up_no, up_nk, up_at, u_cp_no] <;> (first | assumption | omega)) | (simp only [hkF] <;> omega) | decide) only [E61, S61, e50, d6, z_eq, Nat.reduceEqDiff, hkF, z_add, z_mul, up_at, up_no, up_nk, u_cp_no, ma_bd, ↓reduceIte, if_true, if_false, Option.toList, List.nil_append, List.cons_append]; rfl, by simp (disch := first | assumption | omega | exact zb_fit | exact hbf .. | (simp (disch := omega) only [up_no, up_nk, up_at, u_cp_no] <;> (first | assumption | omega)) | (simp only [hkF] <;> omega) | decide) only [E129, S129, e103, z_eq, Nat.reduceEqDiff, hkF, z_add, z_mul, up_at, up_no, up_nk, u_cp_no, ma_bd, ↓reduceIte, if_true, if_false, Option.toList, List.nil_append, List.cons_append], hG⟩
    by_cases h6 : y = nI 6
    · subst h6; exact ⟨_, σ, σ, by simp (disch := first | assumption | omega | exact zb_fit | exact hbf .. | (simp (disch := omega) only [up_no, up_nk, up_at, u_cp_no] <;> (first | assumption | omega)) | (simp only [hkF] <;> omega) | decide) only [E61, S61, e50, d7, z_eq, Nat.reduceEqDiff, hkF, z_add, z_mul, up_at, up_no, up_nk, u_cp_no, ma_bd, ↓reduceIte, if_true, if_false, Option.toList, List.nil_append, List.cons_append]; rfl, by simp (disch := first | assumption | omega | exact zb_fit | exact hbf .. | (simp (disch := omega) only [up_no, up_nk, up_at, u_cp_no] <;> (first | assumption | omega)) | (simp only [hkF] <;> omega) | decide) only [E129, S129, e103, z_eq, Nat.reduceEqDiff, hkF, z_add, z_mul, up_at, up_no, up_nk, u_cp_no, ma_bd, ↓reduceIte, if_true, if_false, Option.toList, List.nil_append, List.cons_append], hG⟩
    by_cases h7 : y = nI 7
    · subst h7; exact ⟨_, σ, σ2, by simp (disch := first | assumption | omega | exact zb_fit | exact hbf .. | (simp (disch := omega) only [up_no, up_nk, up_at, u_cp_no] <;> (first | assumption | omega)) | (simp only [hkF] <;> omega) | decide) only [E61, S61, e50, w3', e11, z_eq, Nat.reduceEqDiff, hkF, z_add, z_mul, up_at, up_no, up_nk, u_cp_no, ma_bd, ↓reduceIte, if_true, if_false, Option.toList, List.nil_append, List.cons_append]; rfl, by simp (disch := first | assumption | omega | exact zb_fit | exact hbf .. | (simp (disch := omega) only [up_no, up_nk, up_at, u_cp_no] <;> (first | assumption | omega)) | (simp only [hkF] <;> omega) | decide) only [E129, S129, e103, e124, z_eq, Nat.reduceEqDiff, hkF, z_add, z_mul, up_at, up_no, up_nk, u_cp_no, ma_bd, ↓reduceIte, if_true, if_false, Option.toList, List.nil_append, List.cons_append], G_same hG (fun o ho => r124 o (by omega) (by omega)) (by rw [r124 90 (by decide) (by decide)]) (by rw [r124 90 (by decide) (by decide)])⟩
    by_cases h8 : y = nI 8
    · subst h8; exact ⟨_, σ, σ, by simp (disch := first | assumption | omega | exact zb_fit | exact hbf .. | (simp (disch := omega) only [up_no, up_nk, up_at, u_cp_no] <;> (first | assumption | omega)) | (simp only [hkF] <;> omega) | decide) only [E61, S61, e50, x1, e15, z_eq, Nat.reduceEqDiff, hkF, z_add, z_mul, up_at, up_no, up_nk, u_cp_no, ma_bd, ↓reduceIte, if_true, if_false, Option.toList, List.nil_append, List.cons_append]; rfl, by simp (disch := first | assumption | omega | exact zb_fit | exact hbf .. | (simp (disch := omega) only [up_no, up_nk, up_at, u_cp_no] <;> (first | assumption | omega)) | (simp only [hkF] <;> omega) | decide) only [E129, S129, e103, e126, z_eq, Nat.reduceEqDiff, hkF, z_add, z_mul, up_at, up_no, up_nk, u_cp_no, ma_bd, ↓reduceIte, if_true, if_false, Option.toList, List.nil_append, List.cons_append], hG⟩
    exact ⟨_, σ, σ, by simp (disch := first | assumption | omega | exact zb_fit | exact hbf .. | (simp (disch := omega) only [up_no, up_nk, up_at, u_cp_no] <;> (first | assumption | omega)) | (simp only [hkF] <;> omega) | decide) only [E61, S61, e50, h0, h1, h2, h3, h4, h5, h6, h7, h8, hkF, z_add, z_mul, up_at, up_no, up_nk, u_cp_no, ma_bd, ↓reduceIte, if_true, if_false, Option.toList, List.nil_append, List.cons_append]; rfl, by simp (disch := first | assumption | omega | exact zb_fit | exact hbf .. | (simp (disch := omega) only [up_no, up_nk, up_at, u_cp_no] <;> (first | assumption | omega)) | (simp only [hkF] <;> omega) | decide) only [E129, S129, e103, h0, h1, h2, h3, h4, h5, h6, h7, h8, z_eq, Nat.reduceEqDiff, hkF, z_add, z_mul, up_at, up_no, up_nk, u_cp_no, ma_bd, ↓reduceIte, if_true, if_false, Option.toList, List.nil_append, List.cons_append], hG⟩
  · have e50 := V50n (ro := ro) (d := d + 4) σ 2 nd x kw w1 hx
    have e103 := V103n (ro := ro) (d := d + 3) σ x nd k1 k2 hx
    exact ⟨_, σ, σ, by simp (disch := first | assumption | omega | exact zb_fit | exact hbf .. | (simp (disch := omega) only [up_no, up_nk, up_at, u_cp_no] <;> (first | assumption | omega)) | (simp only [hkF] <;> omega) | decide) only [E61, S61, e50, hkF, z_add, z_mul, up_at, up_no, up_nk, u_cp_no, ma_bd, ↓reduceIte, if_true, if_false, Option.toList, List.nil_append, List.cons_append]; rfl, by simp (disch := first | assumption | omega | exact zb_fit | exact hbf .. | (simp (disch := omega) only [up_no, up_nk, up_at, u_cp_no] <;> (first | assumption | omega)) | (simp only [hkF] <;> omega) | decide) only [E129, S129, e103, hkF, z_add, z_mul, up_at, up_no, up_nk, u_cp_no, ma_bd, ↓reduceIte, if_true, if_false, Option.toList, List.nil_append, List.cons_append], hG⟩
