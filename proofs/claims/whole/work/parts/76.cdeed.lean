/-! The call deed. -/
theorem V7 {ro : ma_RO} {d : Nat} (σ : ma_H) (a : Nat) (x y : Int32) (kd : hkDd a) :
    ∃ σ', ma_ev ro d 7 [.ref a, .int x, .int y] SH σ = some (none, SH, σ') ∧ (∀ j, j < 8 → σ' a j = if j = 0 then σ a 0 else if j = 1 then x else if j = 2 then y else if j = 4 then nI 50 else nI 0) ∧ (∀ k, k < 4 → σ' (a + 1) k = nI 0) ∧ ∀ o, ¬ o = a → ¬ o = a + 1 → σ' o = σ o := by
  obtain ⟨a1, a2, a3⟩ := kd
  have f0 : ma_fitI .boolean (nI 0) = true := by decide
  generalize hb : ma_up (ma_up (ma_up (ma_up (ma_up (ma_up (ma_up σ a 1 x) a 2 y) a 3 (nI 0)) a 4 (nI 50)) a 5 (nI 0)) a 6 (nI 0)) a 7 (nI 0) = s0
  have q0 : ∀ o, ¬ o = a → s0 o = σ o := fun o ho => by rw [← hb, up_no ho, up_no ho, up_no ho, up_no ho, up_no ho, up_no ho, up_no ho]
  have qa : ∀ j, j < 8 → s0 a j = if j = 0 then σ a 0 else if j = 1 then x else if j = 2 then y else if j = 4 then nI 50 else nI 0 := by
    intro j hj
    rw [← hb]
    have : j = 0 ∨ j = 1 ∨ j = 2 ∨ j = 3 ∨ j = 4 ∨ j = 5 ∨ j = 6 ∨ j = 7 := by omega
    rcases this with rfl | rfl | rfl | rfl | rfl | rfl | rfl | rfl <;> simp [ma_up]
  obtain ⟨⟨l', σ'⟩, e, hl, h1, h2⟩ := ma_iter (fun z : ma_L × ma_H => ma_rn ro d 7 (38, z.1, [], SH, z.2)) (fun k z => z.1 = [some (.ref a), some (.int x), some (.int y), some (.int (nI k))] ∧ (∀ j, j < k → z.2 (a + 1) j = nI 0) ∧ ∀ o, ¬ o = a + 1 → z.2 o = s0 o) 4 (by
    rintro k hk ⟨l, s⟩ ⟨hl, h1, h2⟩
    simp only at hl h1 h2
    subst hl
    have hlk : k < hk_len (a + 1) := by omega
    refine ⟨([some (.ref a), some (.int x), some (.int y), some (.int (nI (k + 1)))], ma_up s (a + 1) k (nI 0)), ?_, rfl, fun j hj => ?_, fun o ho => by show ma_up s (a + 1) k (nI 0) o = s0 o; rw [up_no ho]; exact h2 o ho⟩
    · simp only
      rw [Sh7_38]
      simp (disch := first | assumption | omega | exact zb_fit | exact hbf .. | (simp (disch := omega) only [up_no, up_nk, up_at, u_cp_no] <;> (first | assumption | omega)) | (simp only [hkF] <;> omega) | decide) only [S7, a3, z_lt, hk, hkF, z_add, z_mul, up_at, up_no, up_nk, u_cp_no, ma_bd, ↓reduceIte, if_true, if_false, Option.toList, List.nil_append, List.cons_append]
    · show ma_up s (a + 1) k (nI 0) (a + 1) j = nI 0
      by_cases hjk : j = k
      · subst hjk; rw [up_at]
      · rw [up_nk hjk]; exact h1 j (by omega)) ([some (.ref a), some (.int x), some (.int y), some (.int (nI 0))], s0) ⟨rfl, fun j hj => by omega, fun _ _ => rfl⟩
  simp only at e hl h1 h2
  subst hl
  refine ⟨σ', ?_, fun j hj => by rw [h2 a (by omega)]; exact qa j hj, h1, fun o o1 o2 => by rw [h2 o o2]; exact q0 o o1⟩
  refine Eq.trans (?_ : _ = ma_rn ro d 7 (38, [some (.ref a), some (.int x), some (.int y), some (.int (nI 0))], [], SH, s0)) (e.trans ?_)
  · simp (disch := first | assumption | omega | exact zb_fit | exact hbf .. | (simp (disch := omega) only [up_no, up_nk, up_at, u_cp_no] <;> (first | assumption | omega)) | (simp only [hkF] <;> omega) | decide) only [E7, S7, f0, hb, hkF, z_add, z_mul, up_at, up_no, up_nk, u_cp_no, ma_bd, ↓reduceIte, if_true, if_false, Option.toList, List.nil_append, List.cons_append]
  · rw [Sh7_38]
    simp (disch := first | assumption | omega | exact zb_fit | exact hbf .. | (simp (disch := omega) only [up_no, up_nk, up_at, u_cp_no] <;> (first | assumption | omega)) | (simp only [hkF] <;> omega) | decide) only [S7, a3, z_lt, Nat.lt_irrefl, hkF, z_add, z_mul, up_at, up_no, up_nk, u_cp_no, ma_bd, ↓reduceIte, if_true, if_false, Option.toList, List.nil_append, List.cons_append]
theorem V51 {ro : ma_RO} {d : Nat} (σ : ma_H) (nd : Nat) (x y : Int32) (w1 : σ 2 1 = nI nd) (hn : nd < 6) :
    ∃ σ', ma_ev ro (d + 1) 51 [.ref 2, .int x, .int y] SH σ = some (some (.int (nI 1)), SH, σ') ∧ σ' 2 1 = nI (nd + 1) ∧ (∀ j, ¬ j = 1 → σ' 2 j = σ 2 j) ∧ (∀ j, j < 8 → σ' (2 + 1 + 1 + 2 * nd) j = if j = 0 then σ (2 + 1 + 1 + 2 * nd) 0 else if j = 1 then x else if j = 2 then y else if j = 4 then nI 50 else nI 0) ∧ (∀ k, k < 4 → σ' (2 + 1 + 1 + 2 * nd + 1) k = nI 0) ∧ ∀ o, ¬ o = 2 → ¬ o = 2 + 1 + 1 + 2 * nd → ¬ o = 2 + 1 + 1 + 2 * nd + 1 → σ' o = σ o := by
  have kw := hkWh_1.2.1
  have kd := kw.2.2.2 nd (by omega)
  have kd1 := kd.1
  have f1 : ma_fitI .boolean (nI 1) = true := by decide
  obtain ⟨s, e7, a1, a2, a3⟩ := V7 (ro := ro) (d := d) σ (2 + 1 + 1 + 2 * nd) x y kd
  have s21 : s 2 1 = nI nd := by rw [a3 2 (by omega) (by omega)]; exact w1
  have hq : hk_alen (2 + 1) = 6 := rfl
  have hq2 : hk_qlen (2 + 1) = 6 := rfl
  have hn6 : ¬ nd = 6 := by omega
  refine ⟨ma_up s 2 1 (nI (nd + 1)), ?_, up_at _ _ _ _, fun j hj => by rw [up_nk hj, a3 2 (by omega) (by omega)], fun j hj => by rw [up_no (by omega)]; exact a1 j hj, fun k hk => by rw [up_no (by omega)]; exact a2 k hk, fun o o1 o2 o3 => by rw [up_no o1]; exact a3 o o2 o3⟩
  simp (disch := first | assumption | omega | exact zb_fit | exact hbf .. | (simp (disch := omega) only [up_no, up_nk, up_at, u_cp_no] <;> (first | assumption | omega)) | (simp only [hkF] <;> omega) | decide) only [E51, S51, w1, z_lt, Nat.not_lt_zero, hq, hn, e7, s21, f1, hkF, z_add, z_mul, up_at, up_no, up_nk, u_cp_no, ma_bd, ↓reduceIte, if_true, if_false, Option.toList, List.nil_append, List.cons_append]
theorem V51n {ro : ma_RO} {d : Nat} (σ : ma_H) (x y : Int32) (w1 : σ 2 1 = nI 6) : ma_ev ro (d + 1) 51 [.ref 2, .int x, .int y] SH σ = some (some (.int (nI 0)), SH, σ) := by
  have f0 : ma_fitI .boolean (nI 0) = true := by decide
  have hq : hk_alen (2 + 1) = 6 := rfl
  simp (disch := first | assumption | omega | exact zb_fit | exact hbf .. | (simp (disch := omega) only [up_no, up_nk, up_at, u_cp_no] <;> (first | assumption | omega)) | (simp only [hkF] <;> omega) | decide) only [E51, S51, w1, z_lt, Nat.not_lt_zero, hq, Nat.lt_irrefl, f0, hkF, z_add, z_mul, up_at, up_no, up_nk, u_cp_no, ma_bd, ↓reduceIte, if_true, if_false, Option.toList, List.nil_append, List.cons_append]
theorem V128 {ro : ma_RO} {d : Nat} (σ : ma_H) (nd : Nat) (x y : Int32) (h2 : σ 91 33 = nI nd) (hn : nd < 6) (hx : ¬ (x < nI 0 ∨ nI 6 < x)) (hy : ¬ (y < nI 0 ∨ nI 9 < y)) :
    ∃ σ', ma_ev ro (d + 1) 128 [.ref 90, .int x, .int y] SH σ = some (some (.int (nI nd)), SH, σ') ∧ σ' 91 33 = nI (nd + 1) ∧ σ' 91 (40 + nd) = x ∧ σ' 91 (46 + nd) = y ∧ σ' 91 (3 + nd) = nI 0 ∧ σ' 91 (9 + nd) = nI 50 ∧ σ' 91 (15 + nd) = nI 0 ∧ σ' 91 (21 + nd) = nI 0 ∧ σ' 91 (27 + nd) = nI 0 ∧ (∀ k, k < 4 → σ' 91 (52 + 4 * nd + k) = nI 0) ∧ (∀ j, ¬ j = 33 → ¬ j = 40 + nd → ¬ j = 46 + nd → ¬ j = 3 + nd → ¬ j = 9 + nd → ¬ j = 15 + nd → ¬ j = 21 + nd → ¬ j = 27 + nd → ¬ (52 + 4 * nd ≤ j ∧ j < 52 + 4 * nd + 4) → σ' 91 j = σ 91 j) ∧ ∀ o, ¬ o = 91 → σ' o = σ o := by
  have e1 := V102t (ro := ro) (d := d) σ hx
  have e2 := V102t (ro := ro) (d := d) σ hy
  have p1 : 40 + nd < 933 := by omega
  have p2 : 46 + nd < 933 := by omega
  have p3 : 3 + nd < 933 := by omega
  have p4 : 9 + nd < 933 := by omega
  have p5 : 15 + nd < 933 := by omega
  have p6 : 21 + nd < 933 := by omega
  have p7 : 27 + nd < 933 := by omega
  have hn6 : ¬ nd = 6 := by omega
  generalize hb : ma_up (ma_up (ma_up (ma_up (ma_up (ma_up (ma_up σ 91 (40 + nd) x) 91 (46 + nd) y) 91 (3 + nd) (nI 0)) 91 (9 + nd) (nI 50)) 91 (15 + nd) (nI 0)) 91 (21 + nd) (nI 0)) 91 (27 + nd) (nI 0) = s0
  have q0 : ∀ o, ¬ o = 91 → s0 o = σ o := fun o ho => by rw [← hb, up_no ho, up_no ho, up_no ho, up_no ho, up_no ho, up_no ho, up_no ho]
  have qe : ∀ j, ¬ j = 40 + nd → ¬ j = 46 + nd → ¬ j = 3 + nd → ¬ j = 9 + nd → ¬ j = 15 + nd → ¬ j = 21 + nd → ¬ j = 27 + nd → s0 91 j = σ 91 j := fun j j1 j2 j3 j4 j5 j6 j7 => by rw [← hb, up_nk j7, up_nk j6, up_nk j5, up_nk j4, up_nk j3, up_nk j2, up_nk j1]
  have v40 : s0 91 (40 + nd) = x := by rw [← hb]; simp (disch := first | assumption | omega | exact zb_fit | exact hbf .. | (simp (disch := omega) only [up_no, up_nk, up_at, u_cp_no] <;> (first | assumption | omega)) | (simp only [hkF] <;> omega) | decide) only [Nat.reduceEqDiff, hkF, z_add, z_mul, up_at, up_no, up_nk, u_cp_no, ma_bd, ↓reduceIte, if_true, if_false, Option.toList, List.nil_append, List.cons_append]
  have v46 : s0 91 (46 + nd) = y := by rw [← hb]; simp (disch := first | assumption | omega | exact zb_fit | exact hbf .. | (simp (disch := omega) only [up_no, up_nk, up_at, u_cp_no] <;> (first | assumption | omega)) | (simp only [hkF] <;> omega) | decide) only [Nat.reduceEqDiff, hkF, z_add, z_mul, up_at, up_no, up_nk, u_cp_no, ma_bd, ↓reduceIte, if_true, if_false, Option.toList, List.nil_append, List.cons_append]
  have v3 : s0 91 (3 + nd) = nI 0 := by rw [← hb]; simp (disch := first | assumption | omega | exact zb_fit | exact hbf .. | (simp (disch := omega) only [up_no, up_nk, up_at, u_cp_no] <;> (first | assumption | omega)) | (simp only [hkF] <;> omega) | decide) only [Nat.reduceEqDiff, hkF, z_add, z_mul, up_at, up_no, up_nk, u_cp_no, ma_bd, ↓reduceIte, if_true, if_false, Option.toList, List.nil_append, List.cons_append]
  have v9 : s0 91 (9 + nd) = nI 50 := by rw [← hb]; simp (disch := first | assumption | omega | exact zb_fit | exact hbf .. | (simp (disch := omega) only [up_no, up_nk, up_at, u_cp_no] <;> (first | assumption | omega)) | (simp only [hkF] <;> omega) | decide) only [Nat.reduceEqDiff, hkF, z_add, z_mul, up_at, up_no, up_nk, u_cp_no, ma_bd, ↓reduceIte, if_true, if_false, Option.toList, List.nil_append, List.cons_append]
  have v15 : s0 91 (15 + nd) = nI 0 := by rw [← hb]; simp (disch := first | assumption | omega | exact zb_fit | exact hbf .. | (simp (disch := omega) only [up_no, up_nk, up_at, u_cp_no] <;> (first | assumption | omega)) | (simp only [hkF] <;> omega) | decide) only [Nat.reduceEqDiff, hkF, z_add, z_mul, up_at, up_no, up_nk, u_cp_no, ma_bd, ↓reduceIte, if_true, if_false, Option.toList, List.nil_append, List.cons_append]
  have v21 : s0 91 (21 + nd) = nI 0 := by rw [← hb]; simp (disch := first | assumption | omega | exact zb_fit | exact hbf .. | (simp (disch := omega) only [up_no, up_nk, up_at, u_cp_no] <;> (first | assumption | omega)) | (simp only [hkF] <;> omega) | decide) only [Nat.reduceEqDiff, hkF, z_add, z_mul, up_at, up_no, up_nk, u_cp_no, ma_bd, ↓reduceIte, if_true, if_false, Option.toList, List.nil_append, List.cons_append]
  have v27 : s0 91 (27 + nd) = nI 0 := by rw [← hb]; simp (disch := first | assumption | omega | exact zb_fit | exact hbf .. | (simp (disch := omega) only [up_no, up_nk, up_at, u_cp_no] <;> (first | assumption | omega)) | (simp only [hkF] <;> omega) | decide) only [Nat.reduceEqDiff, hkF, z_add, z_mul, up_at, up_no, up_nk, u_cp_no, ma_bd, ↓reduceIte, if_true, if_false, Option.toList, List.nil_append, List.cons_append]
  obtain ⟨⟨l', σ'⟩, e, hl, r1, r2, r3⟩ := ma_iter (fun z : ma_L × ma_H => ma_rn ro (d + 1) 128 (121, z.1, [], SH, z.2)) (fun k z => z.1 = [some (.ref 90), some (.int x), some (.int y), some (.int (nI nd)), some (.int (nI k))] ∧ (∀ j, j < k → z.2 91 (52 + 4 * nd + j) = nI 0) ∧ (∀ j, ¬ (52 + 4 * nd ≤ j ∧ j < 52 + 4 * nd + 4) → z.2 91 j = s0 91 j) ∧ ∀ o, ¬ o = 91 → z.2 o = s0 o) 4 (by
    rintro k hk ⟨l, s⟩ ⟨hl, h1, h2, h3⟩
    simp only at hl h1 h2 h3
    subst hl
    have hlk : 52 + 4 * nd + k < 933 := by omega
    refine ⟨([some (.ref 90), some (.int x), some (.int y), some (.int (nI nd)), some (.int (nI (k + 1)))], ma_up s 91 (52 + 4 * nd + k) (nI 0)), ?_, rfl, fun j hj => ?_, fun j hj => ?_, fun o ho => by show ma_up s 91 (52 + 4 * nd + k) (nI 0) o = s0 o; rw [up_no ho]; exact h3 o ho⟩
    · simp only
      rw [Sh128_121]
      simp (disch := first | assumption | omega | exact zb_fit | exact hbf .. | (simp (disch := omega) only [up_no, up_nk, up_at, u_cp_no] <;> (first | assumption | omega)) | (simp only [hkF] <;> omega) | decide) only [S128, z_lt, hk, hkF, z_add, z_mul, up_at, up_no, up_nk, u_cp_no, ma_bd, ↓reduceIte, if_true, if_false, Option.toList, List.nil_append, List.cons_append]
    · show ma_up s 91 (52 + 4 * nd + k) (nI 0) 91 _ = nI 0
      by_cases hjk : j = k
      · subst hjk; rw [up_at]
      · rw [up_nk (by omega)]; exact h1 j (by omega)
    · show ma_up s 91 (52 + 4 * nd + k) (nI 0) 91 _ = _
      rw [up_nk (by omega)]; exact h2 j hj) ([some (.ref 90), some (.int x), some (.int y), some (.int (nI nd)), some (.int (nI 0))], s0) ⟨rfl, fun j hj => by omega, fun _ _ => rfl, fun _ _ => rfl⟩
  simp only at e hl r1 r2 r3
  subst hl
  have s33 : σ' 91 33 = nI nd := by rw [r2 33 (by omega), qe 33 (by omega) (by omega) (by omega) (by omega) (by omega) (by omega) (by omega)]; exact h2
  refine ⟨ma_up σ' 91 33 (nI (nd + 1)), ?_, up_at _ _ _ _, by rw [up_nk (by omega), r2 _ (by omega)]; exact v40, by rw [up_nk (by omega), r2 _ (by omega)]; exact v46, by rw [up_nk (by omega), r2 _ (by omega)]; exact v3, by rw [up_nk (by omega), r2 _ (by omega)]; exact v9, by rw [up_nk (by omega), r2 _ (by omega)]; exact v15, by rw [up_nk (by omega), r2 _ (by omega)]; exact v21, by rw [up_nk (by omega), r2 _ (by omega)]; exact v27, fun k hk => by rw [up_nk (by omega)]; exact r1 k hk, fun j j0 j1 j2 j3 j4 j5 j6 j7 j8 => by rw [up_nk j0, r2 j j8]; exact qe j j1 j2 j3 j4 j5 j6 j7, fun o ho => by rw [up_no ho, r3 o ho]; exact q0 o ho⟩
  refine Eq.trans (?_ : _ = ma_rn ro (d + 1) 128 (121, [some (.ref 90), some (.int x), some (.int y), some (.int (nI nd)), some (.int (nI 0))], [], SH, s0)) (e.trans ?_)
  · simp (disch := first | assumption | omega | exact zb_fit | exact hbf .. | (simp (disch := omega) only [up_no, up_nk, up_at, u_cp_no] <;> (first | assumption | omega)) | (simp only [hkF] <;> omega) | decide) only [E128, S128, e1, e2, h2, hn6, hb, z_eq, Nat.reduceEqDiff, hkF, z_add, z_mul, up_at, up_no, up_nk, u_cp_no, ma_bd, ↓reduceIte, if_true, if_false, Option.toList, List.nil_append, List.cons_append]
  · rw [Sh128_121]
    simp (disch := first | assumption | omega | exact zb_fit | exact hbf .. | (simp (disch := omega) only [up_no, up_nk, up_at, u_cp_no] <;> (first | assumption | omega)) | (simp only [hkF] <;> omega) | decide) only [S128, z_lt, Nat.lt_irrefl, s33, hkF, z_add, z_mul, up_at, up_no, up_nk, u_cp_no, ma_bd, ↓reduceIte, if_true, if_false, Option.toList, List.nil_append, List.cons_append]
theorem C60 {ro : ma_RO} {d : Nat} (σ : ma_H) (hG : G σ) (x y : Int32) : ∃ r σ1 σ2, ma_ev ro (d + 3) 60 [.ref 0, .int x, .int y] SH σ = some (some (.int r), SH, σ1) ∧ ma_ev ro (d + 3) 128 [.ref 90, .int x, .int y] SH σ1 = some (some (.int r), SH, σ2) ∧ G σ2 := by
  obtain ⟨nd, cs, wo, hg⟩ := hG.1
  obtain ⟨h1, h2, h3, h4, h5, h6, h7, h8, h9, h10, h11, h12, h13, h14, h15, h16, h17, h18, h19, h20, h21⟩ := GS_open hg
  by_cases hx : x < nI 0 ∨ nI 6 < x
  · have e88 := V88t (ro := ro) (d := d + 2) σ hx
    have e102 := V102f (ro := ro) (d := d + 2) σ hx
    exact ⟨_, σ, σ, by simp (disch := first | assumption | omega | exact zb_fit | exact hbf .. | (simp (disch := omega) only [up_no, up_nk, up_at, u_cp_no] <;> (first | assumption | omega)) | (simp only [hkF] <;> omega) | decide) only [E60, S60, e88, z_eq, Nat.reduceEqDiff, hkF, z_add, z_mul, up_at, up_no, up_nk, u_cp_no, ma_bd, ↓reduceIte, if_true, if_false, Option.toList, List.nil_append, List.cons_append]; rfl, by simp (disch := first | assumption | omega | exact zb_fit | exact hbf .. | (simp (disch := omega) only [up_no, up_nk, up_at, u_cp_no] <;> (first | assumption | omega)) | (simp only [hkF] <;> omega) | decide) only [E128, S128, e102, z_eq, Nat.reduceEqDiff, hkF, z_add, z_mul, up_at, up_no, up_nk, u_cp_no, ma_bd, ↓reduceIte, if_true, if_false, Option.toList, List.nil_append, List.cons_append], hG⟩
  have e88 := V88f (ro := ro) (d := d + 2) σ hx
  by_cases hy : y < nI 0 ∨ nI 9 < y
  · have f88 := V88t (ro := ro) (d := d + 2) σ hy
    have e102 := V102t (ro := ro) (d := d + 2) σ hx
    have f102 := V102f (ro := ro) (d := d + 2) σ hy
    exact ⟨_, σ, σ, by simp (disch := first | assumption | omega | exact zb_fit | exact hbf .. | (simp (disch := omega) only [up_no, up_nk, up_at, u_cp_no] <;> (first | assumption | omega)) | (simp only [hkF] <;> omega) | decide) only [E60, S60, e88, f88, z_eq, Nat.reduceEqDiff, hkF, z_add, z_mul, up_at, up_no, up_nk, u_cp_no, ma_bd, ↓reduceIte, if_true, if_false, Option.toList, List.nil_append, List.cons_append]; rfl, by simp (disch := first | assumption | omega | exact zb_fit | exact hbf .. | (simp (disch := omega) only [up_no, up_nk, up_at, u_cp_no] <;> (first | assumption | omega)) | (simp only [hkF] <;> omega) | decide) only [E128, S128, e102, f102, z_eq, Nat.reduceEqDiff, hkF, z_add, z_mul, up_at, up_no, up_nk, u_cp_no, ma_bd, ↓reduceIte, if_true, if_false, Option.toList, List.nil_append, List.cons_append], hG⟩
  have f88 := V88f (ro := ro) (d := d + 2) σ hy
  by_cases hn : nd = 6
  · subst hn
    have e51 := V51n (ro := ro) (d := d + 1) σ x y h15.1
    have e102 := V102t (ro := ro) (d := d + 2) σ hx
    have f102 := V102t (ro := ro) (d := d + 2) σ hy
    exact ⟨_, σ, σ, by simp (disch := first | assumption | omega | exact zb_fit | exact hbf .. | (simp (disch := omega) only [up_no, up_nk, up_at, u_cp_no] <;> (first | assumption | omega)) | (simp only [hkF] <;> omega) | decide) only [E60, S60, e88, f88, e51, z_eq, Nat.reduceEqDiff, hkF, z_add, z_mul, up_at, up_no, up_nk, u_cp_no, ma_bd, ↓reduceIte, if_true, if_false, Option.toList, List.nil_append, List.cons_append]; rfl, by simp (disch := first | assumption | omega | exact zb_fit | exact hbf .. | (simp (disch := omega) only [up_no, up_nk, up_at, u_cp_no] <;> (first | assumption | omega)) | (simp only [hkF] <;> omega) | decide) only [E128, S128, e102, f102, h2, z_eq, Nat.reduceEqDiff, hkF, z_add, z_mul, up_at, up_no, up_nk, u_cp_no, ma_bd, ↓reduceIte, if_true, if_false, Option.toList, List.nil_append, List.cons_append], hG⟩
  obtain ⟨s1, e51, a1, a2, a3, a4, a5⟩ := V51 (ro := ro) (d := d + 1) σ nd x y h15.1 (by omega)
  have s91 : s1 91 = σ 91 := a5 91 (by omega) (by omega) (by omega)
  obtain ⟨s2, e128, b33, b40, b46, b3, b9, b15, b21, b27, b52, be, bo⟩ := V128 (ro := ro) (d := d + 2) s1 nd x y (by rw [s91]; exact h2) (by omega) hx hy
  have e : ∀ j, ¬ j = 33 → ¬ j = 40 + nd → ¬ j = 46 + nd → ¬ j = 3 + nd → ¬ j = 9 + nd → ¬ j = 15 + nd → ¬ j = 21 + nd → ¬ j = 27 + nd → ¬ (52 + 4 * nd ≤ j ∧ j < 52 + 4 * nd + 4) → s2 91 j = σ 91 j := fun j j0 j1 j2 j3 j4 j5 j6 j7 j8 => by rw [be j j0 j1 j2 j3 j4 j5 j6 j7 j8, s91]
  have ehi : ∀ j, 76 ≤ j → s2 91 j = σ 91 j := fun j hj => e j (by omega) (by omega) (by omega) (by omega) (by omega) (by omega) (by omega) (by omega) (by omega)
  have emi : ∀ j, (34 ≤ j ∧ j < 40) ∨ j < 3 → s2 91 j = σ 91 j := fun j hj => e j (by omega) (by omega) (by omega) (by omega) (by omega) (by omega) (by omega) (by omega) (by omega)
  have a : ∀ o, ¬ o = 91 → ¬ o = 2 → ¬ o = 2 + 1 + 1 + 2 * nd → ¬ o = 2 + 1 + 1 + 2 * nd + 1 → s2 o = σ o := fun o o1 o2 o3 o4 => by rw [bo o o1]; exact a5 o o2 o3 o4
  have hvD : ∀ p, p < nd → ∀ j, vD (s2 91) p j = vD (σ 91) p j := by
    intro p hp j
    unfold vD
    rw [e (40 + p) (by omega) (by omega) (by omega) (by omega) (by omega) (by omega) (by omega) (by omega) (by omega), e (46 + p) (by omega) (by omega) (by omega) (by omega) (by omega) (by omega) (by omega) (by omega) (by omega), e (3 + p) (by omega) (by omega) (by omega) (by omega) (by omega) (by omega) (by omega) (by omega) (by omega), e (9 + p) (by omega) (by omega) (by omega) (by omega) (by omega) (by omega) (by omega) (by omega) (by omega), e (15 + p) (by omega) (by omega) (by omega) (by omega) (by omega) (by omega) (by omega) (by omega) (by omega), e (21 + p) (by omega) (by omega) (by omega) (by omega) (by omega) (by omega) (by omega) (by omega) (by omega), e (27 + p) (by omega) (by omega) (by omega) (by omega) (by omega) (by omega) (by omega) (by omega) (by omega)]
  have vN : ∀ j, j < 8 → vD (s2 91) nd j = if j = 0 then nI nd else if j = 1 then x else if j = 2 then y else if j = 4 then nI 50 else nI 0 := by
    intro j hj
    unfold vD
    rw [b40, b46, b3, b9, b15, b21, b27]
    have : j = 0 ∨ j = 1 ∨ j = 2 ∨ j = 3 ∨ j = 4 ∨ j = 5 ∨ j = 6 ∨ j = 7 := by omega
    rcases this with rfl | rfl | rfl | rfl | rfl | rfl | rfl | rfl <;> simp
  refine ⟨nI nd, s1, s2, ?_, e128, ?_⟩
  · have y1 : s1 (1 + 1) 1 = nI (nd + 1) := a1
    have y2 : nI (nd + 1) - nI 1 = nI nd := add_subI nd 1
    simp (disch := first | assumption | omega | exact zb_fit | exact hbf .. | (simp (disch := omega) only [up_no, up_nk, up_at, u_cp_no] <;> (first | assumption | omega)) | (simp only [hkF] <;> omega) | decide) only [E60, S60, e88, f88, e51, y1, y2, z_eq, Nat.reduceEqDiff, hkF, z_add, z_mul, up_at, up_no, up_nk, u_cp_no, ma_bd, ↓reduceIte, if_true, if_false, Option.toList, List.nil_append, List.cons_append]
  · refine G_mk hG ⟨nd + 1, cs, wo, GS_mk (by omega) b33 h3 (HMr_c2 (emi 39 (by omega)) (fun k hk => ehi k (by omega)) h4) (fun p hp => ?_) (by rw [emi 0 (by omega)]; exact h6) (by rw [emi 1 (by omega)]; exact h7) (by rw [emi 2 (by omega)]; exact h8) (fun p hp => ?_) (q6c (emi 34 (by omega)) (emi 39 (by omega)) h10) (q7c (by omega) (emi 35 (by omega)) (fun k h1 h2 => ehi k (by omega)) h11) (q8c (by omega) (emi 36 (by omega)) (fun k h1 h2 => ehi k (by omega)) h12) (q9c (by omega) (emi 37 (by omega)) (fun k h1 h2 => ehi k (by omega)) h13) (q10c (emi 38 (by omega)) (fun k h1 h2 => ehi k (by omega)) h14) ?_ (HXr_congr (fun o h1 h2 => a o (by omega) (by omega) (by omega) (by omega)) h16) (by rw [a 1 (by omega) (by omega) (by omega) (by omega), emi 34 (by omega)]; exact h17) (t4c (by rw [a 1 (by omega) (by omega) (by omega) (by omega)]) (a _ (by omega) (by omega) (by omega) (by omega)) (emi 38 (by omega)) (fun k h1 h2 => ehi k (by omega)) h18) (t5c (fun o h1 h2 => a o (by omega) (by omega) (by omega) (by omega)) (emi 35 (by omega)) (fun k h1 h2 => ehi k (by omega)) h19) (t6c (fun o h1 h2 => a o (by omega) (by omega) (by omega) (by omega)) (emi 36 (by omega)) (fun k h1 h2 => ehi k (by omega)) h20) (t7c (fun o h1 h2 => a o (by omega) (by omega) (by omega) (by omega)) (emi 37 (by omega)) (fun k h1 h2 => ehi k (by omega)) h21)⟩ (fun o ho => a o (by omega) (by omega) (by omega) (by omega)) (fun q hq => ?_) (by rw [a 90 (by omega) (by omega) (by omega) (by omega)]) (by rw [a 90 (by omega) (by omega) (by omega) (by omega)])
    · by_cases hpn : p = nd
      · subst hpn
        refine IvD_congr vN ?_
        exact ⟨⟨0, by decide, rfl⟩, ⟨50, by decide, rfl⟩, ⟨0, by decide, rfl⟩, ⟨0, by decide, rfl⟩, ⟨0, by decide, rfl⟩⟩
      · exact IvD_congr (fun j _ => hvD p (by omega) j) (h5 p (by omega))
    · by_cases hpn : p = nd
      · subst hpn
        rw [b40, b46]
        exact ⟨Rg_of (by decide) hx, Rg_of (by decide) hy, fun k hk => by rw [b52 k hk]; exact ⟨0, by decide, rfl⟩⟩
      · have := h9 p (by omega)
        rw [e (40 + p) (by omega) (by omega) (by omega) (by omega) (by omega) (by omega) (by omega) (by omega) (by omega), e (46 + p) (by omega) (by omega) (by omega) (by omega) (by omega) (by omega) (by omega) (by omega) (by omega)]
        exact ⟨this.1, this.2.1, fun k hk => by rw [e (52 + 4 * p + k) (by omega) (by omega) (by omega) (by omega) (by omega) (by omega) (by omega) (by omega) (by omega)]; exact this.2.2 k hk⟩
    · obtain ⟨w1, w2, w3, w4, w5⟩ := h15
      refine ⟨by rw [bo _ (by omega)]; exact a1, by rw [bo _ (by omega), emi 1 (by omega)]; exact (a2 2 (by decide)).trans w2, by rw [bo _ (by omega), emi 0 (by omega)]; exact (a2 3 (by decide)).trans w3, by rw [bo _ (by omega), emi 2 (by omega)]; exact (a2 4 (by decide)).trans w4, fun p hp => ?_⟩
      by_cases hpn : p = nd
      · subst hpn
        refine ⟨fun j hj => ?_, fun k hk => ?_⟩
        · rw [bo _ (by omega), vN j hj]
          refine (a3 j hj).trans ?_
          rw [show σ (2 + 1 + 1 + 2 * p) 0 = nI p from (congrFun (congrArg σ (by omega)) 0).trans (hG.2.1 p (by omega))]
        · rw [bo _ (by omega)]
          exact (a4 k hk).trans (b52 k hk).symm
      · obtain ⟨d1, d2⟩ := w5 p (by omega)
        refine ⟨fun j hj => by rw [a _ (by omega) (by omega) (by omega) (by omega), hvD p (by omega)]; exact d1 j hj, fun k hk => ?_⟩
        rw [a _ (by omega) (by omega) (by omega) (by omega)]
        refine (d2 k hk).trans ?_
        exact (e (52 + 4 * p + k) (by omega) (by omega) (by omega) (by omega) (by omega) (by omega) (by omega) (by omega) (by omega)).symm
    · by_cases hqn : q = nd
      · subst hqn
        rw [bo _ (by omega), show 4 + 2 * q = 2 + 1 + 1 + 2 * q by omega, a3 0 (by decide), if_pos rfl]
        exact (congrFun (congrArg σ (by omega)) 0).trans (hG.2.1 q (by omega))
      · rw [a _ (by omega) (by omega) (by omega) (by omega)]; exact hG.2.1 q hq
