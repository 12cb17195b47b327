theorem V164 {ro : ma_RO} {d : Nat} (σ : ma_H) (r : Nat) (n : Int32) (h : σ 90 13 = nI r) (hr : r < 20) : ma_ev ro d 164 [.ref 90, .int n] SH σ = some (none, SH, lgM σ r [n]) := by
  show _ = some (none, SH, ma_up (ma_up σ 96 r n) 90 13 (nI (r + 1)))
  have hl : r < hk_len 96 := hr
  simp (disch := first | assumption | omega | exact zb_fit | exact hbf .. | (simp (disch := omega) only [up_no, up_nk, up_at, u_cp_no] <;> (first | assumption | omega)) | (simp only [hkF] <;> omega) | decide) only [E164, S164, h, z_lt, hr, hkF, z_add, z_mul, up_at, up_no, up_nk, u_cp_no, ma_bd, ↓reduceIte, if_true, if_false, Option.toList, List.nil_append, List.cons_append]
theorem M165 {ro : ma_RO} {d : Nat} (K b : Nat) (hK : K ≤ 6) (hb : b ≤ 6) (σ : ma_H) : ma_ev ro d 165 [.int (nI K), .int (nI b)] SH σ = some (some (.int (if undK K b = true then nI 1 else nI 0)), SH, σ) := by
  rw [V165]
  by_cases hu : undK K b = true
  · have hu' := of_decide_eq_true hu
    rw [if_pos hu, zb_t]
    rw [z_eq (by omega) (by omega), z_eq (by omega) (by omega), z_lt (by omega) (by omega), z_lt (by omega) (by omega), z_add, z_eq (by omega) (by omega)]
    rcases hu' with h | h | h
    · exact .inl h
    · exact .inr (.inl h.symm)
    · exact .inr (.inr h)
  · have hu' : ¬ (b = 0 ∨ K = b ∨ (0 < b ∧ b < 4 ∧ K = b + 3)) := fun k => hu (decide_eq_true k)
    rw [if_neg hu, zb_f]
    rw [z_eq (by omega) (by omega), z_eq (by omega) (by omega), z_lt (by omega) (by omega), z_lt (by omega) (by omega), z_add, z_eq (by omega) (by omega)]
    rintro (h | h | h)
    · exact hu' (.inl h)
    · exact hu' (.inr (.inl h.symm))
    · exact hu' (.inr (.inr h))
theorem M166 {ro : ma_RO} {d : Nat} (σ : ma_H) (r : Nat) (x : Int32) (h : σ 90 13 = nI r) (hr : r < 20) : ma_ev ro (d + 1) 166 [.ref 90, .int x] SH σ = some (some (.int (x + σ 90 15)), SH, lgM σ r [nI 1]) := by
  have e1 := V164 (ro := ro) (d := d) σ r (nI 1) h hr
  have g : lgM σ r [nI 1] 90 15 = σ 90 15 := lgM_nk _ _ (by decide) _ _
  simp (disch := first | assumption | omega | exact zb_fit | exact hbf .. | (simp (disch := omega) only [up_no, up_nk, up_at, u_cp_no] <;> (first | assumption | omega)) | (simp only [hkF] <;> omega) | decide) only [E166, S166, e1, g, hkF, z_add, z_mul, up_at, up_no, up_nk, u_cp_no, ma_bd, ↓reduceIte, if_true, if_false, Option.toList, List.nil_append, List.cons_append]
theorem M167 {ro : ma_RO} {d : Nat} (σ : ma_H) (r : Nat) (x : Int32) (h : σ 90 13 = nI r) (hr : r + 2 ≤ 20) (K : Nat) (hK : K ≤ 6) (hk : σ 90 14 = nI K) : ma_ev ro (d + 2) 167 [.ref 90, .int x] SH σ = some (some (.int (ckV K x (σ 90 15))), SH, lgM σ r (ckL K)) := by
  have u := fun s => M165 (ro := ro) (d := d + 1) K 1 hK (by decide) s
  have p0 := M166 (ro := ro) (d := d) σ r x h (by omega)
  have l11 := V164 (ro := ro) (d := d + 1) σ r (nI 11) h (by omega)
  have l51 := V164 (ro := ro) (d := d + 1) σ r (nI 51) h (by omega)
  have gk : ∀ n j, ¬ j = 13 → lgM σ r [n] 90 j = σ 90 j := fun n j hj => lgM_nk _ _ hj _ _
  have p11 := M166 (ro := ro) (d := d) (lgM σ r [nI 11]) (r + 1) (x * nI 3) (lgM_90 _ _ _ h) (by omega)
  have p51 := M166 (ro := ro) (d := d) (lgM σ r [nI 51]) (r + 1) x (lgM_90 _ _ _ h) (by omega)
  rw [gk _ _ (by decide)] at p11 p51
  have j1 : lgM (lgM σ r [nI 11]) (r + 1) [nI 1] = lgM σ r [nI 11, nI 1] := rfl
  have j5 : lgM (lgM σ r [nI 51]) (r + 1) [nI 1] = lgM σ r [nI 51, nI 1] := rfl
  rw [j1] at p11
  rw [j5] at p51
  have g51 : lgM σ r [nI 51, nI 1] 90 15 = σ 90 15 := lgM_nk _ _ (by decide) _ _
  have c : K = 0 ∨ K = 1 ∨ K = 2 ∨ K = 3 ∨ K = 4 ∨ K = 5 ∨ K = 6 := by omega
  rcases c with rfl | rfl | rfl | rfl | rfl | rfl | rfl
  · have u1 : ∀ s, ma_ev ro (d + 1) 165 [.int (nI 0), .int (nI 1)] SH s = some (some (.int (nI 0)), SH, s) := u
    refine Eq.trans (?_ : _ = some (some (.int (x + σ 90 15)), SH, lgM σ r [nI 1])) rfl
    simp (disch := first | assumption | omega | exact zb_fit | exact hbf .. | (simp (disch := omega) only [up_no, up_nk, up_at, u_cp_no] <;> (first | assumption | omega)) | (simp only [hkF] <;> omega) | decide) only [E167, S167, hk, u1, p0, z_eq, Nat.reduceEqDiff, hkF, z_add, z_mul, up_at, up_no, up_nk, u_cp_no, ma_bd, ↓reduceIte, if_true, if_false, Option.toList, List.nil_append, List.cons_append]
  · have u1 : ∀ s, ma_ev ro (d + 1) 165 [.int (nI 1), .int (nI 1)] SH s = some (some (.int (nI 1)), SH, s) := u
    refine Eq.trans (?_ : _ = some (some (.int (x * nI 3 + σ 90 15)), SH, lgM σ r [nI 11, nI 1])) rfl
    simp (disch := first | assumption | omega | exact zb_fit | exact hbf .. | (simp (disch := omega) only [up_no, up_nk, up_at, u_cp_no] <;> (first | assumption | omega)) | (simp only [hkF] <;> omega) | decide) only [E167, S167, hk, u1, l11, p11, z_eq, Nat.reduceEqDiff, hkF, z_add, z_mul, up_at, up_no, up_nk, u_cp_no, ma_bd, ↓reduceIte, if_true, if_false, Option.toList, List.nil_append, List.cons_append]
  · have u1 : ∀ s, ma_ev ro (d + 1) 165 [.int (nI 2), .int (nI 1)] SH s = some (some (.int (nI 0)), SH, s) := u
    refine Eq.trans (?_ : _ = some (some (.int (x + σ 90 15)), SH, lgM σ r [nI 1])) rfl
    simp (disch := first | assumption | omega | exact zb_fit | exact hbf .. | (simp (disch := omega) only [up_no, up_nk, up_at, u_cp_no] <;> (first | assumption | omega)) | (simp only [hkF] <;> omega) | decide) only [E167, S167, hk, u1, p0, z_eq, Nat.reduceEqDiff, hkF, z_add, z_mul, up_at, up_no, up_nk, u_cp_no, ma_bd, ↓reduceIte, if_true, if_false, Option.toList, List.nil_append, List.cons_append]
  · have u1 : ∀ s, ma_ev ro (d + 1) 165 [.int (nI 3), .int (nI 1)] SH s = some (some (.int (nI 0)), SH, s) := u
    refine Eq.trans (?_ : _ = some (some (.int (x + σ 90 15)), SH, lgM σ r [nI 1])) rfl
    simp (disch := first | assumption | omega | exact zb_fit | exact hbf .. | (simp (disch := omega) only [up_no, up_nk, up_at, u_cp_no] <;> (first | assumption | omega)) | (simp only [hkF] <;> omega) | decide) only [E167, S167, hk, u1, p0, z_eq, Nat.reduceEqDiff, hkF, z_add, z_mul, up_at, up_no, up_nk, u_cp_no, ma_bd, ↓reduceIte, if_true, if_false, Option.toList, List.nil_append, List.cons_append]
  · have u1 : ∀ s, ma_ev ro (d + 1) 165 [.int (nI 4), .int (nI 1)] SH s = some (some (.int (nI 1)), SH, s) := u
    refine Eq.trans (?_ : _ = some (some (.int (x * nI 3 + σ 90 15)), SH, lgM σ r [nI 11, nI 1])) rfl
    simp (disch := first | assumption | omega | exact zb_fit | exact hbf .. | (simp (disch := omega) only [up_no, up_nk, up_at, u_cp_no] <;> (first | assumption | omega)) | (simp only [hkF] <;> omega) | decide) only [E167, S167, hk, u1, l11, p11, z_eq, Nat.reduceEqDiff, hkF, z_add, z_mul, up_at, up_no, up_nk, u_cp_no, ma_bd, ↓reduceIte, if_true, if_false, Option.toList, List.nil_append, List.cons_append]
  · have u1 : ∀ s, ma_ev ro (d + 1) 165 [.int (nI 5), .int (nI 1)] SH s = some (some (.int (nI 0)), SH, s) := u
    refine Eq.trans (?_ : _ = some (some (.int ((x + σ 90 15) ^^^ σ 90 15)), SH, lgM σ r [nI 51, nI 1])) rfl
    simp (disch := first | assumption | omega | exact zb_fit | exact hbf .. | (simp (disch := omega) only [up_no, up_nk, up_at, u_cp_no] <;> (first | assumption | omega)) | (simp only [hkF] <;> omega) | decide) only [E167, S167, hk, u1, l51, p51, g51, z_eq, Nat.reduceEqDiff, hkF, z_add, z_mul, up_at, up_no, up_nk, u_cp_no, ma_bd, ↓reduceIte, if_true, if_false, Option.toList, List.nil_append, List.cons_append]
  · have u1 : ∀ s, ma_ev ro (d + 1) 165 [.int (nI 6), .int (nI 1)] SH s = some (some (.int (nI 0)), SH, s) := u
    refine Eq.trans (?_ : _ = some (some (.int (x + σ 90 15)), SH, lgM σ r [nI 1])) rfl
    simp (disch := first | assumption | omega | exact zb_fit | exact hbf .. | (simp (disch := omega) only [up_no, up_nk, up_at, u_cp_no] <;> (first | assumption | omega)) | (simp only [hkF] <;> omega) | decide) only [E167, S167, hk, u1, p0, z_eq, Nat.reduceEqDiff, hkF, z_add, z_mul, up_at, up_no, up_nk, u_cp_no, ma_bd, ↓reduceIte, if_true, if_false, Option.toList, List.nil_append, List.cons_append]
theorem M168 {ro : ma_RO} {d : Nat} (σ : ma_H) (r : Nat) (x : Int32) (h : σ 90 13 = nI r) (hr : r + 3 ≤ 20) (K : Nat) (hK : K ≤ 6) (hk : σ 90 14 = nI K) : ma_ev ro (d + 3) 168 [.ref 90, .int x] SH σ = some (some (.int (ckV K x (σ 90 15) - σ 90 16)), SH, lgM σ r (nI 2 :: ckL K)) := by
  have l2 := V164 (ro := ro) (d := d + 2) σ r (nI 2) h (by omega)
  have gk : ∀ n j, ¬ j = 13 → lgM σ r [n] 90 j = σ 90 j := fun n j hj => lgM_nk _ _ hj _ _
  have c := M167 (ro := ro) (d := d) (lgM σ r [nI 2]) (r + 1) x (lgM_90 _ _ _ h) (by omega) K hK (by rw [gk _ _ (by decide)]; exact hk)
  have j : lgM (lgM σ r [nI 2]) (r + 1) (ckL K) = lgM σ r (nI 2 :: ckL K) := rfl
  rw [gk _ _ (by decide), j] at c
  have g : lgM σ r (nI 2 :: ckL K) 90 16 = σ 90 16 := lgM_nk _ _ (by decide) _ _
  simp (disch := first | assumption | omega | exact zb_fit | exact hbf .. | (simp (disch := omega) only [up_no, up_nk, up_at, u_cp_no] <;> (first | assumption | omega)) | (simp only [hkF] <;> omega) | decide) only [E168, S168, l2, c, g, hkF, z_add, z_mul, up_at, up_no, up_nk, u_cp_no, ma_bd, ↓reduceIte, if_true, if_false, Option.toList, List.nil_append, List.cons_append]
theorem M169 {ro : ma_RO} {d : Nat} (σ : ma_H) (r : Nat) (x : Int32) (h : σ 90 13 = nI r) (hr : r + 4 ≤ 20) (K : Nat) (hK : K ≤ 6) (hk : σ 90 14 = nI K) : ma_ev ro (d + 4) 169 [.ref 90, .int x] SH σ = some (some (.int (puV K K x (σ 90 15) (σ 90 16))), SH, lgM σ r (puL K K)) := by
  have u := fun s => M165 (ro := ro) (d := d + 3) K 2 hK (by decide) s
  have p0 := M168 (ro := ro) (d := d) σ r x h (by omega) K hK hk
  have l21 := V164 (ro := ro) (d := d + 3) σ r (nI 21) h (by omega)
  have l61 := V164 (ro := ro) (d := d + 3) σ r (nI 61) h (by omega)
  have gk : ∀ n j, ¬ j = 13 → lgM σ r [n] 90 j = σ 90 j := fun n j hj => lgM_nk _ _ hj _ _
  have p21 := M168 (ro := ro) (d := d) (lgM σ r [nI 21]) (r + 1) x (lgM_90 _ _ _ h) (by omega) K hK (by rw [gk _ _ (by decide)]; exact hk)
  have p61 := M168 (ro := ro) (d := d) (lgM σ r [nI 61]) (r + 1) x (lgM_90 _ _ _ h) (by omega) K hK (by rw [gk _ _ (by decide)]; exact hk)
  rw [gk _ _ (by decide), gk _ _ (by decide)] at p21 p61
  have j1 : lgM (lgM σ r [nI 21]) (r + 1) (nI 2 :: ckL K) = lgM σ r (nI 21 :: nI 2 :: ckL K) := rfl
  have j6 : lgM (lgM σ r [nI 61]) (r + 1) (nI 2 :: ckL K) = lgM σ r (nI 61 :: nI 2 :: ckL K) := rfl
  rw [j1] at p21
  rw [j6] at p61
  have g61 : lgM σ r (nI 61 :: nI 2 :: ckL K) 90 16 = σ 90 16 := lgM_nk _ _ (by decide) _ _
  have c : K = 0 ∨ K = 1 ∨ K = 2 ∨ K = 3 ∨ K = 4 ∨ K = 5 ∨ K = 6 := by omega
  rcases c with rfl | rfl | rfl | rfl | rfl | rfl | rfl
  · have u1 : ∀ s, ma_ev ro (d + 3) 165 [.int (nI 0), .int (nI 2)] SH s = some (some (.int (nI 0)), SH, s) := u
    refine Eq.trans ?_ p0
    simp (disch := first | assumption | omega | exact zb_fit | exact hbf .. | (simp (disch := omega) only [up_no, up_nk, up_at, u_cp_no] <;> (first | assumption | omega)) | (simp only [hkF] <;> omega) | decide) only [E169, S169, hk, u1, p0, z_eq, Nat.reduceEqDiff, hkF, z_add, z_mul, up_at, up_no, up_nk, u_cp_no, ma_bd, ↓reduceIte, if_true, if_false, Option.toList, List.nil_append, List.cons_append]
  · have u1 : ∀ s, ma_ev ro (d + 3) 165 [.int (nI 1), .int (nI 2)] SH s = some (some (.int (nI 0)), SH, s) := u
    refine Eq.trans ?_ p0
    simp (disch := first | assumption | omega | exact zb_fit | exact hbf .. | (simp (disch := omega) only [up_no, up_nk, up_at, u_cp_no] <;> (first | assumption | omega)) | (simp only [hkF] <;> omega) | decide) only [E169, S169, hk, u1, p0, z_eq, Nat.reduceEqDiff, hkF, z_add, z_mul, up_at, up_no, up_nk, u_cp_no, ma_bd, ↓reduceIte, if_true, if_false, Option.toList, List.nil_append, List.cons_append]
  · have u1 : ∀ s, ma_ev ro (d + 3) 165 [.int (nI 2), .int (nI 2)] SH s = some (some (.int (nI 1)), SH, s) := u
    refine Eq.trans (?_ : _ = some (some (.int (-(ckV 2 x (σ 90 15) - σ 90 16))), SH, lgM σ r (nI 21 :: nI 2 :: ckL 2))) rfl
    simp (disch := first | assumption | omega | exact zb_fit | exact hbf .. | (simp (disch := omega) only [up_no, up_nk, up_at, u_cp_no] <;> (first | assumption | omega)) | (simp only [hkF] <;> omega) | decide) only [E169, S169, hk, u1, l21, p21, z_eq, Nat.reduceEqDiff, hkF, z_add, z_mul, up_at, up_no, up_nk, u_cp_no, ma_bd, ↓reduceIte, if_true, if_false, Option.toList, List.nil_append, List.cons_append]
  · have u1 : ∀ s, ma_ev ro (d + 3) 165 [.int (nI 3), .int (nI 2)] SH s = some (some (.int (nI 0)), SH, s) := u
    refine Eq.trans ?_ p0
    simp (disch := first | assumption | omega | exact zb_fit | exact hbf .. | (simp (disch := omega) only [up_no, up_nk, up_at, u_cp_no] <;> (first | assumption | omega)) | (simp only [hkF] <;> omega) | decide) only [E169, S169, hk, u1, p0, z_eq, Nat.reduceEqDiff, hkF, z_add, z_mul, up_at, up_no, up_nk, u_cp_no, ma_bd, ↓reduceIte, if_true, if_false, Option.toList, List.nil_append, List.cons_append]
  · have u1 : ∀ s, ma_ev ro (d + 3) 165 [.int (nI 4), .int (nI 2)] SH s = some (some (.int (nI 0)), SH, s) := u
    refine Eq.trans ?_ p0
    simp (disch := first | assumption | omega | exact zb_fit | exact hbf .. | (simp (disch := omega) only [up_no, up_nk, up_at, u_cp_no] <;> (first | assumption | omega)) | (simp only [hkF] <;> omega) | decide) only [E169, S169, hk, u1, p0, z_eq, Nat.reduceEqDiff, hkF, z_add, z_mul, up_at, up_no, up_nk, u_cp_no, ma_bd, ↓reduceIte, if_true, if_false, Option.toList, List.nil_append, List.cons_append]
  · have u1 : ∀ s, ma_ev ro (d + 3) 165 [.int (nI 5), .int (nI 2)] SH s = some (some (.int (nI 1)), SH, s) := u
    refine Eq.trans (?_ : _ = some (some (.int (-(ckV 5 x (σ 90 15) - σ 90 16))), SH, lgM σ r (nI 21 :: nI 2 :: ckL 5))) rfl
    simp (disch := first | assumption | omega | exact zb_fit | exact hbf .. | (simp (disch := omega) only [up_no, up_nk, up_at, u_cp_no] <;> (first | assumption | omega)) | (simp only [hkF] <;> omega) | decide) only [E169, S169, hk, u1, l21, p21, z_eq, Nat.reduceEqDiff, hkF, z_add, z_mul, up_at, up_no, up_nk, u_cp_no, ma_bd, ↓reduceIte, if_true, if_false, Option.toList, List.nil_append, List.cons_append]
  · have u1 : ∀ s, ma_ev ro (d + 3) 165 [.int (nI 6), .int (nI 2)] SH s = some (some (.int (nI 0)), SH, s) := u
    refine Eq.trans (?_ : _ = some (some (.int (ckV 6 x (σ 90 15) - σ 90 16 + σ 90 16)), SH, lgM σ r (nI 61 :: nI 2 :: ckL 6))) rfl
    simp (disch := first | assumption | omega | exact zb_fit | exact hbf .. | (simp (disch := omega) only [up_no, up_nk, up_at, u_cp_no] <;> (first | assumption | omega)) | (simp only [hkF] <;> omega) | decide) only [E169, S169, hk, u1, l61, p61, g61, z_eq, Nat.reduceEqDiff, hkF, z_add, z_mul, up_at, up_no, up_nk, u_cp_no, ma_bd, ↓reduceIte, if_true, if_false, Option.toList, List.nil_append, List.cons_append]
theorem M170 {ro : ma_RO} {d : Nat} (σ : ma_H) (r : Nat) (x : Int32) (h : σ 90 13 = nI r) (hr : r + 5 ≤ 20) (K : Nat) (hK : K ≤ 6) (hk : σ 90 14 = nI K) : ma_ev ro (d + 5) 170 [.ref 90, .int x] SH σ = some (some (.int (puV K K x (σ 90 15) (σ 90 16) * nI 2)), SH, lgM σ r (nI 3 :: puL K K)) := by
  have l2 := V164 (ro := ro) (d := d + 4) σ r (nI 3) h (by omega)
  have gk : ∀ n j, ¬ j = 13 → lgM σ r [n] 90 j = σ 90 j := fun n j hj => lgM_nk _ _ hj _ _
  have c := M169 (ro := ro) (d := d) (lgM σ r [nI 3]) (r + 1) x (lgM_90 _ _ _ h) (by omega) K hK (by rw [gk _ _ (by decide)]; exact hk)
  have j : lgM (lgM σ r [nI 3]) (r + 1) (puL K K) = lgM σ r (nI 3 :: puL K K) := rfl
  rw [gk _ _ (by decide), gk _ _ (by decide), j] at c
  simp (disch := first | assumption | omega | exact zb_fit | exact hbf .. | (simp (disch := omega) only [up_no, up_nk, up_at, u_cp_no] <;> (first | assumption | omega)) | (simp only [hkF] <;> omega) | decide) only [E170, S170, l2, c, hkF, z_add, z_mul, up_at, up_no, up_nk, u_cp_no, ma_bd, ↓reduceIte, if_true, if_false, Option.toList, List.nil_append, List.cons_append]
theorem M171 {ro : ma_RO} {d : Nat} (σ : ma_H) (r : Nat) (x : Int32) (h : σ 90 13 = nI r) (hr : r + 8 ≤ 20) (K : Nat) (hK : K ≤ 6) (hk : σ 90 14 = nI K) : ma_ev ro (d + 6) 171 [.ref 90, .int x] SH σ = some (some (.int (loV K x (σ 90 15) (σ 90 16))), SH, lgM σ r (loL K)) := by
  have u := fun s => M165 (ro := ro) (d := d + 5) K 3 hK (by decide) s
  have p0 := M170 (ro := ro) (d := d) σ r x h (by omega) K hK hk
  have l31 := V164 (ro := ro) (d := d + 5) σ r (nI 31) h (by omega)
  have l41 := V164 (ro := ro) (d := d + 5) σ r (nI 41) h (by omega)
  have gk : ∀ n j, ¬ j = 13 → lgM σ r [n] 90 j = σ 90 j := fun n j hj => lgM_nk _ _ hj _ _
  have p31 := M170 (ro := ro) (d := d) (lgM σ r [nI 31]) (r + 1) x (lgM_90 _ _ _ h) (by omega) K hK (by rw [gk _ _ (by decide)]; exact hk)
  have p41 := M170 (ro := ro) (d := d) (lgM σ r [nI 41]) (r + 1) (x - nI 1) (lgM_90 _ _ _ h) (by omega) K hK (by rw [gk _ _ (by decide)]; exact hk)
  rw [gk _ _ (by decide), gk _ _ (by decide)] at p31 p41
  have j1 : lgM (lgM σ r [nI 31]) (r + 1) (nI 3 :: puL K K) = lgM σ r (nI 31 :: nI 3 :: puL K K) := rfl
  have j4 : lgM (lgM σ r [nI 41]) (r + 1) (nI 3 :: puL K K) = lgM σ r (nI 41 :: nI 3 :: puL K K) := rfl
  rw [j1] at p31
  rw [j4] at p41
  have pl := puL_len K K
  have gm : ∀ j, ¬ j = 13 → lgM σ r (nI 41 :: nI 3 :: puL K K) 90 j = σ 90 j := fun j hj => lgM_nk _ _ hj _ _
  have cl := M167 (ro := ro) (d := d + 3) (lgM σ r (nI 41 :: nI 3 :: puL K K)) (r + (nI 41 :: nI 3 :: puL K K).length) (nI 2) (lgM_90 _ _ _ h) (by simp only [List.length_cons]; omega) K hK (by rw [gm _ (by decide)]; exact hk)
  rw [gm _ (by decide), lgM_app] at cl
  have hbf : ∀ (x0 x1 : Option Value), ma_bef [x0, x1, none] 2 = false → True := fun _ _ _ => trivial
  have c : K = 0 ∨ K = 1 ∨ K = 2 ∨ K = 3 ∨ K = 4 ∨ K = 5 ∨ K = 6 := by omega
  rcases c with rfl | rfl | rfl | rfl | rfl | rfl | rfl
  · have u1 : ∀ s, ma_ev ro (d + 5) 165 [.int (nI 0), .int (nI 3)] SH s = some (some (.int (nI 0)), SH, s) := u
    refine Eq.trans ?_ p0
    simp (disch := first | assumption | omega | exact zb_fit | exact hbf .. | (simp (disch := omega) only [up_no, up_nk, up_at, u_cp_no] <;> (first | assumption | omega)) | (simp only [hkF] <;> omega) | decide) only [E171, S171, hk, u1, p0, z_eq, Nat.reduceEqDiff, hkF, z_add, z_mul, up_at, up_no, up_nk, u_cp_no, ma_bd, ↓reduceIte, if_true, if_false, Option.toList, List.nil_append, List.cons_append]
  · have u1 : ∀ s, ma_ev ro (d + 5) 165 [.int (nI 1), .int (nI 3)] SH s = some (some (.int (nI 0)), SH, s) := u
    refine Eq.trans ?_ p0
    simp (disch := first | assumption | omega | exact zb_fit | exact hbf .. | (simp (disch := omega) only [up_no, up_nk, up_at, u_cp_no] <;> (first | assumption | omega)) | (simp only [hkF] <;> omega) | decide) only [E171, S171, hk, u1, p0, z_eq, Nat.reduceEqDiff, hkF, z_add, z_mul, up_at, up_no, up_nk, u_cp_no, ma_bd, ↓reduceIte, if_true, if_false, Option.toList, List.nil_append, List.cons_append]
  · have u1 : ∀ s, ma_ev ro (d + 5) 165 [.int (nI 2), .int (nI 3)] SH s = some (some (.int (nI 0)), SH, s) := u
    refine Eq.trans ?_ p0
    simp (disch := first | assumption | omega | exact zb_fit | exact hbf .. | (simp (disch := omega) only [up_no, up_nk, up_at, u_cp_no] <;> (first | assumption | omega)) | (simp only [hkF] <;> omega) | decide) only [E171, S171, hk, u1, p0, z_eq, Nat.reduceEqDiff, hkF, z_add, z_mul, up_at, up_no, up_nk, u_cp_no, ma_bd, ↓reduceIte, if_true, if_false, Option.toList, List.nil_append, List.cons_append]
  · have u1 : ∀ s, ma_ev ro (d + 5) 165 [.int (nI 3), .int (nI 3)] SH s = some (some (.int (nI 1)), SH, s) := u
    refine Eq.trans (?_ : _ = some (some (.int ((puV 3 3 x (σ 90 15) (σ 90 16) * nI 2) ^^^ nI 7)), SH, lgM σ r (nI 31 :: nI 3 :: puL 3 3))) rfl
    simp (disch := first | assumption | omega | exact zb_fit | exact hbf .. | (simp (disch := omega) only [up_no, up_nk, up_at, u_cp_no] <;> (first | assumption | omega)) | (simp only [hkF] <;> omega) | decide) only [E171, S171, hk, u1, l31, p31, z_eq, Nat.reduceEqDiff, hkF, z_add, z_mul, up_at, up_no, up_nk, u_cp_no, ma_bd, ↓reduceIte, if_true, if_false, Option.toList, List.nil_append, List.cons_append]
  · have u1 : ∀ s, ma_ev ro (d + 5) 165 [.int (nI 4), .int (nI 3)] SH s = some (some (.int (nI 0)), SH, s) := u
    refine Eq.trans (?_ : _ = some (some (.int (puV 4 4 (x - nI 1) (σ 90 15) (σ 90 16) * nI 2 + ckV 4 (nI 2) (σ 90 15))), SH, lgM σ r ((nI 41 :: nI 3 :: puL 4 4) ++ ckL 4))) rfl
    simp (disch := first | assumption | omega | exact zb_fit | exact hbf .. | (simp (disch := omega) only [up_no, up_nk, up_at, u_cp_no] <;> (first | assumption | omega)) | (simp only [hkF] <;> omega) | decide) only [E171, S171, hk, u1, l41, p41, cl, z_eq, Nat.reduceEqDiff, hkF, z_add, z_mul, up_at, up_no, up_nk, u_cp_no, ma_bd, ↓reduceIte, if_true, if_false, Option.toList, List.nil_append, List.cons_append]
  · have u1 : ∀ s, ma_ev ro (d + 5) 165 [.int (nI 5), .int (nI 3)] SH s = some (some (.int (nI 0)), SH, s) := u
    refine Eq.trans ?_ p0
    simp (disch := first | assumption | omega | exact zb_fit | exact hbf .. | (simp (disch := omega) only [up_no, up_nk, up_at, u_cp_no] <;> (first | assumption | omega)) | (simp only [hkF] <;> omega) | decide) only [E171, S171, hk, u1, p0, z_eq, Nat.reduceEqDiff, hkF, z_add, z_mul, up_at, up_no, up_nk, u_cp_no, ma_bd, ↓reduceIte, if_true, if_false, Option.toList, List.nil_append, List.cons_append]
  · have u1 : ∀ s, ma_ev ro (d + 5) 165 [.int (nI 6), .int (nI 3)] SH s = some (some (.int (nI 1)), SH, s) := u
    refine Eq.trans (?_ : _ = some (some (.int ((puV 6 6 x (σ 90 15) (σ 90 16) * nI 2) ^^^ nI 7)), SH, lgM σ r (nI 31 :: nI 3 :: puL 6 6))) rfl
    simp (disch := first | assumption | omega | exact zb_fit | exact hbf .. | (simp (disch := omega) only [up_no, up_nk, up_at, u_cp_no] <;> (first | assumption | omega)) | (simp only [hkF] <;> omega) | decide) only [E171, S171, hk, u1, l31, p31, z_eq, Nat.reduceEqDiff, hkF, z_add, z_mul, up_at, up_no, up_nk, u_cp_no, ma_bd, ↓reduceIte, if_true, if_false, Option.toList, List.nil_append, List.cons_append]
/-- the relation behind an act -/
theorem G_act {σ σ' : ma_H} (hG : G σ) (a : ∀ o, (o ≤ 64 ∨ o = 91 ∨ o = 92) → σ' o = σ o) (h4 : σ' 90 4 = σ 90 4) (rn : Nat) (hr : rn ≤ 60) (h1 : σ' 86 1 = nI rn) (h2 : σ' 90 13 = nI rn) (h3 : ∀ k, k < rn → k < 20 → σ' 87 k = σ' 96 k) : G σ' := by
  obtain ⟨⟨nd, cs, wo, hg⟩, g2, ⟨f, f1, f2, f3, f4⟩, -⟩ := hG
  have e91 := a 91 (by omega)
  have e92 := a 92 (by omega)
  refine ⟨⟨nd, cs, wo, by rw [e91]; exact GS_cell (fun o ho => a o (by omega)) hg⟩, fun p hp => by rw [a _ (by omega)]; exact g2 p hp, ⟨f, f1, by rw [a 0 (by omega)]; exact f2, by rw [h4]; exact f3, fun hf => ?_⟩, ⟨rn, hr, h1, h2, h3⟩⟩
  obtain ⟨nd', cs', wo', q1, q2, q3, q4, q5, q6⟩ := f4 hf
  refine ⟨nd', cs', wo', q1, by rw [e92]; exact q2, q3, by rw [e92]; exact q4, by rw [e92]; exact q5, ?_⟩
  rw [e92]
  exact RWh_low (fun _ _ => rfl) (RWd_congr q1 (fun o g1 g2 => a o (by omega)) q6.1) (fun o ho => a o (by omega)) q6
theorem C82 {ro : ma_RO} (hro : ro 3000000 = some (7, ma_abv)) {d : Nat} (σ : ma_H) (hG : G σ) (x y z : Int32) : ∃ r σ1 σ2, ma_ev ro (d + 13) 82 [.ref 0, .int x, .int y, .int z] SH σ = some (some (.int r), SH, σ1) ∧ ma_ev ro (d + 13) 172 [.ref 90, .int x, .int y, .int z] SH σ1 = some (some (.int r), SH, σ2) ∧ G σ2 := by
  obtain ⟨nd, cs, wo, hg⟩ := hG.1
  obtain ⟨k1, k2, k3, k4, ⟨i1, i2, i3, i4, i5, i6⟩, k6⟩ := hg
  have w1 := k6.1.1
  have w5 := k6.1.2.2.2.2
  have kw := hkWh_1.2.1
  generalize hs0 : ma_up σ 86 1 (nI 0) = s0
  have a0 : ∀ o, ¬ o = 86 → s0 o = σ o := fun o ho => by rw [← hs0, up_no ho]
  have s086 : s0 86 1 = nI 0 := by rw [← hs0, up_at]
  -- refused
  have REF : ∀ s, (∀ o, ¬ o = 86 → s o = σ o) → s 86 1 = nI 0 → G (ma_up s 90 13 (nI 0)) := fun s ha h0 => G_act hG (fun o ho => by rw [up_no (by omega)]; exact ha o (by omega)) (by rw [up_nk (by decide), ha 90 (by decide)]) 0 (by decide) (by rw [up_no (by decide)]; exact h0) (up_at _ _ _ _) (fun k hk => by omega)
  rcases Or.symm (dcases x nd (by omega)) with hx | ⟨p, hp, rfl⟩
  · have e50 := V50n (ro := ro) (d := d + 12) s0 2 nd x kw (by rw [a0 2 (by decide)]; exact w1) hx
    have e103 := V103n (ro := ro) (d := d + 11) (ma_up s0 90 13 (nI 0)) x nd k1 (by rw [up_no (by decide), a0 91 (by decide)]; exact k2) hx
    exact ⟨nI 0, s0, _, by simp (disch := first | assumption | omega | exact zb_fit | exact hbf .. | (simp (disch := omega) only [up_no, up_nk, up_at, u_cp_no] <;> (first | assumption | omega)) | (simp only [hkF] <;> omega) | decide) only [E82, S82, hs0, e50, hkF, z_add, z_mul, up_at, up_no, up_nk, u_cp_no, ma_bd, ↓reduceIte, if_true, if_false, Option.toList, List.nil_append, List.cons_append], by simp (disch := first | assumption | omega | exact zb_fit | exact hbf .. | (simp (disch := omega) only [up_no, up_nk, up_at, u_cp_no] <;> (first | assumption | omega)) | (simp only [hkF] <;> omega) | decide) only [E172, S172, e103, z_eq, Nat.reduceEqDiff, hkF, z_add, z_mul, up_at, up_no, up_nk, u_cp_no, ma_bd, ↓reduceIte, if_true, if_false, Option.toList, List.nil_append, List.cons_append], REF s0 a0 s086⟩
  have e50 := V50 (ro := ro) (d := d + 12) s0 2 p nd kw (by rw [a0 2 (by decide)]; exact w1) k1 hp
  have kd := kw.2.2.2 p (by omega)
  have kd1 := kd.1
  obtain ⟨K, hK, hK'⟩ := (i5 p hp).1
  have ap : 2 + 1 + 1 + 2 * p < 80 := by omega
  have dd := (w5 p hp).1
  have d0 : s0 (2 + 1 + 1 + 2 * p) 0 = nI p := by rw [a0 _ (by omega)]; exact dd 0 (by decide)
  have d1 : s0 (2 + 1 + 1 + 2 * p) 1 = nI K := by rw [a0 _ (by omega)]; exact (dd 1 (by decide)).trans hK'
  have d2 : s0 (2 + 1 + 1 + 2 * p) 2 = σ 91 (46 + p) := by rw [a0 _ (by omega)]; exact dd 2 (by decide)
  by_cases h : y < nI 0 ∨ nI 2 < y
  · have n0 : ∀ k, k ≤ 2 → ¬ y = nI k := by
      rintro k hk rfl
      rw [z_lt (by omega) (by decide), z_lt (by decide) (by omega)] at h
      omega
    have m0 := n0 0 (by decide)
    have m1 := n0 1 (by decide)
    have m2 := n0 2 (by decide)
    have e103 := V103p (ro := ro) (d := d + 11) (ma_up s0 90 13 (nI 0)) p nd k1 (by rw [up_no (by decide), a0 91 (by decide)]; exact k2) hp
    have e102 := V102f (ro := ro) (d := d + 12) (ma_up s0 90 13 (nI 0)) h
    exact ⟨nI 0, s0, _, by simp (disch := first | assumption | omega | exact zb_fit | exact hbf .. | (simp (disch := omega) only [up_no, up_nk, up_at, u_cp_no] <;> (first | assumption | omega)) | (simp only [hkF] <;> omega) | decide) only [E82, S82, hs0, e50, m0, m1, m2, hkF, z_add, z_mul, up_at, up_no, up_nk, u_cp_no, ma_bd, ↓reduceIte, if_true, if_false, Option.toList, List.nil_append, List.cons_append], by simp (disch := first | assumption | omega | exact zb_fit | exact hbf .. | (simp (disch := omega) only [up_no, up_nk, up_at, u_cp_no] <;> (first | assumption | omega)) | (simp only [hkF] <;> omega) | decide) only [E172, S172, e103, e102, z_eq, Nat.reduceEqDiff, hkF, z_add, z_mul, up_at, up_no, up_nk, u_cp_no, ma_bd, ↓reduceIte, if_true, if_false, Option.toList, List.nil_append, List.cons_append], REF s0 a0 s086⟩
  obtain ⟨b, hb, rfl⟩ := Rg_of (by decide) h
  -- what the reference starts from
  have START : ∀ s1, (∀ o, ¬ o = 86 → ¬ o = 87 → s1 o = σ o) → ∃ t, t 90 13 = nI 0 ∧ t 90 14 = nI K ∧ t 90 15 = nI p ∧ t 90 16 = σ 91 (46 + p) ∧ t 90 4 = σ 90 4 ∧ (∀ o, ¬ o = 90 → t o = s1 o) ∧ ma_up (ma_up (ma_up (ma_up s1 90 13 (nI 0)) 90 14 (nI K)) 90 15 (nI p)) 90 16 (σ 91 (46 + p)) = t := fun s1 ha => ⟨_, by simp (disch := first | assumption | omega | exact zb_fit | exact hbf .. | (simp (disch := omega) only [up_no, up_nk, up_at, u_cp_no] <;> (first | assumption | omega)) | (simp only [hkF] <;> omega) | decide) only [Nat.reduceEqDiff, hkF, z_add, z_mul, up_at, up_no, up_nk, u_cp_no, ma_bd, ↓reduceIte, if_true, if_false, Option.toList, List.nil_append, List.cons_append], by simp (disch := first | assumption | omega | exact zb_fit | exact hbf .. | (simp (disch := omega) only [up_no, up_nk, up_at, u_cp_no] <;> (first | assumption | omega)) | (simp only [hkF] <;> omega) | decide) only [Nat.reduceEqDiff, hkF, z_add, z_mul, up_at, up_no, up_nk, u_cp_no, ma_bd, ↓reduceIte, if_true, if_false, Option.toList, List.nil_append, List.cons_append], by simp (disch := first | assumption | omega | exact zb_fit | exact hbf .. | (simp (disch := omega) only [up_no, up_nk, up_at, u_cp_no] <;> (first | assumption | omega)) | (simp only [hkF] <;> omega) | decide) only [Nat.reduceEqDiff, hkF, z_add, z_mul, up_at, up_no, up_nk, u_cp_no, ma_bd, ↓reduceIte, if_true, if_false, Option.toList, List.nil_append, List.cons_append], by simp (disch := first | assumption | omega | exact zb_fit | exact hbf .. | (simp (disch := omega) only [up_no, up_nk, up_at, u_cp_no] <;> (first | assumption | omega)) | (simp only [hkF] <;> omega) | decide) only [Nat.reduceEqDiff, hkF, z_add, z_mul, up_at, up_no, up_nk, u_cp_no, ma_bd, ↓reduceIte, if_true, if_false, Option.toList, List.nil_append, List.cons_append], by rw [up_nk (by decide), up_nk (by decide), up_nk (by decide), up_nk (by decide), ha 90 (by decide) (by decide)], fun o ho => by rw [up_no ho, up_no ho, up_no ho, up_no ho], rfl⟩
  have FIN : ∀ (l : List Int32) (t : ma_H), l.length ≤ 20 → t 90 4 = σ 90 4 → t 90 13 = nI 0 → (∀ o, ¬ o = 90 → t o = lgX s0 0 l o) → G (lgM t 0 l) := by
    intro l t hl h4 h13 ht
    have c0 : ∀ o, ¬ o = 86 → ¬ o = 87 → ¬ o = 90 → ¬ o = 96 → lgM t 0 l o = σ o := fun o o1 o2 o3 o4 => by rw [lgM_no _ _ o3 o4, ht o o3, lgX_no _ _ o1 o2]; exact a0 o o1
    refine G_act hG (fun o ho => c0 o (by omega) (by omega) (by omega) (by omega)) (by rw [lgM_nk _ _ (by decide)]; exact h4) l.length (by omega) ?_ ?_ (fun k hk hk2 => ?_)
    · rw [lgM_no _ _ (by decide) (by decide), ht 86 (by decide), lgX_86 _ _ _ s086, Nat.zero_add]
    · rw [lgM_90 _ _ _ h13, Nat.zero_add]
    · rw [lgM_no l 87 (by decide) (by decide), ht 87 (by decide)]
      exact lg_eq l k s0 t 0 (by omega) (by omega)
  have p40 : 40 + p < 933 := by omega
  have p46 : 46 + p < 933 := by omega
  have c3 : b = 0 ∨ b = 1 ∨ b = 2 := by omega
  have lens := ckL_len K
  have lenp := puL_len K K
  rcases c3 with rfl | rfl | rfl
  · have ex := V3 hro (d := d + 8) s0 (2 + 1 + 1 + 2 * p) 0 0 z kd1 ap s086 (by decide) (by decide) K hK
    rw [d0] at ex
    have s1o : ∀ o, ¬ o = 86 → ¬ o = 87 → lgX s0 0 (ckL K) o = σ o := fun o o1 o2 => by rw [lgX_no _ _ o1 o2]; exact a0 o o1
    obtain ⟨t, t13, t14, t15, t16, t4, to, ht⟩ := START (lgX s0 0 (ckL K)) s1o
    have em := M167 (ro := ro) (d := d + 10) t 0 z t13 (by decide) K hK t14
    rw [t15] at em
    refine ⟨_, lgX s0 0 (ckL K), _, by simp (disch := first | assumption | omega | exact zb_fit | exact hbf .. | (simp (disch := omega) only [up_no, up_nk, up_at, u_cp_no] <;> (first | assumption | omega)) | (simp only [hkF] <;> omega) | decide) only [E82, S82, hs0, e50, d1, ex, z_eq, Nat.reduceEqDiff, hkF, z_add, z_mul, up_at, up_no, up_nk, u_cp_no, ma_bd, ↓reduceIte, if_true, if_false, Option.toList, List.nil_append, List.cons_append]; rfl, ?_, FIN (ckL K) t (by omega) t4 t13 to⟩
    generalize hs1 : lgX s0 0 (ckL K) = s1
    rw [hs1] at ht
    have q91 : s1 91 = σ 91 := by rw [← hs1]; exact s1o 91 (by decide) (by decide)
    have e103 := V103p (ro := ro) (d := d + 11) (ma_up s1 90 13 (nI 0)) p nd k1 (by rw [up_no (by decide), q91]; exact k2) hp
    have e102 := V102t (ro := ro) (d := d + 12) (ma_up s1 90 13 (nI 0)) h
    have q40 : s1 91 (40 + p) = nI K := by rw [q91]; exact hK'
    have q46 : s1 91 (46 + p) = σ 91 (46 + p) := by rw [q91]
    simp (disch := first | assumption | omega | exact zb_fit | exact hbf .. | (simp (disch := omega) only [up_no, up_nk, up_at, u_cp_no] <;> (first | assumption | omega)) | (simp only [hkF] <;> omega) | decide) only [E172, S172, e103, e102, q40, q46, ht, em, z_eq, Nat.reduceEqDiff, hkF, z_add, z_mul, up_at, up_no, up_nk, u_cp_no, ma_bd, ↓reduceIte, if_true, if_false, Option.toList, List.nil_append, List.cons_append]
  · have ex := V4 hro (d := d + 4) s0 (2 + 1 + 1 + 2 * p) 0 0 z kd1 ap s086 (by decide) (by decide) K hK d1 K hK
    rw [d0, d2] at ex
    have s1o : ∀ o, ¬ o = 86 → ¬ o = 87 → lgX s0 0 (puL K K) o = σ o := fun o o1 o2 => by rw [lgX_no _ _ o1 o2]; exact a0 o o1
    obtain ⟨t, t13, t14, t15, t16, t4, to, ht⟩ := START (lgX s0 0 (puL K K)) s1o
    have em := M169 (ro := ro) (d := d + 8) t 0 z t13 (by decide) K hK t14
    rw [t15, t16] at em
    refine ⟨_, lgX s0 0 (puL K K), _, by simp (disch := first | assumption | omega | exact zb_fit | exact hbf .. | (simp (disch := omega) only [up_no, up_nk, up_at, u_cp_no] <;> (first | assumption | omega)) | (simp only [hkF] <;> omega) | decide) only [E82, S82, hs0, e50, d1, ex, z_eq, Nat.reduceEqDiff, hkF, z_add, z_mul, up_at, up_no, up_nk, u_cp_no, ma_bd, ↓reduceIte, if_true, if_false, Option.toList, List.nil_append, List.cons_append]; rfl, ?_, FIN (puL K K) t (by omega) t4 t13 to⟩
    generalize hs1 : lgX s0 0 (puL K K) = s1
    rw [hs1] at ht
    have q91 : s1 91 = σ 91 := by rw [← hs1]; exact s1o 91 (by decide) (by decide)
    have e103 := V103p (ro := ro) (d := d + 11) (ma_up s1 90 13 (nI 0)) p nd k1 (by rw [up_no (by decide), q91]; exact k2) hp
    have e102 := V102t (ro := ro) (d := d + 12) (ma_up s1 90 13 (nI 0)) h
    have q40 : s1 91 (40 + p) = nI K := by rw [q91]; exact hK'
    have q46 : s1 91 (46 + p) = σ 91 (46 + p) := by rw [q91]
    simp (disch := first | assumption | omega | exact zb_fit | exact hbf .. | (simp (disch := omega) only [up_no, up_nk, up_at, u_cp_no] <;> (first | assumption | omega)) | (simp only [hkF] <;> omega) | decide) only [E172, S172, e103, e102, q40, q46, ht, em, z_eq, Nat.reduceEqDiff, hkF, z_add, z_mul, up_at, up_no, up_nk, u_cp_no, ma_bd, ↓reduceIte, if_true, if_false, Option.toList, List.nil_append, List.cons_append]
  · have ex := V5 hro (d := d) s0 (2 + 1 + 1 + 2 * p) 0 0 z kd1 ap s086 (by decide) (by decide) K hK d1
    rw [d0, d2] at ex
    have s1o : ∀ o, ¬ o = 86 → ¬ o = 87 → lgX s0 0 (loL K) o = σ o := fun o o1 o2 => by rw [lgX_no _ _ o1 o2]; exact a0 o o1
    obtain ⟨t, t13, t14, t15, t16, t4, to, ht⟩ := START (lgX s0 0 (loL K)) s1o
    have em := M171 (ro := ro) (d := d + 6) t 0 z t13 (by decide) K hK t14
    rw [t15, t16] at em
    have ll : (loL K).length ≤ 20 := by
      unfold loL
      split
      · simp only [List.length_cons]; omega
      · split
        · simp only [List.length_cons, List.length_append]; omega
        · simp only [List.length_cons]; omega
    refine ⟨_, lgX s0 0 (loL K), _, by simp (disch := first | assumption | omega | exact zb_fit | exact hbf .. | (simp (disch := omega) only [up_no, up_nk, up_at, u_cp_no] <;> (first | assumption | omega)) | (simp only [hkF] <;> omega) | decide) only [E82, S82, hs0, e50, d1, ex, z_eq, Nat.reduceEqDiff, hkF, z_add, z_mul, up_at, up_no, up_nk, u_cp_no, ma_bd, ↓reduceIte, if_true, if_false, Option.toList, List.nil_append, List.cons_append]; rfl, ?_, FIN (loL K) t ll t4 t13 to⟩
    generalize hs1 : lgX s0 0 (loL K) = s1
    rw [hs1] at ht
    have q91 : s1 91 = σ 91 := by rw [← hs1]; exact s1o 91 (by decide) (by decide)
    have e103 := V103p (ro := ro) (d := d + 11) (ma_up s1 90 13 (nI 0)) p nd k1 (by rw [up_no (by decide), q91]; exact k2) hp
    have e102 := V102t (ro := ro) (d := d + 12) (ma_up s1 90 13 (nI 0)) h
    have q40 : s1 91 (40 + p) = nI K := by rw [q91]; exact hK'
    have q46 : s1 91 (46 + p) = σ 91 (46 + p) := by rw [q91]
    simp (disch := first | assumption | omega | exact zb_fit | exact hbf .. | (simp (disch := omega) only [up_no, up_nk, up_at, u_cp_no] <;> (first | assumption | omega)) | (simp only [hkF] <;> omega) | decide) only [E172, S172, e103, e102, q40, q46, ht, em, z_eq, Nat.reduceEqDiff, hkF, z_add, z_mul, up_at, up_no, up_nk, u_cp_no, ma_bd, ↓reduceIte, if_true, if_false, Option.toList, List.nil_append, List.cons_append]
