/-! Acts: the bodies that run, on both sides. -/
def lgX (σ : ma_H) (r : Nat) : List Int32 → ma_H
  | [] => σ
  | n :: l => lgX (ma_up (ma_up σ 87 r n) 86 1 (nI (r + 1))) (r + 1) l
def lgM (σ : ma_H) (r : Nat) : List Int32 → ma_H
  | [] => σ
  | n :: l => lgM (ma_up (ma_up σ 96 r n) 90 13 (nI (r + 1))) (r + 1) l
theorem lgX_app (l1 l2 : List Int32) : ∀ (σ : ma_H) (r : Nat), lgX (lgX σ r l1) (r + l1.length) l2 = lgX σ r (l1 ++ l2) := by
  induction l1 with
  | nil => intro σ r; rfl
  | cons n l ih => intro σ r; rw [List.length_cons, show r + (l.length + 1) = r + 1 + l.length by omega]; exact ih _ _
theorem lgM_app (l1 l2 : List Int32) : ∀ (σ : ma_H) (r : Nat), lgM (lgM σ r l1) (r + l1.length) l2 = lgM σ r (l1 ++ l2) := by
  induction l1 with
  | nil => intro σ r; rfl
  | cons n l ih => intro σ r; rw [List.length_cons, show r + (l.length + 1) = r + 1 + l.length by omega]; exact ih _ _
theorem lgX_86 (l : List Int32) : ∀ (σ : ma_H) (r : Nat), σ 86 1 = nI r → lgX σ r l 86 1 = nI (r + l.length) := by
  induction l with
  | nil => intro σ r h; exact h
  | cons n l ih => intro σ r h; rw [List.length_cons, show r + (l.length + 1) = r + 1 + l.length by omega]; exact ih _ _ (up_at _ _ _ _)
theorem lgM_90 (l : List Int32) : ∀ (σ : ma_H) (r : Nat), σ 90 13 = nI r → lgM σ r l 90 13 = nI (r + l.length) := by
  induction l with
  | nil => intro σ r h; exact h
  | cons n l ih => intro σ r h; rw [List.length_cons, show r + (l.length + 1) = r + 1 + l.length by omega]; exact ih _ _ (up_at _ _ _ _)
theorem lgX_no (l : List Int32) (o : Nat) (h1 : ¬ o = 86) (h2 : ¬ o = 87) : ∀ (σ : ma_H) (r : Nat), lgX σ r l o = σ o := by
  induction l with
  | nil => intro σ r; rfl
  | cons n l ih => intro σ r; exact (ih _ _).trans (by rw [up_no h1, up_no h2])
theorem lgM_no (l : List Int32) (o : Nat) (h1 : ¬ o = 90) (h2 : ¬ o = 96) : ∀ (σ : ma_H) (r : Nat), lgM σ r l o = σ o := by
  induction l with
  | nil => intro σ r; rfl
  | cons n l ih => intro σ r; exact (ih _ _).trans (by rw [up_no h1, up_no h2])
theorem lgM_nk (l : List Int32) (j : Nat) (h1 : ¬ j = 13) : ∀ (σ : ma_H) (r : Nat), lgM σ r l 90 j = σ 90 j := by
  induction l with
  | nil => intro σ r; rfl
  | cons n l ih => intro σ r; exact (ih _ _).trans (by rw [up_nk h1, up_no (by decide)])
theorem lgX_lo (l : List Int32) (k : Nat) : ∀ (σ : ma_H) (r : Nat), k < r → lgX σ r l 87 k = σ 87 k := by
  induction l with
  | nil => intro σ r h; rfl
  | cons n l ih => intro σ r h; exact (ih _ _ (by omega)).trans (by rw [up_no (by decide), up_nk (by omega)])
theorem lgM_lo (l : List Int32) (k : Nat) : ∀ (σ : ma_H) (r : Nat), k < r → lgM σ r l 96 k = σ 96 k := by
  induction l with
  | nil => intro σ r h; rfl
  | cons n l ih => intro σ r h; exact (ih _ _ (by omega)).trans (by rw [up_no (by decide), up_nk (by omega)])
theorem lg_eq (l : List Int32) (k : Nat) : ∀ (σ s : ma_H) (r : Nat), r ≤ k → k < r + l.length → lgX σ r l 87 k = lgM s r l 96 k := by
  induction l with
  | nil => intro σ s r h1 h2; exact absurd h2 (by simp; omega)
  | cons n l ih =>
    intro σ s r h1 h2
    rw [List.length_cons] at h2
    by_cases hk : k = r
    · subst hk
      refine (lgX_lo l k _ _ (by omega)).trans (Eq.trans ?_ (lgM_lo l k _ _ (by omega)).symm)
      rw [up_no (by decide), up_at, up_no (by decide), up_at]
    · exact ih _ _ _ (by omega) (by omega)
theorem V1 {ro : ma_RO} {d : Nat} (σ : ma_H) (r : Nat) (n : Int32) (h : σ 86 1 = nI r) (hr : r < 20) : ma_ev ro d 1 [.ref 86, .int n] SH σ = some (none, SH, lgX σ r [n]) := by
  show _ = some (none, SH, ma_up (ma_up σ 87 r n) 86 1 (nI (r + 1)))
  have ha : hk_alen 87 = 20 := rfl
  have hl : r < hk_len 87 := hr
  simp (disch := first | assumption | omega | exact zb_fit | exact hbf .. | (simp (disch := omega) only [up_no, up_nk, up_at, u_cp_no] <;> (first | assumption | omega)) | (simp only [hkF] <;> omega) | decide) only [E1, S1, h, z_lt, Nat.not_lt_zero, ha, hr, hkF, z_add, z_mul, up_at, up_no, up_nk, u_cp_no, ma_bd, ↓reduceIte, if_true, if_false, Option.toList, List.nil_append, List.cons_append]
def ckL (k : Nat) : List Int32 := if k = 1 ∨ k = 4 then [nI 11, nI 1] else if k = 5 then [nI 51, nI 1] else [nI 1]
def ckV (k : Nat) (x p : Int32) : Int32 := if k = 1 ∨ k = 4 then x * nI 3 + p else if k = 5 then (x + p) ^^^ p else x + p
theorem V3_0 {ro : ma_RO} {d : Nat} (σ : ma_H) (a r e : Nat) (x : Int32) (ka : hk_cls a = 1) (ha : a < 80) (h : σ 86 1 = nI r) (hr : r < 20) (he : e ≤ 30) : ma_ev ro (d + 1) 3 [.ref 86, .ref a, .int (nI 0), .int x, .int (nI e)] SH σ = some (some (.int (x + σ a 0)), SH, lgX σ r [nI 1]) := by
  have e1 := V1 (ro := ro) (d := d) σ r (nI 1) h hr
  have he2 : ¬ 40 < e := by omega
  have g0 : lgX σ r [nI 1] a 0 = σ a 0 := by rw [lgX_no _ _ (by omega) (by omega)]
  simp (disch := first | assumption | omega | exact zb_fit | exact hbf .. | (simp (disch := omega) only [up_no, up_nk, up_at, u_cp_no] <;> (first | assumption | omega)) | (simp only [hkF] <;> omega) | decide) only [E3, S3, z_lt, he2, e1, g0, z_eq, Nat.reduceEqDiff, hkF, z_add, z_mul, up_at, up_no, up_nk, u_cp_no, ma_bd, ↓reduceIte, if_true, if_false, Option.toList, List.nil_append, List.cons_append]
theorem V3 {ro : ma_RO} (hro : ro 3000000 = some (7, ma_abv)) {d : Nat} (σ : ma_H) (a r e : Nat) (x : Int32) (ka : hk_cls a = 1) (ha : a < 80) (h : σ 86 1 = nI r) (hr : r + 2 ≤ 20) (he : e ≤ 20) (k : Nat) (hk : k ≤ 6) : ma_ev ro (d + 4) 3 [.ref 86, .ref a, .int (nI k), .int x, .int (nI e)] SH σ = some (some (.int (ckV k x (σ a 0))), SH, lgX σ r (ckL k)) := by
  have he2 : ¬ 40 < e := by omega
  have he3 : ¬ 40 < e + 1 := by omega
  have he4 : ¬ 40 < e + 1 + 1 := by omega
  have v1 : ∀ d' (s : ma_H), ma_ev ro d' 89 [.int (nI 1)] SH s = some (some (.int (nI 0)), SH, s) := fun d' s => V89 hro 1 (by decide) s
  have v2 : ∀ d' (s : ma_H), ma_ev ro d' 89 [.int (nI 2)] SH s = some (some (.int (nI 0)), SH, s) := fun d' s => V89 hro 2 (by decide) s
  have v3 : ∀ d' (s : ma_H), ma_ev ro d' 89 [.int (nI 3)] SH s = some (some (.int (nI 0)), SH, s) := fun d' s => V89 hro 3 (by decide) s
  have v4 : ∀ d' (s : ma_H), ma_ev ro d' 89 [.int (nI 4)] SH s = some (some (.int (nI 1)), SH, s) := fun d' s => V89 hro 4 (by decide) s
  have v5 : ∀ d' (s : ma_H), ma_ev ro d' 89 [.int (nI 5)] SH s = some (some (.int (nI 2)), SH, s) := fun d' s => V89 hro 5 (by decide) s
  have v6 : ∀ d' (s : ma_H), ma_ev ro d' 89 [.int (nI 6)] SH s = some (some (.int (nI 3)), SH, s) := fun d' s => V89 hro 6 (by decide) s
  have z0 := fun d' (e : Nat) (he : e ≤ 30) => V3_0 (ro := ro) (d := d') σ a r e x ka ha h (by omega) he
  have z1 := z0 (d + 2) (e + 1) (by omega)
  have z1' := z0 (d + 1) (e + 1 + 1) (by omega)
  have l11 := V1 (ro := ro) (d := d + 3) σ r (nI 11) h (by omega)
  have l11' := V1 (ro := ro) (d := d + 2) σ r (nI 11) h (by omega)
  have l51 := V1 (ro := ro) (d := d + 3) σ r (nI 51) h (by omega)
  have y1 := V3_0 (ro := ro) (d := d + 2) (lgX σ r [nI 11]) a (r + 1) (e + 1) (x * nI 3) ka ha (lgX_86 _ _ _ h) (by omega) (by omega)
  have y1' := V3_0 (ro := ro) (d := d + 1) (lgX σ r [nI 11]) a (r + 1) (e + 1 + 1) (x * nI 3) ka ha (lgX_86 _ _ _ h) (by omega) (by omega)
  have y5 := V3_0 (ro := ro) (d := d + 1) (lgX σ r [nI 51]) a (r + 1) (e + 1 + 1) x ka ha (lgX_86 _ _ _ h) (by omega) (by omega)
  have g11 : lgX σ r [nI 11] a 0 = σ a 0 := by rw [lgX_no _ _ (by omega) (by omega)]
  have g51 : lgX σ r [nI 51] a 0 = σ a 0 := by rw [lgX_no _ _ (by omega) (by omega)]
  have j1 : lgX (lgX σ r [nI 11]) (r + 1) [nI 1] = lgX σ r [nI 11, nI 1] := rfl
  have j5 : lgX (lgX σ r [nI 51]) (r + 1) [nI 1] = lgX σ r [nI 51, nI 1] := rfl
  have g51' : lgX σ r [nI 51, nI 1] a 0 = σ a 0 := by rw [lgX_no _ _ (by omega) (by omega)]
  rw [g11, j1] at y1 y1'
  rw [g51, j5] at y5
  have c : k = 0 ∨ k = 1 ∨ k = 2 ∨ k = 3 ∨ k = 4 ∨ k = 5 ∨ k = 6 := by omega
  rcases c with rfl | rfl | rfl | rfl | rfl | rfl | rfl
  · exact z0 (d + 3) e (by omega)
  · refine Eq.trans (?_ : _ = some (some (.int (x * nI 3 + σ a 0)), SH, lgX σ r [nI 11, nI 1])) rfl
    simp (disch := first | assumption | omega | exact zb_fit | exact hbf .. | (simp (disch := omega) only [up_no, up_nk, up_at, u_cp_no] <;> (first | assumption | omega)) | (simp only [hkF] <;> omega) | decide) only [E3, S3, z_lt, he2, l11, v1, y1, z_eq, Nat.reduceEqDiff, hkF, z_add, z_mul, up_at, up_no, up_nk, u_cp_no, ma_bd, ↓reduceIte, if_true, if_false, Option.toList, List.nil_append, List.cons_append]
  · refine Eq.trans (?_ : _ = some (some (.int (x + σ a 0)), SH, lgX σ r [nI 1])) rfl
    simp (disch := first | assumption | omega | exact zb_fit | exact hbf .. | (simp (disch := omega) only [up_no, up_nk, up_at, u_cp_no] <;> (first | assumption | omega)) | (simp only [hkF] <;> omega) | decide) only [E3, S3, z_lt, he2, v2, z1, z_eq, Nat.reduceEqDiff, hkF, z_add, z_mul, up_at, up_no, up_nk, u_cp_no, ma_bd, ↓reduceIte, if_true, if_false, Option.toList, List.nil_append, List.cons_append]
  · refine Eq.trans (?_ : _ = some (some (.int (x + σ a 0)), SH, lgX σ r [nI 1])) rfl
    simp (disch := first | assumption | omega | exact zb_fit | exact hbf .. | (simp (disch := omega) only [up_no, up_nk, up_at, u_cp_no] <;> (first | assumption | omega)) | (simp only [hkF] <;> omega) | decide) only [E3, S3, z_lt, he2, v3, z1, z_eq, Nat.reduceEqDiff, hkF, z_add, z_mul, up_at, up_no, up_nk, u_cp_no, ma_bd, ↓reduceIte, if_true, if_false, Option.toList, List.nil_append, List.cons_append]
  · refine Eq.trans (?_ : _ = some (some (.int (x * nI 3 + σ a 0)), SH, lgX σ r [nI 11, nI 1])) rfl
    simp (disch := first | assumption | omega | exact zb_fit | exact hbf .. | (simp (disch := omega) only [up_no, up_nk, up_at, u_cp_no] <;> (first | assumption | omega)) | (simp only [hkF] <;> omega) | decide) only [E3, S3, z_lt, he2, he3, l11', v4, v1, y1', z_eq, Nat.reduceEqDiff, hkF, z_add, z_mul, up_at, up_no, up_nk, u_cp_no, ma_bd, ↓reduceIte, if_true, if_false, Option.toList, List.nil_append, List.cons_append]
  · refine Eq.trans (?_ : _ = some (some (.int ((x + σ a 0) ^^^ σ a 0)), SH, lgX σ r [nI 51, nI 1])) rfl
    simp (disch := first | assumption | omega | exact zb_fit | exact hbf .. | (simp (disch := omega) only [up_no, up_nk, up_at, u_cp_no] <;> (first | assumption | omega)) | (simp only [hkF] <;> omega) | decide) only [E3, S3, z_lt, he2, he3, l51, v5, v2, y5, g51', z_eq, Nat.reduceEqDiff, hkF, z_add, z_mul, up_at, up_no, up_nk, u_cp_no, ma_bd, ↓reduceIte, if_true, if_false, Option.toList, List.nil_append, List.cons_append]
  · refine Eq.trans (?_ : _ = some (some (.int (x + σ a 0)), SH, lgX σ r [nI 1])) rfl
    simp (disch := first | assumption | omega | exact zb_fit | exact hbf .. | (simp (disch := omega) only [up_no, up_nk, up_at, u_cp_no] <;> (first | assumption | omega)) | (simp only [hkF] <;> omega) | decide) only [E3, S3, z_lt, he2, he3, v6, v3, z1', z_eq, Nat.reduceEqDiff, hkF, z_add, z_mul, up_at, up_no, up_nk, u_cp_no, ma_bd, ↓reduceIte, if_true, if_false, Option.toList, List.nil_append, List.cons_append]
