def puL (K k : Nat) : List Int32 := if k = 2 ∨ k = 5 then nI 21 :: nI 2 :: ckL K else if k = 6 then nI 61 :: nI 2 :: ckL K else nI 2 :: ckL K
def puV (K k : Nat) (x p v : Int32) : Int32 := if k = 2 ∨ k = 5 then -(ckV K x p - v) else if k = 6 then ckV K x p - v + v else ckV K x p - v
theorem ckL_len (K : Nat) : 1 ≤ (ckL K).length ∧ (ckL K).length ≤ 2 := by
  unfold ckL; split <;> (try split) <;> exact ⟨by decide, by decide⟩
theorem puL_len (K k : Nat) : (puL K k).length ≤ 4 := by
  have := (ckL_len K).2
  unfold puL; split <;> (try split) <;> simp only [List.length_cons] <;> omega
theorem V4_0 {ro : ma_RO} (hro : ro 3000000 = some (7, ma_abv)) {d : Nat} (σ : ma_H) (a r e : Nat) (x : Int32) (ka : hk_cls a = 1) (ha : a < 80) (h : σ 86 1 = nI r) (hr : r + 3 ≤ 20) (he : e ≤ 18) (K : Nat) (hK : K ≤ 6) (hk : σ a 1 = nI K) : ma_ev ro (d + 5) 4 [.ref 86, .ref a, .int (nI 0), .int x, .int (nI e)] SH σ = some (some (.int (ckV K x (σ a 0) - σ a 2)), SH, lgX σ r (nI 2 :: ckL K)) := by
  have he2 : ¬ 40 < e := by omega
  have l2 := V1 (ro := ro) (d := d + 4) σ r (nI 2) h (by omega)
  have c := V3 hro (d := d) (lgX σ r [nI 2]) a (r + 1) (e + 1) x ka ha (lgX_86 _ _ _ h) (by omega) (by omega) K hK
  have g0 : lgX σ r [nI 2] a 0 = σ a 0 := by rw [lgX_no _ _ (by omega) (by omega)]
  have g1 : lgX σ r [nI 2] a 1 = nI K := by rw [lgX_no _ _ (by omega) (by omega)]; exact hk
  have j : lgX (lgX σ r [nI 2]) (r + 1) (ckL K) = lgX σ r (nI 2 :: ckL K) := rfl
  have g2 : lgX σ r (nI 2 :: ckL K) a 2 = σ a 2 := by rw [lgX_no _ _ (by omega) (by omega)]
  rw [g0, j] at c
  simp (disch := first | assumption | omega | exact zb_fit | exact hbf .. | (simp (disch := omega) only [up_no, up_nk, up_at, u_cp_no] <;> (first | assumption | omega)) | (simp only [hkF] <;> omega) | decide) only [E4, S4, z_lt, he2, l2, g1, c, g2, z_eq, Nat.reduceEqDiff, hkF, z_add, z_mul, up_at, up_no, up_nk, u_cp_no, ma_bd, ↓reduceIte, if_true, if_false, Option.toList, List.nil_append, List.cons_append]
theorem V4 {ro : ma_RO} (hro : ro 3000000 = some (7, ma_abv)) {d : Nat} (σ : ma_H) (a r e : Nat) (x : Int32) (ka : hk_cls a = 1) (ha : a < 80) (h : σ 86 1 = nI r) (hr : r + 4 ≤ 20) (he : e ≤ 12) (K : Nat) (hK : K ≤ 6) (hk : σ a 1 = nI K) (k : Nat) (hk6 : k ≤ 6) : ma_ev ro (d + 8) 4 [.ref 86, .ref a, .int (nI k), .int x, .int (nI e)] SH σ = some (some (.int (puV K k x (σ a 0) (σ a 2))), SH, lgX σ r (puL K k)) := by
  have he2 : ¬ 40 < e := by omega
  have he3 : ¬ 40 < e + 1 := by omega
  have v1 : ∀ d' (s : ma_H), ma_ev ro d' 89 [.int (nI 1)] SH s = some (some (.int (nI 0)), SH, s) := fun d' s => V89 hro 1 (by decide) s
  have v2 : ∀ d' (s : ma_H), ma_ev ro d' 89 [.int (nI 2)] SH s = some (some (.int (nI 0)), SH, s) := fun d' s => V89 hro 2 (by decide) s
  have v3 : ∀ d' (s : ma_H), ma_ev ro d' 89 [.int (nI 3)] SH s = some (some (.int (nI 0)), SH, s) := fun d' s => V89 hro 3 (by decide) s
  have v4 : ∀ d' (s : ma_H), ma_ev ro d' 89 [.int (nI 4)] SH s = some (some (.int (nI 1)), SH, s) := fun d' s => V89 hro 4 (by decide) s
  have v5 : ∀ d' (s : ma_H), ma_ev ro d' 89 [.int (nI 5)] SH s = some (some (.int (nI 2)), SH, s) := fun d' s => V89 hro 5 (by decide) s
  have v6 : ∀ d' (s : ma_H), ma_ev ro d' 89 [.int (nI 6)] SH s = some (some (.int (nI 3)), SH, s) := fun d' s => V89 hro 6 (by decide) s
  have z0 := V4_0 hro (d := d + 3) σ a r e x ka ha h (by omega) (by omega) K hK hk
  have z1 := V4_0 hro (d := d + 2) σ a r (e + 1) x ka ha h (by omega) (by omega) K hK hk
  have z2 := V4_0 hro (d := d + 1) σ a r (e + 1 + 1) x ka ha h (by omega) (by omega) K hK hk
  have l21 := V1 (ro := ro) (d := d + 7) σ r (nI 21) h (by omega)
  have l21' := V1 (ro := ro) (d := d + 6) σ r (nI 21) h (by omega)
  have l61 := V1 (ro := ro) (d := d + 7) σ r (nI 61) h (by omega)
  have gk : ∀ n j, lgX σ r [n] a j = σ a j := fun n j => by rw [lgX_no _ _ (by omega) (by omega)]
  have y1 := V4_0 hro (d := d + 2) (lgX σ r [nI 21]) a (r + 1) (e + 1) x ka ha (lgX_86 _ _ _ h) (by omega) (by omega) K hK (by rw [gk]; exact hk)
  have y2 := V4_0 hro (d := d + 1) (lgX σ r [nI 21]) a (r + 1) (e + 1 + 1) x ka ha (lgX_86 _ _ _ h) (by omega) (by omega) K hK (by rw [gk]; exact hk)
  have y6 := V4_0 hro (d := d + 1) (lgX σ r [nI 61]) a (r + 1) (e + 1 + 1) x ka ha (lgX_86 _ _ _ h) (by omega) (by omega) K hK (by rw [gk]; exact hk)
  rw [gk, gk] at y1 y2 y6
  have j1 : lgX (lgX σ r [nI 21]) (r + 1) (nI 2 :: ckL K) = lgX σ r (nI 21 :: nI 2 :: ckL K) := rfl
  have j6 : lgX (lgX σ r [nI 61]) (r + 1) (nI 2 :: ckL K) = lgX σ r (nI 61 :: nI 2 :: ckL K) := rfl
  have g6 : lgX σ r (nI 61 :: nI 2 :: ckL K) a 2 = σ a 2 := by rw [lgX_no _ _ (by omega) (by omega)]
  rw [j1] at y1 y2
  rw [j6] at y6
  have c : k = 0 ∨ k = 1 ∨ k = 2 ∨ k = 3 ∨ k = 4 ∨ k = 5 ∨ k = 6 := by omega
  rcases c with rfl | rfl | rfl | rfl | rfl | rfl | rfl
  · exact z0
  · refine Eq.trans (?_ : _ = some (some (.int (ckV K x (σ a 0) - σ a 2)), SH, lgX σ r (nI 2 :: ckL K))) rfl
    simp (disch := first | assumption | omega | exact zb_fit | exact hbf .. | (simp (disch := omega) only [up_no, up_nk, up_at, u_cp_no] <;> (first | assumption | omega)) | (simp only [hkF] <;> omega) | decide) only [E4, S4, z_lt, he2, v1, z1, z_eq, Nat.reduceEqDiff, hkF, z_add, z_mul, up_at, up_no, up_nk, u_cp_no, ma_bd, ↓reduceIte, if_true, if_false, Option.toList, List.nil_append, List.cons_append]
  · refine Eq.trans (?_ : _ = some (some (.int (-(ckV K x (σ a 0) - σ a 2))), SH, lgX σ r (nI 21 :: nI 2 :: ckL K))) rfl
    simp (disch := first | assumption | omega | exact zb_fit | exact hbf .. | (simp (disch := omega) only [up_no, up_nk, up_at, u_cp_no] <;> (first | assumption | omega)) | (simp only [hkF] <;> omega) | decide) only [E4, S4, z_lt, he2, v2, l21, y1, z_eq, Nat.reduceEqDiff, hkF, z_add, z_mul, up_at, up_no, up_nk, u_cp_no, ma_bd, ↓reduceIte, if_true, if_false, Option.toList, List.nil_append, List.cons_append]
  · refine Eq.trans (?_ : _ = some (some (.int (ckV K x (σ a 0) - σ a 2)), SH, lgX σ r (nI 2 :: ckL K))) rfl
    simp (disch := first | assumption | omega | exact zb_fit | exact hbf .. | (simp (disch := omega) only [up_no, up_nk, up_at, u_cp_no] <;> (first | assumption | omega)) | (simp only [hkF] <;> omega) | decide) only [E4, S4, z_lt, he2, v3, z1, z_eq, Nat.reduceEqDiff, hkF, z_add, z_mul, up_at, up_no, up_nk, u_cp_no, ma_bd, ↓reduceIte, if_true, if_false, Option.toList, List.nil_append, List.cons_append]
  · refine Eq.trans (?_ : _ = some (some (.int (ckV K x (σ a 0) - σ a 2)), SH, lgX σ r (nI 2 :: ckL K))) rfl
    simp (disch := first | assumption | omega | exact zb_fit | exact hbf .. | (simp (disch := omega) only [up_no, up_nk, up_at, u_cp_no] <;> (first | assumption | omega)) | (simp only [hkF] <;> omega) | decide) only [E4, S4, z_lt, he2, he3, v4, v1, z2, z_eq, Nat.reduceEqDiff, hkF, z_add, z_mul, up_at, up_no, up_nk, u_cp_no, ma_bd, ↓reduceIte, if_true, if_false, Option.toList, List.nil_append, List.cons_append]
  · refine Eq.trans (?_ : _ = some (some (.int (-(ckV K x (σ a 0) - σ a 2))), SH, lgX σ r (nI 21 :: nI 2 :: ckL K))) rfl
    simp (disch := first | assumption | omega | exact zb_fit | exact hbf .. | (simp (disch := omega) only [up_no, up_nk, up_at, u_cp_no] <;> (first | assumption | omega)) | (simp only [hkF] <;> omega) | decide) only [E4, S4, z_lt, he2, he3, v5, v2, l21', y2, z_eq, Nat.reduceEqDiff, hkF, z_add, z_mul, up_at, up_no, up_nk, u_cp_no, ma_bd, ↓reduceIte, if_true, if_false, Option.toList, List.nil_append, List.cons_append]
  · refine Eq.trans (?_ : _ = some (some (.int (ckV K x (σ a 0) - σ a 2 + σ a 2)), SH, lgX σ r (nI 61 :: nI 2 :: ckL K))) rfl
    simp (disch := first | assumption | omega | exact zb_fit | exact hbf .. | (simp (disch := omega) only [up_no, up_nk, up_at, u_cp_no] <;> (first | assumption | omega)) | (simp only [hkF] <;> omega) | decide) only [E4, S4, z_lt, he2, he3, v6, v3, l61, y6, g6, z_eq, Nat.reduceEqDiff, hkF, z_add, z_mul, up_at, up_no, up_nk, u_cp_no, ma_bd, ↓reduceIte, if_true, if_false, Option.toList, List.nil_append, List.cons_append]
def loL (K : Nat) : List Int32 := if K = 3 ∨ K = 6 then nI 31 :: nI 3 :: puL K K else if K = 4 then (nI 41 :: nI 3 :: puL K K) ++ ckL K else nI 3 :: puL K K
def loV (K : Nat) (x p v : Int32) : Int32 := if K = 3 ∨ K = 6 then (puV K K x p v * nI 2) ^^^ nI 7 else if K = 4 then puV K K (x - nI 1) p v * nI 2 + ckV K (nI 2) p else puV K K x p v * nI 2
theorem V5_0 {ro : ma_RO} (hro : ro 3000000 = some (7, ma_abv)) {d : Nat} (σ : ma_H) (a r e : Nat) (x : Int32) (ka : hk_cls a = 1) (ha : a < 80) (h : σ 86 1 = nI r) (hr : r + 5 ≤ 20) (he : e ≤ 10) (K : Nat) (hK : K ≤ 6) (hk : σ a 1 = nI K) : ma_ev ro (d + 9) 5 [.ref 86, .ref a, .int (nI 0), .int x, .int (nI e)] SH σ = some (some (.int (puV K K x (σ a 0) (σ a 2) * nI 2)), SH, lgX σ r (nI 3 :: puL K K)) := by
  have he2 : ¬ 40 < e := by omega
  have l2 := V1 (ro := ro) (d := d + 8) σ r (nI 3) h (by omega)
  have gk : ∀ j, lgX σ r [nI 3] a j = σ a j := fun j => by rw [lgX_no _ _ (by omega) (by omega)]
  have g1 : lgX σ r [nI 3] a 1 = nI K := by rw [gk]; exact hk
  have c := V4 hro (d := d) (lgX σ r [nI 3]) a (r + 1) (e + 1) x ka ha (lgX_86 _ _ _ h) (by omega) (by omega) K hK g1 K hK
  have j : lgX (lgX σ r [nI 3]) (r + 1) (puL K K) = lgX σ r (nI 3 :: puL K K) := rfl
  rw [gk, gk, j] at c
  simp (disch := first | assumption | omega | exact zb_fit | exact hbf .. | (simp (disch := omega) only [up_no, up_nk, up_at, u_cp_no] <;> (first | assumption | omega)) | (simp only [hkF] <;> omega) | decide) only [E5, S5, z_lt, he2, l2, g1, c, z_eq, Nat.reduceEqDiff, hkF, z_add, z_mul, up_at, up_no, up_nk, u_cp_no, ma_bd, ↓reduceIte, if_true, if_false, Option.toList, List.nil_append, List.cons_append]
theorem V5 {ro : ma_RO} (hro : ro 3000000 = some (7, ma_abv)) {d : Nat} (σ : ma_H) (a r e : Nat) (x : Int32) (ka : hk_cls a = 1) (ha : a < 80) (h : σ 86 1 = nI r) (hr : r + 8 ≤ 20) (he : e ≤ 6) (K : Nat) (hK : K ≤ 6) (hk : σ a 1 = nI K) : ma_ev ro (d + 12) 5 [.ref 86, .ref a, .int (nI K), .int x, .int (nI e)] SH σ = some (some (.int (loV K x (σ a 0) (σ a 2))), SH, lgX σ r (loL K)) := by
  have he2 : ¬ 40 < e := by omega
  have he3 : ¬ 40 < e + 1 := by omega
  have v1 : ∀ d' (s : ma_H), ma_ev ro d' 89 [.int (nI 1)] SH s = some (some (.int (nI 0)), SH, s) := fun d' s => V89 hro 1 (by decide) s
  have v2 : ∀ d' (s : ma_H), ma_ev ro d' 89 [.int (nI 2)] SH s = some (some (.int (nI 0)), SH, s) := fun d' s => V89 hro 2 (by decide) s
  have v3 : ∀ d' (s : ma_H), ma_ev ro d' 89 [.int (nI 3)] SH s = some (some (.int (nI 0)), SH, s) := fun d' s => V89 hro 3 (by decide) s
  have v4 : ∀ d' (s : ma_H), ma_ev ro d' 89 [.int (nI 4)] SH s = some (some (.int (nI 1)), SH, s) := fun d' s => V89 hro 4 (by decide) s
  have v5 : ∀ d' (s : ma_H), ma_ev ro d' 89 [.int (nI 5)] SH s = some (some (.int (nI 2)), SH, s) := fun d' s => V89 hro 5 (by decide) s
  have v6 : ∀ d' (s : ma_H), ma_ev ro d' 89 [.int (nI 6)] SH s = some (some (.int (nI 3)), SH, s) := fun d' s => V89 hro 6 (by decide) s
  have z0 := V5_0 hro (d := d + 3) σ a r e x ka ha h (by omega) (by omega) K hK hk
  have z1 := V5_0 hro (d := d + 2) σ a r (e + 1) x ka ha h (by omega) (by omega) K hK hk
  have z2 := V5_0 hro (d := d + 1) σ a r (e + 1 + 1) x ka ha h (by omega) (by omega) K hK hk
  have l31 := V1 (ro := ro) (d := d + 11) σ r (nI 31) h (by omega)
  have l31' := V1 (ro := ro) (d := d + 10) σ r (nI 31) h (by omega)
  have l41 := V1 (ro := ro) (d := d + 11) σ r (nI 41) h (by omega)
  have gk : ∀ n j, lgX σ r [n] a j = σ a j := fun n j => by rw [lgX_no _ _ (by omega) (by omega)]
  have y1 := V5_0 hro (d := d + 2) (lgX σ r [nI 31]) a (r + 1) (e + 1) x ka ha (lgX_86 _ _ _ h) (by omega) (by omega) K hK (by rw [gk]; exact hk)
  have y2 := V5_0 hro (d := d + 1) (lgX σ r [nI 31]) a (r + 1) (e + 1 + 1) x ka ha (lgX_86 _ _ _ h) (by omega) (by omega) K hK (by rw [gk]; exact hk)
  have y4 := V5_0 hro (d := d + 1) (lgX σ r [nI 41]) a (r + 1) (e + 1 + 1) (x - nI 1) ka ha (lgX_86 _ _ _ h) (by omega) (by omega) K hK (by rw [gk]; exact hk)
  rw [gk, gk] at y1 y2 y4
  have j1 : lgX (lgX σ r [nI 31]) (r + 1) (nI 3 :: puL K K) = lgX σ r (nI 31 :: nI 3 :: puL K K) := rfl
  have j4 : lgX (lgX σ r [nI 41]) (r + 1) (nI 3 :: puL K K) = lgX σ r (nI 41 :: nI 3 :: puL K K) := rfl
  rw [j1] at y1 y2
  rw [j4] at y4
  have pl := puL_len K K
  have gm : ∀ j, lgX σ r (nI 41 :: nI 3 :: puL K K) a j = σ a j := fun j => by rw [lgX_no _ _ (by omega) (by omega)]
  have cl := V3 hro (d := d + 7) (lgX σ r (nI 41 :: nI 3 :: puL K K)) a (r + (nI 41 :: nI 3 :: puL K K).length) (e + 1) (nI 2) ka ha (lgX_86 _ _ _ h) (by simp only [List.length_cons]; omega) (by omega) K hK
  rw [gm, lgX_app] at cl
  have gm1 : lgX σ r (nI 41 :: nI 3 :: puL K K) a 1 = nI K := by rw [gm]; exact hk
  have c : K = 0 ∨ K = 1 ∨ K = 2 ∨ K = 3 ∨ K = 4 ∨ K = 5 ∨ K = 6 := by omega
  rcases c with rfl | rfl | rfl | rfl | rfl | rfl | rfl
  · exact z0
  · refine Eq.trans (?_ : _ = some (some (.int (puV 1 1 x (σ a 0) (σ a 2) * nI 2)), SH, lgX σ r (nI 3 :: puL 1 1))) rfl
    simp (disch := first | assumption | omega | exact zb_fit | exact hbf .. | (simp (disch := omega) only [up_no, up_nk, up_at, u_cp_no] <;> (first | assumption | omega)) | (simp only [hkF] <;> omega) | decide) only [E5, S5, z_lt, he2, v1, z1, z_eq, Nat.reduceEqDiff, hkF, z_add, z_mul, up_at, up_no, up_nk, u_cp_no, ma_bd, ↓reduceIte, if_true, if_false, Option.toList, List.nil_append, List.cons_append]
  · refine Eq.trans (?_ : _ = some (some (.int (puV 2 2 x (σ a 0) (σ a 2) * nI 2)), SH, lgX σ r (nI 3 :: puL 2 2))) rfl
    simp (disch := first | assumption | omega | exact zb_fit | exact hbf .. | (simp (disch := omega) only [up_no, up_nk, up_at, u_cp_no] <;> (first | assumption | omega)) | (simp only [hkF] <;> omega) | decide) only [E5, S5, z_lt, he2, v2, z1, z_eq, Nat.reduceEqDiff, hkF, z_add, z_mul, up_at, up_no, up_nk, u_cp_no, ma_bd, ↓reduceIte, if_true, if_false, Option.toList, List.nil_append, List.cons_append]
  · refine Eq.trans (?_ : _ = some (some (.int ((puV 3 3 x (σ a 0) (σ a 2) * nI 2) ^^^ nI 7)), SH, lgX σ r (nI 31 :: nI 3 :: puL 3 3))) rfl
    simp (disch := first | assumption | omega | exact zb_fit | exact hbf .. | (simp (disch := omega) only [up_no, up_nk, up_at, u_cp_no] <;> (first | assumption | omega)) | (simp only [hkF] <;> omega) | decide) only [E5, S5, z_lt, he2, l31, v3, y1, z_eq, Nat.reduceEqDiff, hkF, z_add, z_mul, up_at, up_no, up_nk, u_cp_no, ma_bd, ↓reduceIte, if_true, if_false, Option.toList, List.nil_append, List.cons_append]
  · refine Eq.trans (?_ : _ = some (some (.int (puV 4 4 (x - nI 1) (σ a 0) (σ a 2) * nI 2 + ckV 4 (nI 2) (σ a 0))), SH, lgX σ r ((nI 41 :: nI 3 :: puL 4 4) ++ ckL 4))) rfl
    simp (disch := first | assumption | omega | exact zb_fit | exact hbf .. | (simp (disch := omega) only [up_no, up_nk, up_at, u_cp_no] <;> (first | assumption | omega)) | (simp only [hkF] <;> omega) | decide) only [E5, S5, z_lt, he2, he3, l41, v4, v1, y4, gm1, cl, z_eq, Nat.reduceEqDiff, hkF, z_add, z_mul, up_at, up_no, up_nk, u_cp_no, ma_bd, ↓reduceIte, if_true, if_false, Option.toList, List.nil_append, List.cons_append]
  · refine Eq.trans (?_ : _ = some (some (.int (puV 5 5 x (σ a 0) (σ a 2) * nI 2)), SH, lgX σ r (nI 3 :: puL 5 5))) rfl
    simp (disch := first | assumption | omega | exact zb_fit | exact hbf .. | (simp (disch := omega) only [up_no, up_nk, up_at, u_cp_no] <;> (first | assumption | omega)) | (simp only [hkF] <;> omega) | decide) only [E5, S5, z_lt, he2, he3, v5, v2, z2, z_eq, Nat.reduceEqDiff, hkF, z_add, z_mul, up_at, up_no, up_nk, u_cp_no, ma_bd, ↓reduceIte, if_true, if_false, Option.toList, List.nil_append, List.cons_append]
  · refine Eq.trans (?_ : _ = some (some (.int ((puV 6 6 x (σ a 0) (σ a 2) * nI 2) ^^^ nI 7)), SH, lgX σ r (nI 31 :: nI 3 :: puL 6 6))) rfl
    simp (disch := first | assumption | omega | exact zb_fit | exact hbf .. | (simp (disch := omega) only [up_no, up_nk, up_at, u_cp_no] <;> (first | assumption | omega)) | (simp only [hkF] <;> omega) | decide) only [E5, S5, z_lt, he2, he3, v6, l31', v3, y2, z_eq, Nat.reduceEqDiff, hkF, z_add, z_mul, up_at, up_no, up_nk, u_cp_no, ma_bd, ↓reduceIte, if_true, if_false, Option.toList, List.nil_append, List.cons_append]
