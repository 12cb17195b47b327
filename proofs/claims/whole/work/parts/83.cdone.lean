/-! The call done: plans row by row. -/
def stpP (cs : List (Bool × Nat × List (Nat × Nat × Nat))) (nd : Nat) (x y : Int32) (T : Nat → Int32) : Nat → Int32 :=
  if x = nI 0 then stM cs (clN (T 0)) nd T else if x = nI 1 then setD T (clN y) (lkD (vD T (clN y))) else if x = nI 2 then upS T (21 + clN y) (nI 9) else upS T 1 y
theorem RWd_setD {σ σ' : ma_H} {w nd p : Nat} {T D : Nat → Int32} (hn : nd ≤ 6) (hp : p < nd) (hw : RWd σ w T nd) (ea : ∀ j, j < 8 → σ' (w + 1 + 1 + 2 * p) j = if 3 ≤ j then D j else σ (w + 1 + 1 + 2 * p) j) (hr : ∀ o, ¬ o = w + 1 + 1 + 2 * p → σ' o = σ o) : RWd σ' w (setD T p D) nd := by
  obtain ⟨w1, w2, w3, w4, w5⟩ := hw
  have e2 : σ' w = σ w := hr w (by omega)
  have hhi := setD_hi T p (by omega) D
  refine ⟨by rw [e2]; exact w1, by rw [e2, setD_lo _ _ _ _ (by decide)]; exact w2, by rw [e2, setD_lo _ _ _ _ (by decide)]; exact w3, by rw [e2, setD_lo _ _ _ _ (by decide)]; exact w4, fun q hq => ?_⟩
  obtain ⟨d1, d2⟩ := w5 q hq
  refine ⟨fun j hj => ?_, fun j hj => by rw [hr _ (by omega), vR_hi hhi]; exact d2 j hj⟩
  by_cases hqp : q = p
  · subst hqp
    rw [ea j hj, vD_setD _ _ _ (by omega) _ hj, d1 j hj]
  · rw [hr _ (by omega), vD_setD_ne _ _ _ _ (by omega) (by omega) hqp]; exact d1 j hj
def plF (cs : List (Bool × Nat × List (Nat × Nat × Nat))) (nd : Nat) (S : Nat → Int32) : Nat → (Nat → Int32)
  | 0 => S
  | k + 1 => stpP cs nd (S (91 + k)) (S (99 + k)) (plF cs nd S k)
/-- what a row of the plan keeps -/
theorem stpP_inv (cs : List (Bool × Nat × List (Nat × Nat × Nat))) (nd : Nat) (x y : Int32) (S T : Nat → Int32) (m : Nat) (hm : m ≤ 10100) (hn : nd ≤ 6) (hy : (x = nI 1 ∨ x = nI 2) → ∃ q, q < nd ∧ y = nI q) (h1 : sHi S T) (h2 : IvA T nd) (h3 : T 0 = nI m) :
    sHi S (stpP cs nd x y T) ∧ IvA (stpP cs nd x y T) nd ∧ ∃ m', m' ≤ m + 1 ∧ stpP cs nd x y T 0 = nI m' := by
  unfold stpP
  by_cases x0 : x = nI 0
  · rw [if_pos x0, h3, clN_nI (by omega)]
    exact ⟨fun k hk => (stM_hi cs m nd T hn k hk).trans (h1 k hk), stM_Iv cs m nd T hn h2, m + 1, Nat.le_refl _, stM_0 cs m nd T⟩
  · rw [if_neg x0]
    by_cases x1 : x = nI 1
    · obtain ⟨q, hq, rfl⟩ := hy (.inl x1)
      rw [if_pos x1, clN_nI (by omega)]
      exact ⟨fun k hk => (setD_hi T q (by omega) _ k hk).trans (h1 k hk), setD_Iv T _ q nd hn hq h2 (lkD_Iv _ (h2 q hq)), m, by omega, by rw [setD_lo _ _ _ _ (by decide)]; exact h3⟩
    · rw [if_neg x1]
      by_cases x2 : x = nI 2
      · obtain ⟨q, hq, rfl⟩ := hy (.inr x2)
        rw [if_pos x2, clN_nI (by omega), ← setD_up6 T q (by omega) (nI 9)]
        refine ⟨fun k hk => (setD_hi T q (by omega) _ k hk).trans (h1 k hk), setD_Iv T _ q nd hn hq h2 ?_, m, by omega, by rw [setD_lo _ _ _ _ (by decide)]; exact h3⟩
        obtain ⟨g1, g2, g3, g4, g5⟩ := h2 q hq
        exact ⟨g1, g2, g3, ⟨9, by decide, rfl⟩, g5⟩
      · rw [if_neg x2]
        exact ⟨fun k hk => (upS_ne (by omega)).trans (h1 k hk), upS_Iv T 1 y nd (by decide) h2, m, by omega, by rw [upS_ne (by decide)]; exact h3⟩
theorem V100 {ro : ma_RO} {d : Nat} (σ : ma_H) (nd m : Nat) (S T : Nat → Int32) (cs : List (Bool × Nat × List (Nat × Nat × Nat))) (wo : Int32) (x y : Int32) (hx : Rg x 3) (hX' : HXr σ 16 cs wo) (hO : HOk cs) (hn : nd ≤ 6) (hw : RWd σ 70 T nd) (hm : m ≤ 10100) (h0 : T 0 = nI m) (hI : IvA T nd) (hy : (x = nI 1 ∨ x = nI 2) → ∃ q, q < nd ∧ y = nI q) :
    ∃ σ', ma_ev ro (d + 6) 100 [.ref 0, .int x, .int y] SH σ = some (none, SH, σ') ∧ RWd σ' 70 (stpP cs nd x y T) nd ∧ ∀ o, (o < 70 ∨ 83 < o) → σ' o = σ o := by
  have kw := hkWd_70
  have k70 := kw.1
  have hbf : ∀ (x0 x1 : Option Value), True := fun _ _ => trivial
  obtain ⟨a, ha, rfl⟩ := hx
  have c : a = 0 ∨ a = 1 ∨ a = 2 ∨ a = 3 := by omega
  rcases c with rfl | rfl | rfl | rfl
  · obtain ⟨s, e54, p54, r54⟩ := V54 (ro := ro) (d := d) σ 70 16 nd m T cs wo kw hkWh_1.2.2.1 (by omega) hX' hO hn hw (by omega) h0 hI
    have hst : stpP cs nd (nI 0) y T = stM cs m nd T := by unfold stpP; rw [if_pos rfl, h0, clN_nI (by omega)]
    rw [hst]
    refine ⟨s, ?_, p54, fun o ho => r54 o (by omega)⟩
    rcases dcases y nd (by omega) with ⟨q, hq, rfl⟩ | hy2
    · have e50 := V50 (ro := ro) (d := d + 5) s 70 q nd kw p54.1 hn hq
      simp (disch := first | assumption | omega | exact zb_fit | exact hbf .. | (simp (disch := omega) only [up_no, up_nk, up_at, u_cp_no] <;> (first | assumption | omega)) | (simp only [hkF] <;> omega) | decide) only [E100, S100, e54, e50, z_eq, Nat.reduceEqDiff, hkF, z_add, z_mul, up_at, up_no, up_nk, u_cp_no, ma_bd, ↓reduceIte, if_true, if_false, Option.toList, List.nil_append, List.cons_append]
    · have e50 := V50n (ro := ro) (d := d + 5) s 70 nd y kw p54.1 hy2
      simp (disch := first | assumption | omega | exact zb_fit | exact hbf .. | (simp (disch := omega) only [up_no, up_nk, up_at, u_cp_no] <;> (first | assumption | omega)) | (simp only [hkF] <;> omega) | decide) only [E100, S100, e54, e50, z_eq, Nat.reduceEqDiff, hkF, z_add, z_mul, up_at, up_no, up_nk, u_cp_no, ma_bd, ↓reduceIte, if_true, if_false, Option.toList, List.nil_append, List.cons_append]
  · obtain ⟨q, hq, rfl⟩ := hy (.inl rfl)
    have e50 := V50 (ro := ro) (d := d + 5) σ 70 q nd kw hw.1 hn hq
    have kd := kw.2.2.2 q (by omega)
    have kd1 := kd.1
    have dd := (hw.2.2.2.2 q hq).1
    obtain ⟨s, e13, q13, r13⟩ := V13 (ro := ro) (d := d + 4) σ (70 + 1 + 1 + 2 * q) kd (by rw [dd 5 (by decide)]; exact (hI q hq).2.2.1) (by rw [dd 7 (by decide)]; exact (hI q hq).2.2.2.2)
    have hst : stpP cs nd (nI 1) (nI q) T = setD T q (lkD (vD T q)) := by unfold stpP; rw [if_neg (by decide), if_pos rfl, clN_nI (by omega)]
    rw [hst]
    refine ⟨s, ?_, RWd_setD hn hq hw (fun j hj => ?_) r13, fun o ho => r13 o (by omega)⟩
    · simp (disch := first | assumption | omega | exact zb_fit | exact hbf .. | (simp (disch := omega) only [up_no, up_nk, up_at, u_cp_no] <;> (first | assumption | omega)) | (simp only [hkF] <;> omega) | decide) only [E100, S100, e50, e13, z_eq, Nat.reduceEqDiff, hkF, z_add, z_mul, up_at, up_no, up_nk, u_cp_no, ma_bd, ↓reduceIte, if_true, if_false, Option.toList, List.nil_append, List.cons_append]
    · rw [q13, lkD_congr (fun j hj => dd j hj) j hj]
      by_cases h3 : 3 ≤ j
      · rw [if_pos h3]
      · rw [if_neg h3, lkD_lo _ _ (by omega)]; exact (dd j hj).symm
  · obtain ⟨q, hq, rfl⟩ := hy (.inr rfl)
    have e50 := V50 (ro := ro) (d := d + 5) σ 70 q nd kw hw.1 hn hq
    have kd := kw.2.2.2 q (by omega)
    have kd1 := kd.1
    have dd := (hw.2.2.2.2 q hq).1
    have hst : stpP cs nd (nI 2) (nI q) T = setD T q (fun j => if j = 6 then nI 9 else vD T q j) := by
      unfold stpP; rw [if_neg (by decide), if_neg (by decide), if_pos rfl, clN_nI (by omega), setD_up6 _ _ (by omega)]
    rw [hst]
    refine ⟨ma_up σ (70 + 1 + 1 + 2 * q) 6 (nI 9), ?_, RWd_setD hn hq hw (fun j hj => ?_) (fun o ho => up_no ho), fun o ho => up_no (by omega)⟩
    · simp (disch := first | assumption | omega | exact zb_fit | exact hbf .. | (simp (disch := omega) only [up_no, up_nk, up_at, u_cp_no] <;> (first | assumption | omega)) | (simp only [hkF] <;> omega) | decide) only [E100, S100, e50, z_eq, Nat.reduceEqDiff, hkF, z_add, z_mul, up_at, up_no, up_nk, u_cp_no, ma_bd, ↓reduceIte, if_true, if_false, Option.toList, List.nil_append, List.cons_append]
    · by_cases h6 : j = 6
      · subst h6; rw [up_at]; rfl
      · rw [up_nk h6, if_neg h6]
        by_cases h3 : 3 ≤ j
        · rw [if_pos h3]; exact dd j hj
        · rw [if_neg h3]
  · have hst : stpP cs nd (nI 3) y T = upS T 1 y := by
      unfold stpP; rw [if_neg (by decide), if_neg (by decide), if_neg (by decide)]
    rw [hst]
    obtain ⟨w1, w2, w3, w4, w5⟩ := hw
    refine ⟨ma_up σ 70 2 y, ?_, ⟨by rw [up_nk (by decide)]; exact w1, by rw [up_at, upS_at], by rw [up_nk (by decide), upS_ne (by decide)]; exact w3, by rw [up_nk (by decide), upS_ne (by decide)]; exact w4, fun p hp => ?_⟩, fun o ho => up_no (by omega)⟩
    · rcases dcases y nd (by omega) with ⟨q, hq, rfl⟩ | hy2
      · have e50 := V50 (ro := ro) (d := d + 5) (ma_up σ 70 2 (nI q)) 70 q nd kw (by rw [up_nk (by decide)]; exact w1) hn hq
        simp (disch := first | assumption | omega | exact zb_fit | exact hbf .. | (simp (disch := omega) only [up_no, up_nk, up_at, u_cp_no] <;> (first | assumption | omega)) | (simp only [hkF] <;> omega) | decide) only [E100, S100, e50, z_eq, Nat.reduceEqDiff, hkF, z_add, z_mul, up_at, up_no, up_nk, u_cp_no, ma_bd, ↓reduceIte, if_true, if_false, Option.toList, List.nil_append, List.cons_append]
      · have e50 := V50n (ro := ro) (d := d + 5) (ma_up σ 70 2 y) 70 nd y kw (by rw [up_nk (by decide)]; exact w1) hy2
        simp (disch := first | assumption | omega | exact zb_fit | exact hbf .. | (simp (disch := omega) only [up_no, up_nk, up_at, u_cp_no] <;> (first | assumption | omega)) | (simp only [hkF] <;> omega) | decide) only [E100, S100, e50, z_eq, Nat.reduceEqDiff, hkF, z_add, z_mul, up_at, up_no, up_nk, u_cp_no, ma_bd, ↓reduceIte, if_true, if_false, Option.toList, List.nil_append, List.cons_append]
    · obtain ⟨d1, d2⟩ := w5 p hp
      exact ⟨fun j hj => by rw [up_no (by omega), vD_hi2 _ _ _ _ _ (by decide)]; exact d1 j hj, fun j hj => by rw [up_no (by omega)]; exact (d2 j hj).trans (upS_ne (show ¬ 52 + 4 * p + j = 1 by omega)).symm⟩
theorem V160 {ro : ma_RO} {d : Nat} (σ : ma_H) (nd m : Nat) (T : Nat → Int32) (cs : List (Bool × Nat × List (Nat × Nat × Nat))) (wo : Int32) (x y : Int32) (hx : Rg x 3) (hT : σ 91 = T) (hM : HMr T cs wo) (hO : HOk cs) (hn : nd ≤ 6) (h33 : T 33 = nI nd) (hm : m ≤ 10100) (h0 : T 0 = nI m) (hy : (x = nI 1 ∨ x = nI 2) → ∃ q, q < nd ∧ y = nI q) :
    ∃ σ', ma_ev ro (d + 5) 160 [.ref 90, .int x, .int y] SH σ = some (none, SH, σ') ∧ σ' 91 = stpP cs nd x y T ∧ ∀ o, ¬ o = 91 → ¬ o = 94 → ¬ o = 95 → σ' o = σ o := by
  obtain ⟨a, ha, rfl⟩ := hx
  have c : a = 0 ∨ a = 1 ∨ a = 2 ∨ a = 3 := by omega
  rcases c with rfl | rfl | rfl | rfl
  · obtain ⟨s, e139, q139, r139⟩ := V139 (ro := ro) (d := d) σ cs wo (by rw [hT]; exact hM) hO nd m hn (by rw [hT]; exact h33) (by omega) (by rw [hT]; exact h0)
    refine ⟨s, ?_, ?_, r139⟩
    · simp (disch := first | assumption | omega | exact zb_fit | exact hbf .. | (simp (disch := omega) only [up_no, up_nk, up_at, u_cp_no] <;> (first | assumption | omega)) | (simp only [hkF] <;> omega) | decide) only [E160, S160, e139, z_eq, Nat.reduceEqDiff, hkF, z_add, z_mul, up_at, up_no, up_nk, u_cp_no, ma_bd, ↓reduceIte, if_true, if_false, Option.toList, List.nil_append, List.cons_append]
    · rw [q139, hT]; unfold stpP; rw [if_pos rfl, h0, clN_nI (by omega)]
  · obtain ⟨q, hq, rfl⟩ := hy (.inl rfl)
    obtain ⟨s, e133, q133, r133⟩ := V133 (ro := ro) (d := d + 3) σ q (by omega)
    refine ⟨s, ?_, ?_, fun o o1 _ _ => r133 o o1⟩
    · simp (disch := first | assumption | omega | exact zb_fit | exact hbf .. | (simp (disch := omega) only [up_no, up_nk, up_at, u_cp_no] <;> (first | assumption | omega)) | (simp only [hkF] <;> omega) | decide) only [E160, S160, e133, z_eq, Nat.reduceEqDiff, hkF, z_add, z_mul, up_at, up_no, up_nk, u_cp_no, ma_bd, ↓reduceIte, if_true, if_false, Option.toList, List.nil_append, List.cons_append]
    · rw [q133, hT]; unfold stpP; rw [if_neg (by decide), if_pos rfl, clN_nI (by omega)]
  · obtain ⟨q, hq, rfl⟩ := hy (.inr rfl)
    have p21 : 21 + q < 933 := by omega
    refine ⟨ma_up σ 91 (21 + q) (nI 9), ?_, ?_, fun o o1 _ _ => up_no o1⟩
    · simp (disch := first | assumption | omega | exact zb_fit | exact hbf .. | (simp (disch := omega) only [up_no, up_nk, up_at, u_cp_no] <;> (first | assumption | omega)) | (simp only [hkF] <;> omega) | decide) only [E160, S160, z_eq, Nat.reduceEqDiff, hkF, z_add, z_mul, up_at, up_no, up_nk, u_cp_no, ma_bd, ↓reduceIte, if_true, if_false, Option.toList, List.nil_append, List.cons_append]
    · rw [up_S, hT]; unfold stpP; rw [if_neg (by decide), if_neg (by decide), if_pos rfl, clN_nI (by omega)]
  · refine ⟨ma_up σ 91 1 y, ?_, ?_, fun o o1 _ _ => up_no o1⟩
    · simp (disch := first | assumption | omega | exact zb_fit | exact hbf .. | (simp (disch := omega) only [up_no, up_nk, up_at, u_cp_no] <;> (first | assumption | omega)) | (simp only [hkF] <;> omega) | decide) only [E160, S160, z_eq, Nat.reduceEqDiff, hkF, z_add, z_mul, up_at, up_no, up_nk, u_cp_no, ma_bd, ↓reduceIte, if_true, if_false, Option.toList, List.nil_append, List.cons_append]
    · rw [up_S, hT]; unfold stpP; rw [if_neg (by decide), if_neg (by decide), if_neg (by decide)]
theorem C79 {ro : ma_RO} {d : Nat} (σ : ma_H) (hG : G σ) (x : Int32) : ∃ r σ1 σ2, ma_ev ro (d + 8) 79 [.ref 0, .int x] SH σ = some (some (.int r), SH, σ1) ∧ ma_ev ro (d + 8) 161 [.ref 90, .int x] SH σ1 = some (some (.int r), SH, σ2) ∧ G σ2 := by
  obtain ⟨nd, cs, wo, hg⟩ := hG.1
  obtain ⟨h1, h2, h3, h4, h5, ⟨mm, h6, h6'⟩, h7, h8, h9, h10, h11, h12, h13, h14, h15, h16, h17, h18, h19, ⟨n, n1, n2, n3, n4⟩, h21⟩ := GS_open hg
  have kw := hkWh_1.2.1
  have kr : hkRw 25 8 := hkWh_1.2.2.2.2.2.2.1
  have n3' : σ 25 3 = nI n := n3
  by_cases hx : x < nI 0 ∨ nI 1 < x
  · have e88 := V88t (ro := ro) (d := d + 7) σ hx
    have e102 := V102f (ro := ro) (d := d + 7) σ hx
    exact ⟨_, σ, σ, by simp (disch := first | assumption | omega | exact zb_fit | exact hbf .. | (simp (disch := omega) only [up_no, up_nk, up_at, u_cp_no] <;> (first | assumption | omega)) | (simp only [hkF] <;> omega) | decide) only [E79, S79, e88, z_eq, Nat.reduceEqDiff, hkF, z_add, z_mul, up_at, up_no, up_nk, u_cp_no, ma_bd, ↓reduceIte, if_true, if_false, Option.toList, List.nil_append, List.cons_append]; rfl, by simp (disch := first | assumption | omega | exact zb_fit | exact hbf .. | (simp (disch := omega) only [up_no, up_nk, up_at, u_cp_no] <;> (first | assumption | omega)) | (simp only [hkF] <;> omega) | decide) only [E161, S161, e102, z_eq, Nat.reduceEqDiff, hkF, z_add, z_mul, up_at, up_no, up_nk, u_cp_no, ma_bd, ↓reduceIte, if_true, if_false, Option.toList, List.nil_append, List.cons_append], hG⟩
  have e88 := V88f (ro := ro) (d := d + 7) σ hx
  have INV : ∀ k, k ≤ n → sHi (σ 91) (plF cs nd (σ 91) k) ∧ IvA (plF cs nd (σ 91) k) nd ∧ ∃ m, m ≤ mm + k ∧ plF cs nd (σ 91) k 0 = nI m := by
    intro k
    induction k with
    | zero => intro _; exact ⟨fun _ _ => rfl, h5, mm, Nat.le_refl _, h6'⟩
    | succ k ih =>
      intro hk
      obtain ⟨i1, i2, m, i3, i4⟩ := ih (by omega)
      obtain ⟨g1, g2, -⟩ := h12 n n1 n2 k (by omega)
      obtain ⟨j1, j2, m', j3, j4⟩ := stpP_inv cs nd (σ 91 (91 + k)) (σ 91 (99 + k)) (σ 91) (plF cs nd (σ 91) k) m (by omega) h1 g2 i1 i2 i4
      exact ⟨j1, j2, m', by omega, j4⟩
  obtain ⟨s0, e52, p52, r52⟩ := V52 (ro := ro) (d := d + 5) σ 70 2 nd (σ 91) hkWd_70 kw (by omega) h1 h15 h5
  obtain ⟨⟨l1, s1⟩, e1, hl, p1, r1⟩ := ma_iter (fun z : ma_L × ma_H => ma_rn ro (d + 8) 79 (26, z.1, [], SH, z.2)) (fun k z => z.1 = [some (.ref 0), some (.int x), some (.int (nI k))] ∧ RWd z.2 70 (plF cs nd (σ 91) k) nd ∧ ∀ o, (o < 70 ∨ 83 < o) → z.2 o = σ o) n (by
    rintro k hk ⟨l, s⟩ ⟨hl, hw, r⟩
    simp only at hl hw r
    subst hl
    obtain ⟨i1, i2, m, i3, i4⟩ := INV k (by omega)
    obtain ⟨g1, g2, -⟩ := h12 n n1 n2 k hk
    have s3 : s 25 3 = nI n := by rw [r 25 (by omega)]; exact n3'
    have b1 : s 26 k = σ 91 (91 + k) := by rw [r 26 (by omega)]; exact (n4 k hk).1
    have b2 : s 27 k = σ 91 (99 + k) := by rw [r 27 (by omega)]; exact (n4 k hk).2.1
    have e41 := V41 (ro := ro) (d := d + 6) s 25 8 k kr (by omega)
    have e42 := V42 (ro := ro) (d := d + 6) s 25 8 k kr (by omega)
    obtain ⟨s', e100, p100, r100⟩ := V100 (ro := ro) (d := d + 1) s nd m (σ 91) (plF cs nd (σ 91) k) cs wo (σ 91 (91 + k)) (σ 91 (99 + k)) g1 (HXr_congr (fun o o1 o2 => r o (by omega)) h16) h3 h1 hw (by omega) i4 i2 g2
    refine ⟨([some (.ref 0), some (.int x), some (.int (nI (k + 1)))], s'), ?_, rfl, p100, fun o ho => (r100 o ho).trans (r o ho)⟩
    simp only
    rw [Sh79_26]
    simp (disch := first | assumption | omega | exact zb_fit | exact hbf .. | (simp (disch := omega) only [up_no, up_nk, up_at, u_cp_no] <;> (first | assumption | omega)) | (simp only [hkF] <;> omega) | decide) only [S79, s3, z_lt, hk, e41, e42, b1, b2, e100, hkF, z_add, z_mul, up_at, up_no, up_nk, u_cp_no, ma_bd, ↓reduceIte, if_true, if_false, Option.toList, List.nil_append, List.cons_append]) ([some (.ref 0), some (.int x), some (.int (nI 0))], s0) ⟨rfl, p52, fun o ho => r52 o (by omega)⟩
  simp only at e1 hl p1 r1
  subst hl
  obtain ⟨i1, i2, m, i3, i4⟩ := INV n (Nat.le_refl _)
  have e55 := V55 (ro := ro) (d := d + 6) s1 70 nd _ hkWd_70 h1 p1 i2
  have s91 : s1 91 = σ 91 := r1 91 (by omega)
  have e102 := V102t (ro := ro) (d := d + 7) s1 hx
  have e105 := V105 (ro := ro) (d := d + 7) s1
  obtain ⟨⟨l2, s2⟩, e2, hl, q2, r2⟩ := ma_iter (fun z : ma_L × ma_H => ma_rn ro (d + 8) 161 (17, z.1, [], SH, z.2)) (fun k z => z.1 = [some (.ref 90), some (.int x), some (.int (nI k))] ∧ z.2 91 = plF cs nd (σ 91) k ∧ ∀ o, ¬ o = 91 → ¬ o = 94 → ¬ o = 95 → z.2 o = u_cp s1 93 91 33 o) n (by
    rintro k hk ⟨l, s⟩ ⟨hl, hw, r⟩
    simp only at hl hw r
    subst hl
    obtain ⟨i1, i2, m, i3, i4⟩ := INV k (by omega)
    obtain ⟨g1, g2, -⟩ := h12 n n1 n2 k hk
    have s36 : s 91 36 = nI n := by rw [hw, i1 36 (by decide)]; exact n2
    have b1 : s 91 (91 + k) = σ 91 (91 + k) := by rw [hw, i1 _ (by omega)]
    have b2 : s 91 (99 + k) = σ 91 (99 + k) := by rw [hw, i1 _ (by omega)]
    have p91 : 91 + k < 933 := by omega
    have p99 : 99 + k < 933 := by omega
    obtain ⟨s', e160, q160, r160⟩ := V160 (ro := ro) (d := d + 2) s nd m (plF cs nd (σ 91) k) cs wo (σ 91 (91 + k)) (σ 91 (99 + k)) g1 hw (HMr_congr i1 h4) h3 h1 (by rw [i1 33 (by decide)]; exact h2) (by omega) i4 g2
    refine ⟨([some (.ref 90), some (.int x), some (.int (nI (k + 1)))], s'), ?_, rfl, q160, fun o o1 o2 o3 => (r160 o o1 o2 o3).trans (r o o1 o2 o3)⟩
    simp only
    rw [Sh161_17]
    simp (disch := first | assumption | omega | exact zb_fit | exact hbf .. | (simp (disch := omega) only [up_no, up_nk, up_at, u_cp_no] <;> (first | assumption | omega)) | (simp only [hkF] <;> omega) | decide) only [S161, s36, z_lt, hk, b1, b2, e160, hkF, z_add, z_mul, up_at, up_no, up_nk, u_cp_no, ma_bd, ↓reduceIte, if_true, if_false, Option.toList, List.nil_append, List.cons_append]) ([some (.ref 90), some (.int x), some (.int (nI 0))], u_cp s1 93 91 33) ⟨rfl, by show u_cp s1 93 91 33 91 = σ 91; rw [u_cp_no (by decide)]; exact s91, fun _ _ _ _ => rfl⟩
  simp only at e2 hl q2 r2
  subst hl
  have s36 : s2 91 36 = nI n := by rw [q2, i1 36 (by decide)]; exact n2
  have e136 := V136 (ro := ro) (d := d + 7) s2 nd h1 (by rw [q2, i1 33 (by decide)]; exact h2)
  rw [q2] at e136
  have e106 := V106 (ro := ro) (d := d + 7) s2
  have b91 : u_cp s2 91 93 33 91 = σ 91 := back91 s2 (by rw [q2]; exact i1) (fun k hk => by rw [r2 93 (by decide) (by decide) (by decide), kept93 _ _ hk, s91])
  have y1 : s1 70 4 = plF cs nd (σ 91) n 2 := p1.2.2.2.1
  have y2 : s2 91 2 = plF cs nd (σ 91) n 2 := by rw [q2]
  have k70 := hkWd_70.1
  have s3 : s1 25 3 = nI n := by rw [r1 25 (by omega)]; exact n3'
  refine ⟨if x = nI 0 then plF cs nd (σ 91) n 2 else lbF (plF cs nd (σ 91) n) nd, s1, u_cp s2 91 93 33, ?_, ?_, ?_⟩
  · refine Eq.trans (?_ : _ = ma_rn ro (d + 8) 79 (26, [some (.ref 0), some (.int x), some (.int (nI 0))], [], SH, s0)) (e1.trans ?_)
    · simp (disch := first | assumption | omega | exact zb_fit | exact hbf .. | (simp (disch := omega) only [up_no, up_nk, up_at, u_cp_no] <;> (first | assumption | omega)) | (simp only [hkF] <;> omega) | decide) only [E79, S79, e88, e52, z_eq, Nat.reduceEqDiff, hkF, z_add, z_mul, up_at, up_no, up_nk, u_cp_no, ma_bd, ↓reduceIte, if_true, if_false, Option.toList, List.nil_append, List.cons_append]
    · rw [Sh79_26]
      by_cases hx0 : x = nI 0
      · simp (disch := first | assumption | omega | exact zb_fit | exact hbf .. | (simp (disch := omega) only [up_no, up_nk, up_at, u_cp_no] <;> (first | assumption | omega)) | (simp only [hkF] <;> omega) | decide) only [S79, s3, z_lt, Nat.lt_irrefl, hx0, y1, hkF, z_add, z_mul, up_at, up_no, up_nk, u_cp_no, ma_bd, ↓reduceIte, if_true, if_false, Option.toList, List.nil_append, List.cons_append]
      · simp (disch := first | assumption | omega | exact zb_fit | exact hbf .. | (simp (disch := omega) only [up_no, up_nk, up_at, u_cp_no] <;> (first | assumption | omega)) | (simp only [hkF] <;> omega) | decide) only [S79, s3, z_lt, Nat.lt_irrefl, hx0, e55, hkF, z_add, z_mul, up_at, up_no, up_nk, u_cp_no, ma_bd, ↓reduceIte, if_true, if_false, Option.toList, List.nil_append, List.cons_append]
  · refine Eq.trans (?_ : _ = ma_rn ro (d + 8) 161 (17, [some (.ref 90), some (.int x), some (.int (nI 0))], [], SH, u_cp s1 93 91 33)) (e2.trans ?_)
    · simp (disch := first | assumption | omega | exact zb_fit | exact hbf .. | (simp (disch := omega) only [up_no, up_nk, up_at, u_cp_no] <;> (first | assumption | omega)) | (simp only [hkF] <;> omega) | decide) only [E161, S161, e102, e105, z_eq, Nat.reduceEqDiff, hkF, z_add, z_mul, up_at, up_no, up_nk, u_cp_no, ma_bd, ↓reduceIte, if_true, if_false, Option.toList, List.nil_append, List.cons_append]
    · rw [Sh161_17]
      by_cases hx0 : x = nI 0
      · simp (disch := first | assumption | omega | exact zb_fit | exact hbf .. | (simp (disch := omega) only [up_no, up_nk, up_at, u_cp_no] <;> (first | assumption | omega)) | (simp only [hkF] <;> omega) | decide) only [S161, s36, z_lt, Nat.lt_irrefl, hx0, y2, e106, hkF, z_add, z_mul, up_at, up_no, up_nk, u_cp_no, ma_bd, ↓reduceIte, if_true, if_false, Option.toList, List.nil_append, List.cons_append]
      · simp (disch := first | assumption | omega | exact zb_fit | exact hbf .. | (simp (disch := omega) only [up_no, up_nk, up_at, u_cp_no] <;> (first | assumption | omega)) | (simp only [hkF] <;> omega) | decide) only [S161, s36, z_lt, Nat.lt_irrefl, hx0, e136, e106, hkF, z_add, z_mul, up_at, up_no, up_nk, u_cp_no, ma_bd, ↓reduceIte, if_true, if_false, Option.toList, List.nil_append, List.cons_append]
  · exact G_same hG (fun o ho => by
      by_cases h91 : o = 91
      · rw [h91]; exact b91
      · rw [u_cp_no h91, r2 o h91 (by omega) (by omega), u_cp_no (by omega)]; exact r1 o (by omega)) (by rw [u_cp_no (by decide), r2 90 (by decide) (by decide) (by decide), u_cp_no (by decide), r1 90 (by omega)]) (by rw [u_cp_no (by decide), r2 90 (by decide) (by decide) (by decide), u_cp_no (by decide), r1 90 (by omega)])
