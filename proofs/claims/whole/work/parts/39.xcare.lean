/-! The care of the class; how one deed goes a morning, on both sides. -/
theorem V9 {ro : ma_RO} {d : Nat} (σ : ma_H) (a k : Nat) (hk : k < 4) (ha : hk_cls a = 1) (hl : hk_len (a + 1) = 4) (hal : hk_alen (a + 1) = 4) : ma_ev ro d 9 [.ref a, .int (nI k)] SH σ = some (some (.int (σ (a + 1) k)), SH, σ) := by
  simp (disch := first | assumption | omega | exact zb_fit | (simp (disch := omega) only [up_no, up_nk, up_at, u_cp_no] <;> (first | assumption | omega)) | (simp only [hkF] <;> omega) | decide) only [E9, S9, z_lt, Nat.not_lt_zero, hal, hk, hkF, z_add, z_mul, up_at, up_no, up_nk, u_cp_no, ma_bd, if_true, if_false, Option.toList, List.nil_append, List.cons_append]
def hkDd (a : Nat) : Prop := hk_cls a = 1 ∧ hk_len (a + 1) = 4 ∧ hk_alen (a + 1) = 4
def hkHs (h : Nat) : Prop := hk_cls h = 2 ∧ hk_len (h + 1) = 10 ∧ hk_alen (h + 1) = 10 ∧ hk_len (h + 2) = 10 ∧ hk_alen (h + 2) = 10 ∧ hk_len (h + 3) = 100 ∧ hk_alen (h + 3) = 100
theorem byX_D (σ : ma_H) (a : Nat) (m : Int32) : byX σ a m = byD (σ a) m := rfl
theorem V11 {ro : ma_RO} {d : Nat} (σ : ma_H) (a h mm : Nat) (cs : List (Bool × Nat × List (Nat × Nat × Nat))) (wo : Int32) (hX' : HXr σ h cs wo) (hO : HOk cs) (ka : hkDd a) (kh : hkHs h) (hmm : mm < 2 ^ 31) :
    ma_ev ro (d + 4) 11 [.ref a, .ref h, .int (nI mm)] SH σ = some (some (.int (careD cs (σ a) (σ (a + 1)) mm)), SH, σ) := by
  obtain ⟨a1, a2, a3⟩ := ka
  obtain ⟨b1, b2, b3, b4, b5, b6, b7⟩ := kh
  obtain ⟨x1, x2, x3⟩ := hX'
  obtain ⟨o1, o2, o3⟩ := hO
  have e : ∀ σ', σ' = σ → ma_ev ro (d + 3) 22 [.ref h, .ref a, .int (nI mm)] SH σ' = some (some (.int (sumC (byD (σ a) (nI mm)) cs (nI 8))), SH, σ') := by
    intro σ' hs; subst hs; exact V22 (ro := ro) (d := d) b1 b2 b3 b4 b5 b6 b7 a1 (nI mm) _ cs o1 x2 o2 o3 x3
  have e1 := e σ rfl
  have hm4 : nI mm - nI mm / nI 4 * nI 4 = nI (mm % 4) := z_mod hmm (by decide) (by decide)
  have h4 : mm % 4 < 4 := Nat.mod_lt _ (by decide)
  unfold careD
  by_cases k1 : σ a 1 = nI 1
  · simp (disch := first | assumption | omega | exact zb_fit | (simp (disch := omega) only [up_no, up_nk, up_at, u_cp_no] <;> (first | assumption | omega)) | (simp only [hkF] <;> omega) | decide) only [E11, S11, e1, nI10, k1, hkF, z_add, z_mul, up_at, up_no, up_nk, u_cp_no, ma_bd, if_true, if_false, Option.toList, List.nil_append, List.cons_append]
  by_cases k2 : σ a 1 = nI 2
  · simp (disch := first | assumption | omega | exact zb_fit | (simp (disch := omega) only [up_no, up_nk, up_at, u_cp_no] <;> (first | assumption | omega)) | (simp only [hkF] <;> omega) | decide) only [E11, S11, e1, nI10, nI2, k2, z_eq, Nat.reduceEqDiff, hkF, z_add, z_mul, up_at, up_no, up_nk, u_cp_no, ma_bd, if_true, if_false, Option.toList, List.nil_append, List.cons_append]
  by_cases k3 : σ a 1 = nI 3
  · simp (disch := first | assumption | omega | exact zb_fit | (simp (disch := omega) only [up_no, up_nk, up_at, u_cp_no] <;> (first | assumption | omega)) | (simp only [hkF] <;> omega) | decide) only [E11, S11, e1, nI10, k3, z_eq, Nat.reduceEqDiff, hkF, z_add, z_mul, up_at, up_no, up_nk, u_cp_no, ma_bd, if_true, if_false, Option.toList, List.nil_append, List.cons_append]
  by_cases k4 : σ a 1 = nI 4
  · by_cases k7 : nI mm - nI mm / nI 7 * nI 7 = nI 6 <;> simp (disch := first | assumption | omega | exact zb_fit | (simp (disch := omega) only [up_no, up_nk, up_at, u_cp_no] <;> (first | assumption | omega)) | (simp only [hkF] <;> omega) | decide) only [E11, S11, e1, nI10, nI7, k4, k7, z_eq, Nat.reduceEqDiff, hkF, z_add, z_mul, up_at, up_no, up_nk, u_cp_no, ma_bd, if_true, if_false, Option.toList, List.nil_append, List.cons_append]
  by_cases k5 : σ a 1 = nI 5
  · simp (disch := first | assumption | omega | exact zb_fit | (simp (disch := omega) only [up_no, up_nk, up_at, u_cp_no] <;> (first | assumption | omega)) | (simp only [hkF] <;> omega) | decide) only [E11, S11, e1, nI10, nI2, k5, z_eq, Nat.reduceEqDiff, hkF, z_add, z_mul, up_at, up_no, up_nk, u_cp_no, ma_bd, if_true, if_false, Option.toList, List.nil_append, List.cons_append]
  by_cases k6 : σ a 1 = nI 6
  · simp (disch := first | assumption | omega | exact zb_fit | (simp (disch := omega) only [up_no, up_nk, up_at, u_cp_no] <;> (first | assumption | omega)) | (simp only [hkF] <;> omega) | decide) only [E11, S11, e1, nI10, nI4, k6, z_eq, Nat.reduceEqDiff, hm4, V9, hkF, z_add, z_mul, up_at, up_no, up_nk, u_cp_no, ma_bd, if_true, if_false, Option.toList, List.nil_append, List.cons_append]
  simp (disch := first | assumption | omega | exact zb_fit | (simp (disch := omega) only [up_no, up_nk, up_at, u_cp_no] <;> (first | assumption | omega)) | (simp only [hkF] <;> omega) | decide) only [E11, S11, e1, nI10, k1, k2, k3, k4, k5, k6, hkF, z_add, z_mul, up_at, up_no, up_nk, u_cp_no, ma_bd, if_true, if_false, Option.toList, List.nil_append, List.cons_append]
theorem careD_congr (cs : List (Bool × Nat × List (Nat × Nat × Nat))) {D D' R R' : Nat → Int32} (mm : Nat) (hD : ∀ j, j < 8 → D j = D' j) (hR : ∀ k, k < 4 → R k = R' k) : careD cs D R mm = careD cs D' R' mm := by
  have hb : ∀ w, w < 6 → byD D (nI mm) w = byD D' (nI mm) w := by
    intro w hw
    unfold byD
    rw [hD 0 (by decide), hD 1 (by decide), hD 2 (by decide), hD 5 (by decide), hD 6 (by decide)]
  unfold careD
  rw [sumC_congr hb, hD 1 (by decide), hD 2 (by decide), hD 5 (by decide), hD 6 (by decide), hR _ (Nat.mod_lt _ (by decide))]
/-- held between 0 and m -/
def hl0 (m x : Int32) : Int32 := if x < nI 0 then nI 0 else if m < x then m else x
theorem z0_toInt : (nI 0).toInt = 0 := by decide
theorem hl0_eq (x : Int32) (m : Nat) (hm : m < 2 ^ 31) : (if nI 0 < if x < nI m then x else nI m then if x < nI m then x else nI m else nI 0) = hl0 (nI m) x := by
  have e := nI_toInt hm
  unfold hl0
  simp only [Int32.lt_iff_toInt_lt, e, z0_toInt]
  by_cases h1 : x.toInt < (m : Int)
  · simp only [h1, if_true]
    by_cases h2 : 0 < x.toInt
    · simp only [h2, if_true, show ¬ x.toInt < 0 by omega, show ¬ (m : Int) < x.toInt by omega, if_false]
    · simp only [h2, if_false]
      by_cases h3 : x.toInt < 0
      · simp only [h3, if_true]
      · simp only [h3, if_false, show ¬ (m : Int) < x.toInt by omega]
        exact Int32.toInt_inj.mp (by rw [z0_toInt]; omega)
  · simp only [h1, if_false, e, show ¬ x.toInt < 0 by omega]
    by_cases h2 : (m : Int) < x.toInt
    · simp only [h2, if_true]
      by_cases h3 : (0 : Int) < m
      · simp only [h3, if_true]
      · simp only [h3, if_false]
        exact Int32.toInt_inj.mp (by rw [z0_toInt, e]; omega)
    · simp only [h2, if_false]
      by_cases h3 : (0 : Int) < m
      · simp only [h3, if_true]; exact Int32.toInt_inj.mp (by rw [e]; omega)
      · simp only [h3, if_false]; exact Int32.toInt_inj.mp (by rw [z0_toInt]; omega)
theorem V90 {ro : ma_RO} {d : Nat} (σ : ma_H) (x : Int32) (m : Nat) (hm : m < 2 ^ 31) : ma_ev ro d 90 [.int x, .int (nI m)] SH σ = some (some (.int (hl0 (nI m) x)), SH, σ) := by
  simp (disch := first | assumption | omega | exact zb_fit | (simp (disch := omega) only [up_no, up_nk, up_at, u_cp_no] <;> (first | assumption | omega)) | (simp only [hkF] <;> omega) | decide) only [E90, S90, hl0_eq, hkF, z_add, z_mul, up_at, up_no, up_nk, u_cp_no, ma_bd, if_true, if_false, Option.toList, List.nil_append, List.cons_append]
/-- a number from 0 to b -/
def Rg (x : Int32) (b : Nat) : Prop := ∃ n, n ≤ b ∧ x = nI n
/-- a deed's view behind a morning -/
def goD (D : Nat → Int32) (c h : Int32) (j : Nat) : Int32 := if j = 3 then (if c < h then nI 1 else nI 0) else if j = 4 then (if c < h then hl0 (nI 99) (nI 25 - D 5) else hl0 (nI 99) (nI 50 - nI 2 * D 5 + nI 4 * D 6)) else if j = 5 then hl0 (nI 99) (D 5 + nI 1) else if j = 6 then (if c < h then D 6 else hl0 (nI 9) (D 6 - nI 1)) else if j = 7 then nI 0 else D j
theorem min99 : ∀ n, n ≤ 99 → (if nI n + nI 1 < nI 99 then nI n + nI 1 else nI 99) = hl0 (nI 99) (nI n + nI 1) := by decide +kernel
theorem max9 : ∀ n, n ≤ 9 → (if nI 0 < nI n - nI 1 then nI n - nI 1 else nI 0) = hl0 (nI 9) (nI n - nI 1) := by decide +kernel
theorem V12 {ro : ma_RO} {d : Nat} (σ : ma_H) (a : Nat) (c h : Int32) (ka : hkDd a) (h5 : Rg (σ a 5) 99) (h6 : Rg (σ a 6) 9) :
    ∃ σ', ma_ev ro (d + 1) 12 [.ref a, .int c, .int h] SH σ = some (none, SH, σ') ∧ σ' a = goD (σ a) c h ∧ ∀ o, ¬ o = a → σ' o = σ o := by
  obtain ⟨a1, a2, a3⟩ := ka
  obtain ⟨n5, b5, e5⟩ := h5
  obtain ⟨n6, b6, e6⟩ := h6
  have m5 := min99 n5 b5
  have m6 := max9 n6 b6
  rw [← e5] at m5
  rw [← e6] at m6
  by_cases hc : c < h
  · refine ⟨_, by simp (disch := first | assumption | omega | exact zb_fit | (simp (disch := omega) only [up_no, up_nk, up_at, u_cp_no] <;> (first | assumption | omega)) | (simp only [hkF] <;> omega) | decide) only [E12, S12, hc, V90, hkF, z_add, z_mul, up_at, up_no, up_nk, u_cp_no, ma_bd, if_true, if_false, Option.toList, List.nil_append, List.cons_append]; rfl, ?_, ?_⟩
    · funext j
      simp only [goD, hc, if_true, m5, m6, ma_up, true_and]
      by_cases q3 : j = 3
      · subst q3; simp
      by_cases q4 : j = 4
      · subst q4; simp
      by_cases q5 : j = 5
      · subst q5; simp
      by_cases q6 : j = 6
      · subst q6; simp
      simp [q3, q4, q5, q6]
    · intro o ho; simp (disch := assumption) only [up_no]
  · refine ⟨_, by simp (disch := first | assumption | omega | exact zb_fit | (simp (disch := omega) only [up_no, up_nk, up_at, u_cp_no] <;> (first | assumption | omega)) | (simp only [hkF] <;> omega) | decide) only [E12, S12, hc, V90, hkF, z_add, z_mul, up_at, up_no, up_nk, u_cp_no, ma_bd, if_true, if_false, Option.toList, List.nil_append, List.cons_append]; rfl, ?_, ?_⟩
    · funext j
      simp only [goD, hc, if_false, m5, m6, ma_up, true_and]
      by_cases q3 : j = 3
      · subst q3; simp
      by_cases q4 : j = 4
      · subst q4; simp
      by_cases q5 : j = 5
      · subst q5; simp
      by_cases q6 : j = 6
      · subst q6; simp
      simp [q3, q4, q5, q6]
    · intro o ho; simp (disch := assumption) only [up_no]
/-- the row with the deed p's view set -/
def setD (S : Nat → Int32) (p : Nat) (D : Nat → Int32) (k : Nat) : Int32 := if k = 3 + p then D 3 else if k = 9 + p then D 4 else if k = 15 + p then D 5 else if k = 21 + p then D 6 else if k = 27 + p then D 7 else S k
theorem V125 {ro : ma_RO} {d : Nat} (σ : ma_H) (p : Nat) (y : Int32) (hp : p < 6) (h : inH (σ 91)) : ma_ev ro (d + 1) 125 [.ref 90, .int (nI p), .int y] SH σ = some (some (.int (tel (σ 91) 223 (nI 2) * y - σ 91 (9 + p))), SH, σ) := by
  have p1 : 9 + p < 933 := by omega
  simp (disch := first | assumption | omega | exact zb_fit | (simp (disch := omega) only [up_no, up_nk, up_at, u_cp_no] <;> (first | assumption | omega)) | (simp only [hkF] <;> omega) | decide) only [E125, S125, V122, hkF, z_add, z_mul, up_at, up_no, up_nk, u_cp_no, ma_bd, if_true, if_false, Option.toList, List.nil_append, List.cons_append]
theorem V104' {ro : ma_RO} {d : Nat} (σ : ma_H) (x m : Int32) : ma_ev ro d 104 [.int x, .int m] SH σ = some (some (.int (hl0 m x)), SH, σ) := V104 x m σ
theorem V138 {ro : ma_RO} {d : Nat} (σ : ma_H) (cs : List (Bool × Nat × List (Nat × Nat × Nat))) (wo : Int32) (hM' : HMr (σ 91) cs wo) (hO : HOk cs) (p mm : Nat) (hp : p < 6) (hmm : mm < 2 ^ 31) (h0 : σ 91 0 = nI mm) :
    ∃ σ', ma_ev ro (d + 3) 138 [.ref 90, .int (nI p)] SH σ = some (none, SH, σ') ∧ σ' 91 = setD (σ 91) p (goD (vD (σ 91) p) (careD cs (vD (σ 91) p) (vR (σ 91) p) mm) (σ 91 1)) ∧ ∀ a, ¬ a = 91 → ¬ a = 94 → ¬ a = 95 → σ' a = σ a := by
  obtain ⟨σ1, e, r⟩ := V124 (ro := ro) (d := d) σ cs wo hM' hO p mm hp hmm h0
  have r91 := r 91 (by decide) (by decide)
  have p1 : 3 + p < 933 := by omega
  have p2 : 9 + p < 933 := by omega
  have p3 : 15 + p < 933 := by omega
  have p4 : 21 + p < 933 := by omega
  have p5 : 27 + p < 933 := by omega
  generalize careD cs (vD (σ 91) p) (vR (σ 91) p) mm = c at e ⊢
  by_cases hc : c < σ 91 1
  · refine ⟨_, by simp (disch := first | assumption | omega | exact zb_fit | (simp (disch := omega) only [up_no, up_nk, up_at, u_cp_no] <;> (first | assumption | omega)) | (simp only [hkF] <;> omega) | decide) only [E138, S138, e, r91, hc, V104', hkF, z_add, z_mul, up_at, up_no, up_nk, u_cp_no, ma_bd, if_true, if_false, Option.toList, List.nil_append, List.cons_append]; rfl, ?_, ?_⟩
    · funext k
      simp only [ma_up, true_and, r91, setD, goD, hc, if_true, vD, Nat.reduceEqDiff, if_false]
      by_cases q1 : k = 3 + p
      · subst q1; simp [show ¬ 3 + p = 9 + p by omega, show ¬ 3 + p = 15 + p by omega, show ¬ 3 + p = 21 + p by omega, show ¬ 3 + p = 27 + p by omega]
      by_cases q2 : k = 9 + p
      · subst q2; simp [show ¬ 9 + p = 3 + p by omega, show ¬ 9 + p = 15 + p by omega, show ¬ 9 + p = 21 + p by omega, show ¬ 9 + p = 27 + p by omega]
      by_cases q3 : k = 15 + p
      · subst q3; simp [show ¬ 15 + p = 3 + p by omega, show ¬ 15 + p = 9 + p by omega, show ¬ 15 + p = 21 + p by omega, show ¬ 15 + p = 27 + p by omega]
      by_cases q4 : k = 21 + p
      · subst q4; simp [show ¬ 21 + p = 3 + p by omega, show ¬ 21 + p = 9 + p by omega, show ¬ 21 + p = 15 + p by omega, show ¬ 21 + p = 27 + p by omega]
      by_cases q5 : k = 27 + p
      · subst q5; simp [show ¬ 27 + p = 3 + p by omega, show ¬ 27 + p = 9 + p by omega, show ¬ 27 + p = 15 + p by omega, show ¬ 27 + p = 21 + p by omega]
      simp [q1, q2, q3, q4, q5]
    · intro o h1 h2 h3; simp (disch := assumption) only [up_no]; exact r o h2 h3
  · refine ⟨_, by simp (disch := first | assumption | omega | exact zb_fit | (simp (disch := omega) only [up_no, up_nk, up_at, u_cp_no] <;> (first | assumption | omega)) | (simp only [hkF] <;> omega) | decide) only [E138, S138, e, r91, hc, V104', hkF, z_add, z_mul, up_at, up_no, up_nk, u_cp_no, ma_bd, if_true, if_false, Option.toList, List.nil_append, List.cons_append]; rfl, ?_, ?_⟩
    · funext k
      simp only [ma_up, true_and, r91, setD, goD, hc, if_true, if_false, vD, Nat.reduceEqDiff, if_false]
      by_cases q1 : k = 3 + p
      · subst q1; simp [show ¬ 3 + p = 9 + p by omega, show ¬ 3 + p = 15 + p by omega, show ¬ 3 + p = 21 + p by omega, show ¬ 3 + p = 27 + p by omega]
      by_cases q2 : k = 9 + p
      · subst q2; simp [show ¬ 9 + p = 3 + p by omega, show ¬ 9 + p = 15 + p by omega, show ¬ 9 + p = 21 + p by omega, show ¬ 9 + p = 27 + p by omega]
      by_cases q3 : k = 15 + p
      · subst q3; simp [show ¬ 15 + p = 3 + p by omega, show ¬ 15 + p = 9 + p by omega, show ¬ 15 + p = 21 + p by omega, show ¬ 15 + p = 27 + p by omega]
      by_cases q4 : k = 21 + p
      · subst q4; simp [show ¬ 21 + p = 3 + p by omega, show ¬ 21 + p = 9 + p by omega, show ¬ 21 + p = 15 + p by omega, show ¬ 21 + p = 27 + p by omega]
      by_cases q5 : k = 27 + p
      · subst q5; simp [show ¬ 27 + p = 3 + p by omega, show ¬ 27 + p = 9 + p by omega, show ¬ 27 + p = 15 + p by omega, show ¬ 27 + p = 21 + p by omega]
      simp [q1, q2, q3, q4, q5]
    · intro o h1 h2 h3; simp (disch := assumption) only [up_no]; exact r o h2 h3
