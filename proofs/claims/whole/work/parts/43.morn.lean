/-! Whole mornings, one and many, on both sides. -/
def IvA (S : Nat → Int32) (nd : Nat) : Prop := ∀ p, p < nd → IvD (vD S p)
theorem IvD_congr {D D' : Nat → Int32} (h : ∀ j, j < 8 → D' j = D j) (hD : IvD D) : IvD D' := by
  unfold IvD
  rw [h 3 (by decide), h 4 (by decide), h 5 (by decide), h 6 (by decide), h 7 (by decide)]
  exact hD
theorem setD_Iv (S D : Nat → Int32) (p nd : Nat) (hn : nd ≤ 6) (hp : p < nd) (hI : IvA S nd) (hD : IvD D) : IvA (setD S p D) nd := by
  intro q hq
  by_cases hqp : q = p
  · subst hqp
    unfold IvD
    rw [vD_setD S D q (by omega) 3 (by decide), vD_setD S D q (by omega) 4 (by decide), vD_setD S D q (by omega) 5 (by decide), vD_setD S D q (by omega) 6 (by decide), vD_setD S D q (by omega) 7 (by decide)]
    exact hD
  · exact IvD_congr (fun j hj => vD_setD_ne S D p q (by omega) (by omega) hqp j) (hI q hq)
theorem upS_Iv (S : Nat → Int32) (k : Nat) (v : Int32) (nd : Nat) (hk : k < 3) (hI : IvA S nd) : IvA (upS S k v) nd := fun q hq => IvD_congr (fun j _ => vD_hi2 S k v q j hk) (hI q hq)
theorem stH_Iv (cs : List (Bool × Nat × List (Nat × Nat × Nat))) (mm p nd : Nat) (S : Nat → Int32) (hn : nd ≤ 6) (hp : p < nd) (hI : IvA S nd) : IvA (stH cs mm p S) nd :=
  upS_Iv _ 2 _ nd (by decide) (setD_Iv S _ p nd hn hp hI (goD_Iv _ _ _ (hI p hp)))
theorem stL_Iv (cs : List (Bool × Nat × List (Nat × Nat × Nat))) (mm nd : Nat) (S : Nat → Int32) (hn : nd ≤ 6) (hI : IvA S nd) : ∀ k, k ≤ nd → IvA (stL cs mm k S) nd := by
  intro k
  induction k with
  | zero => intro _; exact hI
  | succ k ih => intro hk; exact stH_Iv cs mm k nd _ hn (by omega) (ih (by omega))
theorem stM_Iv (cs : List (Bool × Nat × List (Nat × Nat × Nat))) (mm nd : Nat) (S : Nat → Int32) (hn : nd ≤ 6) (hI : IvA S nd) : IvA (stM cs mm nd S) nd :=
  upS_Iv _ 0 _ nd (by decide) (stL_Iv cs mm nd S hn hI nd (Nat.le_refl _))
theorem stM_hi (cs : List (Bool × Nat × List (Nat × Nat × Nat))) (mm nd : Nat) (S : Nat → Int32) (hn : nd ≤ 6) : sHi S (stM cs mm nd S) := by
  intro k hk
  unfold stM upS
  rw [if_neg (by omega)]
  exact stL_hi cs mm S nd hn k hk
theorem stM_0 (cs : List (Bool × Nat × List (Nat × Nat × Nat))) (mm nd : Nat) (S : Nat → Int32) : stM cs mm nd S 0 = nI (mm + 1) := by
  unfold stM upS; exact if_pos rfl
theorem stM_1 (cs : List (Bool × Nat × List (Nat × Nat × Nat))) (mm nd : Nat) (S : Nat → Int32) : stM cs mm nd S 1 = S 1 := by
  unfold stM upS
  rw [if_neg (by decide)]
  exact (stL_01 cs mm S nd).2
theorem V54 {ro : ma_RO} {d : Nat} (σ : ma_H) (w h nd mm : Nat) (S : Nat → Int32) (cs : List (Bool × Nat × List (Nat × Nat × Nat))) (wo : Int32) (kw : hkWd w) (kh : hkHs h) (hdis : h + 3 < w ∨ w + 13 < h) (hX' : HXr σ h cs wo) (hO : HOk cs) (hn : nd ≤ 6) (hw : RWd σ w S nd) (hmm : mm < 2 ^ 31) (h0 : S 0 = nI mm) (hI : IvA S nd) :
    ∃ σ', ma_ev ro (d + 5) 54 [.ref w, .ref h] SH σ = some (none, SH, σ') ∧ RWd σ' w (stM cs mm nd S) nd ∧ ∀ o, (o < w ∨ w + 1 + 2 * nd < o) → σ' o = σ o := by
  obtain ⟨⟨l', σ'⟩, e, ⟨v3, hl⟩, hR, r⟩ := ma_iter (fun x : ma_L × ma_H => ma_rn ro (d + 5) 54 (2, x.1, [], SH, x.2)) (fun k x => (∃ v3, x.1 = [some (.ref w), some (.ref h), some (.int (nI k)), v3]) ∧ RWd x.2 w (stL cs mm k S) nd ∧ ∀ o, (o < w ∨ w + 1 + 2 * nd < o) → x.2 o = σ o) nd (by
    rintro k hk ⟨l, s⟩ ⟨⟨v3, hl⟩, hs, r⟩
    simp only at hl hs r
    subst hl
    obtain ⟨v3', s', e1, q1, r1⟩ := X_step (ro := ro) (d := d) s w h k nd mm (stL cs mm k S) cs wo v3 kw kh hdis (HXr_congr (fun o h1 h2 => r o (by omega)) hX') hO hn hs hmm ((stL_01 cs mm S k).1.trans h0) hk (stL_Iv cs mm nd S hn hI k (by omega) k hk)
    exact ⟨(_, s'), e1, ⟨v3', rfl⟩, q1, fun o ho => (r1 o ho).trans (r o ho)⟩) ([some (.ref w), some (.ref h), some (.int (nI 0)), none], σ) ⟨⟨none, rfl⟩, hw, fun _ _ => rfl⟩
  simp only at e hl hR r
  subst hl
  obtain ⟨w1, w2, w3, w4, w5⟩ := hR
  have s0 : σ' w 3 = nI mm := by rw [w3, (stL_01 cs mm S nd).1]; exact h0
  obtain ⟨k1, k2, k3, k4⟩ := kw
  refine ⟨ma_up σ' w 3 (nI (mm + 1)), ?_, ⟨?_, ?_, ?_, ?_, ?_⟩, ?_⟩
  · simp (disch := first | assumption | omega | exact zb_fit | (simp (disch := omega) only [up_no, up_nk, up_at, u_cp_no] <;> (first | assumption | omega)) | (simp only [hkF] <;> omega) | decide) only [E54, S54, hkF, z_add, z_mul, up_at, up_no, up_nk, u_cp_no, ma_bd, if_true, if_false, Option.toList, List.nil_append, List.cons_append]
    rw [e, Sh54_2]
    simp (disch := first | assumption | omega | exact zb_fit | (simp (disch := omega) only [up_no, up_nk, up_at, u_cp_no] <;> (first | assumption | omega)) | (simp only [hkF] <;> omega) | decide) only [S54, w1, z_lt, Nat.lt_irrefl, s0, hkF, z_add, z_mul, up_at, up_no, up_nk, u_cp_no, ma_bd, if_true, if_false, Option.toList, List.nil_append, List.cons_append]
  · rw [up_nk (by decide)]; exact w1
  · rw [up_nk (by decide), stM_1, w2, (stL_01 cs mm S nd).2]
  · rw [up_at, stM_0]
  · rw [up_nk (by decide), w4]
    unfold stM upS
    rw [if_neg (by decide)]
  · intro p hp
    obtain ⟨d1, d2⟩ := w5 p hp
    refine ⟨fun j hj => ?_, fun k hk => ?_⟩
    · rw [up_no (by omega), d1 j hj]
      exact (vD_hi2 _ 0 _ p j (by decide)).symm
    · rw [up_no (by omega), d2 k hk, vR_hi (stM_hi cs mm nd S hn), vR_hi (stL_hi cs mm S nd hn)]
  · intro o ho
    rw [up_no (by omega)]; exact r o ho
/-- n mornings from mm on -/
def stN (cs : List (Bool × Nat × List (Nat × Nat × Nat))) (mm nd : Nat) : Nat → (Nat → Int32) → (Nat → Int32)
  | 0, S => S
  | n + 1, S => stM cs (mm + n) nd (stN cs mm nd n S)
theorem stN_facts (cs : List (Bool × Nat × List (Nat × Nat × Nat))) (mm nd : Nat) (S : Nat → Int32) (hn : nd ≤ 6) (hI : IvA S nd) (h0 : S 0 = nI mm) : ∀ n, sHi S (stN cs mm nd n S) ∧ IvA (stN cs mm nd n S) nd ∧ stN cs mm nd n S 0 = nI (mm + n) ∧ stN cs mm nd n S 1 = S 1 := by
  intro n
  induction n with
  | zero => exact ⟨fun _ _ => rfl, hI, h0, rfl⟩
  | succ n ih =>
    obtain ⟨i1, i2, i3, i4⟩ := ih
    exact ⟨fun k hk => (stM_hi cs (mm + n) nd _ hn k hk).trans (i1 k hk), stM_Iv cs (mm + n) nd _ hn i2, stM_0 cs (mm + n) nd _, (stM_1 cs (mm + n) nd _).trans i4⟩
theorem V53 {ro : ma_RO} {d : Nat} (σ : ma_H) (w h nd mm n : Nat) (S : Nat → Int32) (cs : List (Bool × Nat × List (Nat × Nat × Nat))) (wo : Int32) (kw : hkWd w) (kh : hkHs h) (hdis : h + 3 < w ∨ w + 13 < h) (hX' : HXr σ h cs wo) (hO : HOk cs) (hn : nd ≤ 6) (hw : RWd σ w S nd) (hmm : mm + n < 2 ^ 31) (h0 : S 0 = nI mm) (hI : IvA S nd) :
    ∃ σ', ma_ev ro (d + 6) 53 [.ref w, .int (nI n), .ref h] SH σ = some (none, SH, σ') ∧ RWd σ' w (stN cs mm nd n S) nd ∧ ∀ o, (o < w ∨ w + 1 + 2 * nd < o) → σ' o = σ o := by
  obtain ⟨⟨l', σ'⟩, e, hl, hR, r⟩ := ma_iter (fun x : ma_L × ma_H => ma_rn ro (d + 6) 53 (2, x.1, [], SH, x.2)) (fun k x => x.1 = [some (.ref w), some (.int (nI n)), some (.ref h), some (.int (nI k))] ∧ RWd x.2 w (stN cs mm nd k S) nd ∧ ∀ o, (o < w ∨ w + 1 + 2 * nd < o) → x.2 o = σ o) n (by
    rintro k hk ⟨l, s⟩ ⟨hl, hs, r⟩
    simp only at hl hs r
    subst hl
    obtain ⟨i1, i2, i3, i4⟩ := stN_facts cs mm nd S hn hI h0 k
    obtain ⟨s', e1, q1, r1⟩ := V54 (ro := ro) (d := d) s w h nd (mm + k) (stN cs mm nd k S) cs wo kw kh hdis (HXr_congr (fun o h1 h2 => r o (by omega)) hX') hO hn hs (by omega) i3 i2
    refine ⟨([some (.ref w), some (.int (nI n)), some (.ref h), some (.int (nI (k + 1)))], s'), ?_, rfl, q1, fun o ho => (r1 o ho).trans (r o ho)⟩
    have k1 := kw.1
    simp only
    rw [Sh53_2]
    simp (disch := first | assumption | omega | exact zb_fit | (simp (disch := omega) only [up_no, up_nk, up_at, u_cp_no] <;> (first | assumption | omega)) | (simp only [hkF] <;> omega) | decide) only [S53, z_lt, hk, e1, hkF, z_add, z_mul, up_at, up_no, up_nk, u_cp_no, ma_bd, if_true, if_false, Option.toList, List.nil_append, List.cons_append]) ([some (.ref w), some (.int (nI n)), some (.ref h), some (.int (nI 0))], σ) ⟨rfl, hw, fun _ _ => rfl⟩
  simp only at e hl hR r
  subst hl
  refine ⟨σ', ?_, hR, r⟩
  simp (disch := first | assumption | omega | exact zb_fit | (simp (disch := omega) only [up_no, up_nk, up_at, u_cp_no] <;> (first | assumption | omega)) | (simp only [hkF] <;> omega) | decide) only [E53, S53, hkF, z_add, z_mul, up_at, up_no, up_nk, u_cp_no, ma_bd, if_true, if_false, Option.toList, List.nil_append, List.cons_append]
  rw [e, Sh53_2]
  simp (disch := first | assumption | omega | exact zb_fit | (simp (disch := omega) only [up_no, up_nk, up_at, u_cp_no] <;> (first | assumption | omega)) | (simp only [hkF] <;> omega) | decide) only [S53, z_lt, Nat.lt_irrefl, hkF, z_add, z_mul, up_at, up_no, up_nk, u_cp_no, ma_bd, if_true, if_false, Option.toList, List.nil_append, List.cons_append]
theorem V140 {ro : ma_RO} {d : Nat} (σ : ma_H) (cs : List (Bool × Nat × List (Nat × Nat × Nat))) (wo : Int32) (hM' : HMr (σ 91) cs wo) (hO : HOk cs) (nd mm n : Nat) (hn : nd ≤ 6) (h33 : σ 91 33 = nI nd) (hmm : mm + n < 2 ^ 31) (h0 : σ 91 0 = nI mm) (hI : IvA (σ 91) nd) :
    ∃ σ', ma_ev ro (d + 5) 140 [.ref 90, .int (nI n)] SH σ = some (none, SH, σ') ∧ σ' 91 = stN cs mm nd n (σ 91) ∧ ∀ a, ¬ a = 91 → ¬ a = 94 → ¬ a = 95 → σ' a = σ a := by
  obtain ⟨⟨l', σ'⟩, e, hl, hR, r⟩ := ma_iter (fun x : ma_L × ma_H => ma_rn ro (d + 5) 140 (2, x.1, [], SH, x.2)) (fun k x => x.1 = [some (.ref 90), some (.int (nI n)), some (.int (nI k))] ∧ x.2 91 = stN cs mm nd k (σ 91) ∧ ∀ a, ¬ a = 91 → ¬ a = 94 → ¬ a = 95 → x.2 a = σ a) n (by
    rintro k hk ⟨l, s⟩ ⟨hl, hs, r⟩
    simp only at hl hs r
    subst hl
    obtain ⟨i1, i2, i3, i4⟩ := stN_facts cs mm nd (σ 91) hn hI h0 k
    obtain ⟨s', e1, q1, r1⟩ := V139 (ro := ro) (d := d) s cs wo (by rw [hs]; exact HMr_congr i1 hM') hO nd (mm + k) hn (by rw [hs, i1 33 (by decide)]; exact h33) (by omega) (by rw [hs]; exact i3)
    refine ⟨([some (.ref 90), some (.int (nI n)), some (.int (nI (k + 1)))], s'), ?_, rfl, ?_, fun a h1 h2 h3 => (r1 a h1 h2 h3).trans (r a h1 h2 h3)⟩
    · simp only
      rw [Sh140_2]
      simp (disch := first | assumption | omega | exact zb_fit | (simp (disch := omega) only [up_no, up_nk, up_at, u_cp_no] <;> (first | assumption | omega)) | (simp only [hkF] <;> omega) | decide) only [S140, z_lt, hk, e1, hkF, z_add, z_mul, up_at, up_no, up_nk, u_cp_no, ma_bd, if_true, if_false, Option.toList, List.nil_append, List.cons_append]
    · show s' 91 = _
      rw [q1, hs]; rfl) ([some (.ref 90), some (.int (nI n)), some (.int (nI 0))], σ) ⟨rfl, rfl, fun _ _ _ _ => rfl⟩
  simp only at e hl hR r
  subst hl
  refine ⟨σ', ?_, hR, r⟩
  simp (disch := first | assumption | omega | exact zb_fit | (simp (disch := omega) only [up_no, up_nk, up_at, u_cp_no] <;> (first | assumption | omega)) | (simp only [hkF] <;> omega) | decide) only [E140, S140, hkF, z_add, z_mul, up_at, up_no, up_nk, u_cp_no, ma_bd, if_true, if_false, Option.toList, List.nil_append, List.cons_append]
  rw [e, Sh140_2]
  simp (disch := first | assumption | omega | exact zb_fit | (simp (disch := omega) only [up_no, up_nk, up_at, u_cp_no] <;> (first | assumption | omega)) | (simp only [hkF] <;> omega) | decide) only [S140, z_lt, Nat.lt_irrefl, hkF, z_add, z_mul, up_at, up_no, up_nk, u_cp_no, ma_bd, if_true, if_false, Option.toList, List.nil_append, List.cons_append]
