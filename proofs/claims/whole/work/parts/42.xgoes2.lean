/-! A world of the class goes mornings. -/
theorem hX_congr {σ σ' : ma_H} {h : Nat} (e : ∀ o, h ≤ o → o ≤ h + 3 → σ' o = σ o) (cs : List (Bool × Nat × List (Nat × Nat × Nat))) : ∀ f c, hX σ h f c cs → hX σ' h f c cs := by
  induction cs with
  | nil => intro f c _; trivial
  | cons l r ih =>
    intro f c hx
    obtain ⟨g1, g2, g3, g4⟩ := hx
    exact ⟨by rw [e _ (by omega) (by omega)]; exact g1, by rw [e _ (by omega) (by omega)]; exact g2, fun i hi => by rw [e _ (by omega) (by omega)]; exact g3 i hi, ih _ _ g4⟩
theorem HXr_congr {σ σ' : ma_H} {h : Nat} {cs : List (Bool × Nat × List (Nat × Nat × Nat))} {wo : Int32} (e : ∀ o, h ≤ o → o ≤ h + 3 → σ' o = σ o) (hx : HXr σ h cs wo) : HXr σ' h cs wo :=
  ⟨by rw [e _ (by omega) (by omega)]; exact hx.1, by rw [e _ (by omega) (by omega)]; exact hx.2.1, hX_congr e cs _ _ hx.2.2⟩
theorem goD_congr {D D' : Nat → Int32} (h : ∀ j, j < 8 → D j = D' j) (c x : Int32) (j : Nat) (hj : j < 8) : goD D c x j = goD D' c x j := by
  unfold goD
  rw [h 5 (by decide), h 6 (by decide), h j hj]
theorem X_step {ro : ma_RO} {d : Nat} (σ : ma_H) (w h p nd mm : Nat) (S : Nat → Int32) (cs : List (Bool × Nat × List (Nat × Nat × Nat))) (wo : Int32) (v3 : Option Value) (kw : hkWd w) (kh : hkHs h) (hdis : h + 3 < w ∨ w + 13 < h) (hX' : HXr σ h cs wo) (hO : HOk cs) (hn : nd ≤ 6) (hw : RWd σ w S nd) (hmm : mm < 2 ^ 31) (h0 : S 0 = nI mm) (hp : p < nd) (hI : IvD (vD S p)) :
    ∃ v3' σ', ma_rn ro (d + 5) 54 (2, [some (.ref w), some (.ref h), some (.int (nI p)), v3], [], SH, σ) = ma_rn ro (d + 5) 54 (2, [some (.ref w), some (.ref h), some (.int (nI (p + 1))), v3'], [], SH, σ') ∧ RWd σ' w (stH cs mm p S) nd ∧ ∀ o, (o < w ∨ w + 1 + 2 * nd < o) → σ' o = σ o := by
  obtain ⟨w1, w2, w3, w4, w5⟩ := hw
  obtain ⟨d1, d2⟩ := w5 p hp
  have e50 := fun (σ' : ma_H) (hs : σ' w 1 = nI nd) => V50 (ro := ro) (d := d + 4) σ' w p nd kw hs hn hp
  have ea := V11 (ro := ro) (d := d) σ (w + 1 + 1 + 2 * p) h mm cs wo hX' hO (kw.2.2.2 p (by omega)) kh hmm
  rw [careD_congr cs mm d1 d2] at ea
  have kd := kw.2.2.2 p (by omega)
  obtain ⟨σ1, e12, q1, r1⟩ := V12 (ro := ro) (d := d + 3) σ (w + 1 + 1 + 2 * p) (careD cs (vD S p) (vR S p) mm) (S 1) kd (by rw [d1 5 (by decide)]; exact hI.2.2.1) (by rw [d1 6 (by decide)]; exact hI.2.2.2.1)
  obtain ⟨k1, k2, k3, k4⟩ := kw
  have kd1 := kd.1
  have s1w : σ1 w = σ w := r1 w (by omega)
  have q13 : σ1 (w + 1 + 1 + 2 * p) 3 = if careD cs (vD S p) (vR S p) mm < S 1 then nI 1 else nI 0 := by rw [q1, goD_3]
  have q12 : σ1 (w + 1 + 1 + 2 * p) 2 = S (46 + p) := by rw [q1, goD_lo _ _ _ 2 (by omega), d1 2 (by decide)]; rfl
  have hst : stG cs mm p S = setD S p (goD (vD S p) (careD cs (vD S p) (vR S p) mm) (S 1)) := rfl
  have g2 : stG cs mm p S 2 = S 2 := setD_lo S p _ 2 (by decide)
  have g3 : stG cs mm p S (3 + p) = if careD cs (vD S p) (vR S p) mm < S 1 then nI 1 else nI 0 := by
    rw [hst, ← goD_3 (vD S p)]; exact if_pos rfl
  have g46 : stG cs mm p S (46 + p) = S (46 + p) := setD_hi S p (by omega) _ _ (by omega)
  have g01 := stH_01 cs mm p S
  generalize careD cs (vD S p) (vR S p) mm = c at *
  -- what holds of any heap that differs from σ1 at w's harm alone
  have key : ∀ σ' : ma_H, (∀ o, ¬ o = w → σ' o = σ1 o) → σ' w 1 = nI nd → σ' w 2 = S 1 → σ' w 3 = S 0 → σ' w 4 = stH cs mm p S 2 → RWd σ' w (stH cs mm p S) nd ∧ ∀ o, (o < w ∨ w + 1 + 2 * nd < o) → σ' o = σ o := by
    intro σ' f1 f2 f3 f4 f5
    refine ⟨⟨f2, by rw [f3, g01.2], by rw [f4, g01.1], f5, ?_⟩, ?_⟩
    · intro q hq
      refine ⟨?_, ?_⟩
      · intro j hj
        rw [f1 _ (by omega)]
        show _ = vD (upS (stG cs mm p S) 2 _) q j
        rw [vD_hi2 _ _ _ _ _ (by decide), hst]
        by_cases hqp : q = p
        · subst hqp
          rw [q1, vD_setD S _ q (by omega) j hj, goD_congr d1 c (S 1) j hj]
          by_cases h3 : 3 ≤ j
          · rw [if_pos h3]
          · rw [if_neg h3, goD_lo _ _ _ j (by omega)]
        · rw [r1 _ (by omega), vD_setD_ne S _ p q (by omega) (by omega) hqp]
          exact (w5 q hq).1 j hj
      · intro k hk
        rw [f1 _ (by omega), r1 _ (by omega), vR_hi (stH_hi cs mm p (by omega) S)]
        exact (w5 q hq).2 k hk
    · intro o ho
      rw [f1 o (by omega), r1 o (by omega)]
  have e2 : stH cs mm p S 2 = S 2 + (if c < S 1 then nI 1 else nI 0) * (S (46 + p) + nI 1) := by
    show stG cs mm p S 2 + stG cs mm p S (3 + p) * (stG cs mm p S (46 + p) + nI 1) = _
    rw [g2, g3, g46]
  by_cases hc : c < S 1
  · rw [if_pos hc] at q13 e2
    refine ⟨some (.ref (w + 1 + 1 + 2 * p)), ma_up σ1 w 4 (σ1 w 4 + (S (46 + p) + nI 1)), ?_, key _ (fun o ho => up_no ho) ?_ ?_ ?_ ?_⟩
    · rw [Sh54_2]
      simp (disch := first | assumption | omega | exact zb_fit | (simp (disch := omega) only [up_no, up_nk, up_at, u_cp_no] <;> (first | assumption | omega)) | (simp only [hkF] <;> omega) | decide) only [S54, w1, w2, w3, h0, z_lt, hp, e50, ea, e12, s1w, q13, q12, z_eq, Nat.reduceEqDiff, hkF, z_add, z_mul, up_at, up_no, up_nk, u_cp_no, ma_bd, if_true, if_false, Option.toList, List.nil_append, List.cons_append]
    · rw [up_nk (by decide), s1w]; exact w1
    · rw [up_nk (by decide), s1w]; exact w2
    · rw [up_nk (by decide), s1w]; exact w3
    · rw [up_at, s1w, w4, e2, show nI 1 = 1 from rfl, Int32.one_mul]
  · rw [if_neg hc] at q13 e2
    refine ⟨some (.ref (w + 1 + 1 + 2 * p)), σ1, ?_, key _ (fun o ho => rfl) ?_ ?_ ?_ ?_⟩
    · rw [Sh54_2]
      simp (disch := first | assumption | omega | exact zb_fit | (simp (disch := omega) only [up_no, up_nk, up_at, u_cp_no] <;> (first | assumption | omega)) | (simp only [hkF] <;> omega) | decide) only [S54, w1, w2, w3, h0, z_lt, hp, e50, ea, e12, s1w, q13, q12, hkF, z_add, z_mul, up_at, up_no, up_nk, u_cp_no, ma_bd, if_true, if_false, Option.toList, List.nil_append, List.cons_append]
    · rw [s1w]; exact w1
    · rw [s1w]; exact w2
    · rw [s1w]; exact w3
    · rw [s1w, w4, e2, show nI 0 = 0 from rfl, Int32.zero_mul, Int32.add_zero]
