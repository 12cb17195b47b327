/-! The calls image, undo. -/
theorem hM_c3 {S S' : Nat → Int32} (h : ∀ k, k < 933 → S' k = S k) (cs : List (Bool × Nat × List (Nat × Nat × Nat))) : ∀ f, f + lnM cs ≤ 933 → hM S f cs → hM S' f cs := by
  induction cs with
  | nil => intro f hf hm; trivial
  | cons l r ih =>
    intro f hf hm
    obtain ⟨g1, g2, g3⟩ := hm
    have hl : lnM (l :: r) = l.2.2.length + 1 + lnM r := rfl
    exact ⟨fun i hi => by rw [h _ (by omega)]; exact g1 i hi, by rw [h _ (by omega)]; exact g2, ih _ (by omega) g3⟩
theorem GS_S {σ : ma_H} {w : Nat} {S S' : Nat → Int32} {nd : Nat} {cs : List (Bool × Nat × List (Nat × Nat × Nat))} {wo : Int32} (e : ∀ k, k < 933 → S' k = S k) (h : GS σ w S nd cs wo) : GS σ w S' nd cs wo := by
  obtain ⟨h1, h2, h3, h4, h5, h6, h7, h8, h9, h10, h11, h12, h13, h14, h15, h16, h17, h18, h19, h20, h21⟩ := GS_open h
  have hl : lnM cs ≤ 110 := by have := lnM_le (cs := cs); have := h3.1; have := h3.2.1; omega
  refine GS_mk h1 (by rw [e 33 (by decide)]; exact h2) h3 ?_ (IvAc h1 (fun k _ _ => e k (by omega)) (fun k _ _ => e k (by omega)) h5) (by rw [e 0 (by decide)]; exact h6) (by rw [e 1 (by decide)]; exact h7) (by rw [e 2 (by decide)]; exact h8) (q5c h1 (fun k _ _ => e k (by omega)) h9) (q6c (e 34 (by decide)) (e 39 (by decide)) h10) (q7c (Nat.le_refl _) (e 35 (by decide)) (fun k _ _ => e k (by omega)) h11) (q8c (Nat.le_refl _) (e 36 (by decide)) (fun k _ _ => e k (by omega)) h12) (q9c (Nat.le_refl _) (e 37 (by decide)) (fun k _ _ => e k (by omega)) h13) (q10c (e 38 (by decide)) (fun k _ _ => e k (by omega)) h14) (RWdc h1 (fun _ _ _ => rfl) (fun k _ => e k (by omega)) (fun k _ _ => e k (by omega)) h15) h16 (by rw [e 34 (by decide)]; exact h17) (t4c rfl rfl (e 38 (by decide)) (fun k _ _ => e k (by omega)) h18) (t5c (fun _ _ _ => rfl) (e 35 (by decide)) (fun k _ _ => e k (by omega)) h19) (t6c (fun _ _ _ => rfl) (e 36 (by decide)) (fun k _ _ => e k (by omega)) h20) (t7c (fun _ _ _ => rfl) (e 37 (by decide)) (fun k _ _ => e k (by omega)) h21)
  rcases h4 with ⟨g1, g2, g3⟩ | ⟨act, g1, g2, g3, g4, g5⟩
  · exact .inl ⟨by rw [e 39 (by decide)]; exact g1, g2, g3⟩
  · exact .inr ⟨act, g1, by rw [e 39 (by decide)]; exact g2, by rw [e _ (by omega)]; exact g3, by rw [e _ (by omega)]; exact g4, hM_c3 e cs _ (by omega) g5⟩
theorem GS_cellw {σ σ' : ma_H} {w : Nat} {S : Nat → Int32} {nd : Nat} {cs : List (Bool × Nat × List (Nat × Nat × Nat))} {wo : Int32} (a : ∀ o, w ≤ o → o ≤ w + 31 → σ' o = σ o) (h : GS σ w S nd cs wo) : GS σ' w S nd cs wo := by
  obtain ⟨k1, k2, k3, k4, k5, k6⟩ := h
  exact ⟨k1, k2, k3, k4, k5, RWh_low (fun _ _ => rfl) (RWd_congr k1 (fun o g1 g2 => a o (by omega) (by omega)) k6.1) (fun o ho => a o (by omega) (by omega)) k6⟩
theorem V175 {ro : ma_RO} {d : Nat} (σ : ma_H) : ma_ev ro d 175 [.ref 90] SH σ = some (some (.int (σ 91 33)), SH, ma_up (u_cp σ 92 91 933) 90 4 (nI 1)) := by
  have f1 : ma_fitI .boolean (nI 1) = true := by decide
  have H : ∀ k, k < 933 → ma_rn ro d 175 (2, [some (.ref 90), some (.int (nI k))], [], SH, u_cp σ 92 91 k) = ma_rn ro d 175 (2, [some (.ref 90), some (.int (nI (k + 1)))], [], SH, u_cp σ 92 91 (k + 1)) := by
    intro k hk
    rw [Sh175_2]
    simp (disch := first | assumption | omega | exact zb_fit | exact hbf .. | (simp (disch := omega) only [up_no, up_nk, up_at, u_cp_no] <;> (first | assumption | omega)) | (simp only [hkF] <;> omega) | decide) only [S175, z_lt, hk, u_cpS, hkF, z_add, z_mul, up_at, up_no, up_nk, u_cp_no, ma_bd, ↓reduceIte, if_true, if_false, Option.toList, List.nil_append, List.cons_append]
  simp (disch := first | assumption | omega | exact zb_fit | exact hbf .. | (simp (disch := omega) only [up_no, up_nk, up_at, u_cp_no] <;> (first | assumption | omega)) | (simp only [hkF] <;> omega) | decide) only [E175, S175, hkF, z_add, z_mul, up_at, up_no, up_nk, u_cp_no, ma_bd, ↓reduceIte, if_true, if_false, Option.toList, List.nil_append, List.cons_append]
  have := ma_loop (fun k => ma_rn ro d 175 (2, [some (.ref 90), some (.int (nI k))], [], SH, u_cp σ 92 91 k)) 933 H
  simp only [u_cp0] at this
  rw [this, Sh175_2]
  simp (disch := first | assumption | omega | exact zb_fit | exact hbf .. | (simp (disch := omega) only [up_no, up_nk, up_at, u_cp_no] <;> (first | assumption | omega)) | (simp only [hkF] <;> omega) | decide) only [S175, z_lt, Nat.lt_irrefl, f1, hkF, z_add, z_mul, up_at, up_no, up_nk, u_cp_no, ma_bd, ↓reduceIte, if_true, if_false, Option.toList, List.nil_append, List.cons_append]
theorem V176 {ro : ma_RO} {d : Nat} (σ : ma_H) (h4 : σ 90 4 = nI 1) : ma_ev ro d 176 [.ref 90] SH σ = some (some (.int (σ 92 33)), SH, u_cp σ 91 92 933) := by
  have H : ∀ k, k < 933 → ma_rn ro d 176 (12, [some (.ref 90), some (.int (nI k))], [], SH, u_cp σ 91 92 k) = ma_rn ro d 176 (12, [some (.ref 90), some (.int (nI (k + 1)))], [], SH, u_cp σ 91 92 (k + 1)) := by
    intro k hk
    rw [Sh176_12]
    simp (disch := first | assumption | omega | exact zb_fit | exact hbf .. | (simp (disch := omega) only [up_no, up_nk, up_at, u_cp_no] <;> (first | assumption | omega)) | (simp only [hkF] <;> omega) | decide) only [S176, z_lt, hk, u_cpS, hkF, z_add, z_mul, up_at, up_no, up_nk, u_cp_no, ma_bd, ↓reduceIte, if_true, if_false, Option.toList, List.nil_append, List.cons_append]
  simp (disch := first | assumption | omega | exact zb_fit | exact hbf .. | (simp (disch := omega) only [up_no, up_nk, up_at, u_cp_no] <;> (first | assumption | omega)) | (simp only [hkF] <;> omega) | decide) only [E176, S176, h4, z_eq, Nat.reduceEqDiff, hkF, z_add, z_mul, up_at, up_no, up_nk, u_cp_no, ma_bd, ↓reduceIte, if_true, if_false, Option.toList, List.nil_append, List.cons_append]
  have := ma_loop (fun k => ma_rn ro d 176 (12, [some (.ref 90), some (.int (nI k))], [], SH, u_cp σ 91 92 k)) 933 H
  simp only [u_cp0] at this
  rw [this, Sh176_12]
  have e33 : u_cp σ 91 92 933 91 33 = σ 92 33 := if_pos ⟨rfl, by decide⟩
  simp (disch := first | assumption | omega | exact zb_fit | exact hbf .. | (simp (disch := omega) only [up_no, up_nk, up_at, u_cp_no] <;> (first | assumption | omega)) | (simp only [hkF] <;> omega) | decide) only [S176, z_lt, Nat.lt_irrefl, e33, hkF, z_add, z_mul, up_at, up_no, up_nk, u_cp_no, ma_bd, ↓reduceIte, if_true, if_false, Option.toList, List.nil_append, List.cons_append]
theorem C85 {ro : ma_RO} {d : Nat} (σ : ma_H) (hG : G σ) : ∃ r σ1 σ2, ma_ev ro (d + 4) 85 [.ref 0] SH σ = some (some (.int r), SH, σ1) ∧ ma_ev ro (d + 4) 175 [.ref 90] SH σ1 = some (some (.int r), SH, σ2) ∧ G σ2 := by
  obtain ⟨⟨nd, cs, wo, hg⟩, g2, ⟨f, f1, f2, f3, f4⟩, ⟨rn, b1, b2, b3, b4⟩⟩ := hG
  have hg' := hg
  obtain ⟨k1, k2, k3, k4, k5, k6⟩ := hg'
  obtain ⟨s, e48, q, r⟩ := V48 (ro := ro) (d := d) σ 33 1 nd (σ 91) cs wo hkWh_33 hkWh_1 (by omega) k1 k3 k5.1 k6
  have fz : ma_fitI .boolean (nI 1) = true := by decide
  have e175 := V175 (ro := ro) (d := d + 4) (ma_up s 0 2 (nI 1))
  have s91 : s 91 = σ 91 := r 91 (by omega)
  have w1 : s 2 1 = nI nd := by rw [r 2 (by omega)]; exact k6.1.1
  have x33 : ma_up s 0 2 (nI 1) 91 33 = nI nd := by rw [up_no (by decide), s91]; exact k2
  rw [x33] at e175
  refine ⟨nI nd, ma_up s 0 2 (nI 1), _, ?_, e175, ?_⟩
  · simp (disch := first | assumption | omega | exact zb_fit | exact hbf .. | (simp (disch := omega) only [up_no, up_nk, up_at, u_cp_no] <;> (first | assumption | omega)) | (simp only [hkF] <;> omega) | decide) only [E85, S85, e48, fz, w1, hkF, z_add, z_mul, up_at, up_no, up_nk, u_cp_no, ma_bd, ↓reduceIte, if_true, if_false, Option.toList, List.nil_append, List.cons_append]
  · have a : ∀ o, ¬ o = 90 → ¬ o = 92 → ¬ o = 0 → ma_up (u_cp (ma_up s 0 2 (nI 1)) 92 91 933) 90 4 (nI 1) o = s o := fun o o1 o2 o3 => by rw [up_no o1, u_cp_no o2, up_no o3]
    have c92 : ∀ k, k < 933 → ma_up (u_cp (ma_up s 0 2 (nI 1)) 92 91 933) 90 4 (nI 1) 92 k = σ 91 k := fun k hk => by rw [up_no (by decide), show u_cp (ma_up s 0 2 (nI 1)) 92 91 933 92 k = ma_up s 0 2 (nI 1) 91 k from if_pos ⟨rfl, hk⟩, up_no (by decide), s91]
    have c0 : ma_up (u_cp (ma_up s 0 2 (nI 1)) 92 91 933) 90 4 (nI 1) 0 2 = nI 1 := by rw [up_no (by decide), u_cp_no (by decide), up_at]
    have c90 : ma_up (u_cp (ma_up s 0 2 (nI 1)) 92 91 933) 90 4 (nI 1) 90 13 = nI rn := by rw [up_nk (by decide), u_cp_no (by decide), up_no (by decide), r 90 (by omega)]; exact b3
    have c94 : ma_up (u_cp (ma_up s 0 2 (nI 1)) 92 91 933) 90 4 (nI 1) 90 4 = nI 1 := up_at _ _ _ _
    generalize ma_up (u_cp (ma_up s 0 2 (nI 1)) 92 91 933) 90 4 (nI 1) = t at a c92 c0 c90 c94
    have a91 : t 91 = σ 91 := by rw [a 91 (by decide) (by decide) (by decide), s91]
    refine ⟨⟨nd, cs, wo, by rw [a91]; exact GS_cellw (fun o o1 o2 => by rw [a o (by omega) (by omega) (by omega)]; exact r o (by omega)) hg⟩, fun p hp => by rw [a _ (by omega) (by omega) (by omega), r _ (by omega)]; exact g2 p hp, ⟨1, by decide, c0, c94, fun _ => ⟨nd, cs, wo, GS_S c92 (GS_cellw (fun o o1 o2 => a o (by omega) (by omega) (by omega)) ⟨k1, k2, k3, k4, k5, q⟩)⟩⟩, ⟨rn, b1, by rw [a 86 (by decide) (by decide) (by decide), r 86 (by omega)]; exact b2, c90, fun k hk hk2 => by rw [a 87 (by decide) (by decide) (by decide), a 96 (by decide) (by decide) (by decide), r 87 (by omega), r 96 (by omega)]; exact b4 k hk hk2⟩⟩
theorem C86 {ro : ma_RO} {d : Nat} (σ : ma_H) (hG : G σ) : ∃ r σ1 σ2, ma_ev ro (d + 4) 86 [.ref 0] SH σ = some (some (.int r), SH, σ1) ∧ ma_ev ro (d + 4) 176 [.ref 90] SH σ1 = some (some (.int r), SH, σ2) ∧ G σ2 := by
  obtain ⟨hg1, g2, ⟨f, f1, f2, f3, f4⟩, ⟨rn, b1, b2, b3, b4⟩⟩ := hG
  have hf : f = 0 ∨ f = 1 := by omega
  rcases hf with rfl | rfl
  · refine ⟨-3, σ, σ, ?_, ?_, ⟨hg1, g2, ⟨0, f1, f2, f3, f4⟩, ⟨rn, b1, b2, b3, b4⟩⟩⟩
    · simp (disch := first | assumption | omega | exact zb_fit | exact hbf .. | (simp (disch := omega) only [up_no, up_nk, up_at, u_cp_no] <;> (first | assumption | omega)) | (simp only [hkF] <;> omega) | decide) only [E86, S86, f2, z_eq, Nat.reduceEqDiff, hkF, z_add, z_mul, up_at, up_no, up_nk, u_cp_no, ma_bd, ↓reduceIte, if_true, if_false, Option.toList, List.nil_append, List.cons_append]
    · simp (disch := first | assumption | omega | exact zb_fit | exact hbf .. | (simp (disch := omega) only [up_no, up_nk, up_at, u_cp_no] <;> (first | assumption | omega)) | (simp only [hkF] <;> omega) | decide) only [E176, S176, f3, z_eq, Nat.reduceEqDiff, hkF, z_add, z_mul, up_at, up_no, up_nk, u_cp_no, ma_bd, ↓reduceIte, if_true, if_false, Option.toList, List.nil_append, List.cons_append]
  obtain ⟨nd, cs, wo, hg⟩ := f4 rfl
  have hg' := hg
  obtain ⟨k1, k2, k3, k4, k5, k6⟩ := hg'
  obtain ⟨s, e48, q, r⟩ := V48 (ro := ro) (d := d) σ 1 33 nd (σ 92) cs wo hkWh_1 hkWh_33 (by omega) k1 k3 k5.1 k6
  have s92 : s 92 = σ 92 := r 92 (by omega)
  have e176 := V176 (ro := ro) (d := d + 4) s (by rw [r 90 (by omega)]; exact f3)
  have w1 : s 2 1 = nI nd := q.1.1
  have x33 : s 92 33 = nI nd := by rw [s92]; exact k2
  rw [x33] at e176
  refine ⟨nI nd, s, _, ?_, e176, ?_⟩
  · simp (disch := first | assumption | omega | exact zb_fit | exact hbf .. | (simp (disch := omega) only [up_no, up_nk, up_at, u_cp_no] <;> (first | assumption | omega)) | (simp only [hkF] <;> omega) | decide) only [E86, S86, f2, e48, w1, z_eq, Nat.reduceEqDiff, hkF, z_add, z_mul, up_at, up_no, up_nk, u_cp_no, ma_bd, ↓reduceIte, if_true, if_false, Option.toList, List.nil_append, List.cons_append]
  · have a : ∀ o, ¬ o = 91 → u_cp s 91 92 933 o = s o := fun o o1 => u_cp_no o1
    have c91 : ∀ k, k < 933 → u_cp s 91 92 933 91 k = σ 92 k := fun k hk => by rw [show u_cp s 91 92 933 91 k = s 92 k from if_pos ⟨rfl, hk⟩, s92]
    generalize u_cp s 91 92 933 = t at a c91
    have a92 : t 92 = σ 92 := by rw [a 92 (by decide), s92]
    refine ⟨⟨nd, cs, wo, GS_S c91 (GS_cellw (fun o o1 o2 => a o (by omega)) ⟨k1, k2, k3, k4, k5, q⟩)⟩, fun p hp => ?_, ⟨1, by decide, by rw [a 0 (by decide), r 0 (by omega)]; exact f2, by rw [a 90 (by decide), r 90 (by omega)]; exact f3, fun _ => ⟨nd, cs, wo, by rw [a92]; exact GS_cellw (fun o o1 o2 => by rw [a o (by omega)]; exact r o (by omega)) hg⟩⟩, ⟨rn, b1, by rw [a 86 (by decide), r 86 (by omega)]; exact b2, by rw [a 90 (by decide), r 90 (by omega)]; exact b3, fun k hk hk2 => by rw [a 87 (by decide), a 96 (by decide), r 87 (by omega), r 96 (by omega)]; exact b4 k hk hk2⟩⟩
    rw [a _ (by omega)]
    by_cases hpn : p < nd
    · have := (q.1.2.2.2.2 p hpn).1 0 (by decide)
      exact (congrFun (congrArg s (show 4 + 2 * p = 1 + 1 + 1 + 1 + 2 * p by omega)) 0).trans this
    · rw [r _ (by omega)]; exact g2 p hp
