/-! The call on: mornings to come. -/
theorem vD_of {σ : ma_H} {w nd : Nat} {S : Nat → Int32} (h : RWd σ w S nd) (p : Nat) (hp : p < nd) : σ (w + 1 + 1 + 2 * p) 4 = S (9 + p) ∧ σ (w + 1 + 1 + 2 * p) 5 = S (15 + p) := ⟨(h.2.2.2.2 p hp).1 4 (by decide), (h.2.2.2.2 p hp).1 5 (by decide)⟩
theorem sub_nI {x : Int32} {a p : Nat} (h : x - nI a = nI p) : x = nI (p + a) := by
  rw [← z_add, ← h, Int32.sub_add_cancel]
theorem add_subI (p a : Nat) : nI (p + a) - nI a = nI p := by
  rw [← z_add, Int32.add_sub_cancel]
theorem neg_sub {a b : Nat} (h : a < b) (hb : b < 2 ^ 30) : nI a - nI b < nI 0 := by
  rw [Int32.lt_iff_toInt_lt, z0_toInt, Int32.toInt_sub, nI_toInt (by omega), nI_toInt (by omega), Int.bmod_eq_of_le (by omega) (by omega)]
  omega
theorem C69 {ro : ma_RO} {d : Nat} (σ : ma_H) (hG : G σ) (n x : Int32) : ∃ r σ1 σ2, ma_ev ro (d + 7) 69 [.ref 0, .int n, .int x] SH σ = some (some (.int r), SH, σ1) ∧ ma_ev ro (d + 7) 143 [.ref 90, .int n, .int x] SH σ1 = some (some (.int r), SH, σ2) ∧ G σ2 := by
  obtain ⟨nd, cs, wo, hg⟩ := hG.1
  obtain ⟨h1, h2, h3, h4, h5, ⟨mm, h6, h6'⟩, h7, h8, h9, h10, h11, h12, h13, h14, h15, h16, h17, h18, h19, h20, h21⟩ := GS_open hg
  have kw := hkWh_1.2.1
  have w1 := h15.1
  have f1 : ma_fitI .boolean (nI 1) = true := by decide
  have f0 : ma_fitI .boolean (nI 0) = true := by decide
  have kT : hk_cls 0 = 7 := rfl
  -- the two numbers
  have c10 := dcases (x - nI 10) nd (by omega)
  have c20 := dcases (x - nI 20) nd (by omega)
  by_cases hx : (x < nI 0 ∨ nI 1 < x) ∧ (x - nI 10 < nI 0 ∨ ¬ x - nI 10 < nI nd) ∧ (x - nI 20 < nI 0 ∨ ¬ x - nI 20 < nI nd)
  · obtain ⟨hx1, hx2, hx3⟩ := hx
    have e1 := V50n (ro := ro) (d := d + 6) σ 2 nd _ kw w1 hx2
    have e2 := V50n (ro := ro) (d := d + 6) σ 2 nd _ kw w1 hx3
    have e3 := V103n (ro := ro) (d := d + 5) σ _ nd h1 h2 hx2
    have e4 := V103n (ro := ro) (d := d + 5) σ _ nd h1 h2 hx3
    have e88 := V88t (ro := ro) (d := d + 6) σ hx1
    have e102 := V102f (ro := ro) (d := d + 6) σ hx1
    exact ⟨_, σ, σ, by simp (disch := first | assumption | omega | exact zb_fit | exact hbf .. | (simp (disch := omega) only [up_no, up_nk, up_at, u_cp_no] <;> (first | assumption | omega)) | (simp only [hkF] <;> omega) | decide) only [E69, S69, e1, e2, e88, z_eq, Nat.reduceEqDiff, hkF, z_add, z_mul, up_at, up_no, up_nk, u_cp_no, ma_bd, ↓reduceIte, if_true, if_false, Option.toList, List.nil_append, List.cons_append]; rfl, by simp (disch := first | assumption | omega | exact zb_fit | exact hbf .. | (simp (disch := omega) only [up_no, up_nk, up_at, u_cp_no] <;> (first | assumption | omega)) | (simp only [hkF] <;> omega) | decide) only [E143, S143, e3, e4, e102, z_eq, Nat.reduceEqDiff, hkF, z_add, z_mul, up_at, up_no, up_nk, u_cp_no, ma_bd, ↓reduceIte, if_true, if_false, Option.toList, List.nil_append, List.cons_append], hG⟩
  have A : ∀ {P : Prop}, (x = nI 0 → P) → (x = nI 1 → P) → (∀ p, p < nd → x = nI (p + 10) → P) → (∀ p, p < nd → x = nI (p + 20) → P) → P := by
    intro P a0 a1 a2 a3
    by_cases hx1 : x < nI 0 ∨ nI 1 < x
    · rcases c10 with ⟨p, hp, ep⟩ | h10'
      · exact a2 p hp (sub_nI ep)
      · rcases c20 with ⟨p, hp, ep⟩ | h20'
        · exact a3 p hp (sub_nI ep)
        · exact absurd ⟨hx1, h10', h20'⟩ hx
    · obtain ⟨b, hb, rfl⟩ := Rg_of (by decide) hx1
      have hb2 : b = 0 ∨ b = 1 := by omega
      rcases hb2 with rfl | rfl
      · exact a0 rfl
      · exact a1 rfl
  by_cases hn : n < nI 0 ∨ nI 60 < n
  · have e88n := V88t (ro := ro) (d := d + 6) σ hn
    have e102n := V102f (ro := ro) (d := d + 6) σ hn
    refine ⟨-2, σ, σ, ?_, ?_, hG⟩
    · refine A ?_ ?_ ?_ ?_
      · rintro rfl
        have e1 := V50n (ro := ro) (d := d + 6) σ 2 nd (nI 0 - nI 10) kw w1 (.inl (neg_sub (by decide) (by decide)))
        have e2 := V50n (ro := ro) (d := d + 6) σ 2 nd (nI 0 - nI 20) kw w1 (.inl (neg_sub (by decide) (by decide)))
        have e88 := V88f (ro := ro) (d := d + 6) σ (n := nI 0) (m := nI 1) (by decide)
        simp (disch := first | assumption | omega | exact zb_fit | exact hbf .. | (simp (disch := omega) only [up_no, up_nk, up_at, u_cp_no] <;> (first | assumption | omega)) | (simp only [hkF] <;> omega) | decide) only [E69, S69, e1, e2, e88, e88n, z_eq, Nat.reduceEqDiff, hkF, z_add, z_mul, up_at, up_no, up_nk, u_cp_no, ma_bd, ↓reduceIte, if_true, if_false, Option.toList, List.nil_append, List.cons_append]
      · rintro rfl
        have e1 := V50n (ro := ro) (d := d + 6) σ 2 nd (nI 1 - nI 10) kw w1 (.inl (neg_sub (by decide) (by decide)))
        have e2 := V50n (ro := ro) (d := d + 6) σ 2 nd (nI 1 - nI 20) kw w1 (.inl (neg_sub (by decide) (by decide)))
        have e88 := V88f (ro := ro) (d := d + 6) σ (n := nI 1) (m := nI 1) (by decide)
        simp (disch := first | assumption | omega | exact zb_fit | exact hbf .. | (simp (disch := omega) only [up_no, up_nk, up_at, u_cp_no] <;> (first | assumption | omega)) | (simp only [hkF] <;> omega) | decide) only [E69, S69, e1, e2, e88, e88n, z_eq, Nat.reduceEqDiff, hkF, z_add, z_mul, up_at, up_no, up_nk, u_cp_no, ma_bd, ↓reduceIte, if_true, if_false, Option.toList, List.nil_append, List.cons_append]
      · rintro p hp rfl
        have e1 := V50 (ro := ro) (d := d + 6) σ 2 p nd kw w1 h1 hp
        have e2 := V50n (ro := ro) (d := d + 6) σ 2 nd (nI (p + 10) - nI 20) kw w1 (.inl (neg_sub (by omega) (by decide)))
        have e88 := V88t (ro := ro) (d := d + 6) σ (n := nI (p + 10)) (m := nI 1) (.inr (by rw [z_lt (by omega) (by omega)]; omega))
        simp (disch := first | assumption | omega | exact zb_fit | exact hbf .. | (simp (disch := omega) only [up_no, up_nk, up_at, u_cp_no] <;> (first | assumption | omega)) | (simp only [hkF] <;> omega) | decide) only [E69, S69, add_subI, e1, e2, e88, e88n, z_eq, Nat.reduceEqDiff, hkF, z_add, z_mul, up_at, up_no, up_nk, u_cp_no, ma_bd, ↓reduceIte, if_true, if_false, Option.toList, List.nil_append, List.cons_append]
      · rintro p hp rfl
        have e1 := V50n (ro := ro) (d := d + 6) σ 2 nd (nI (p + 20) - nI 10) kw w1 (.inr (by rw [z_sub (by omega), z_lt (by omega) (by omega)]; omega))
        have e2 := V50 (ro := ro) (d := d + 6) σ 2 p nd kw w1 h1 hp
        have e88 := V88t (ro := ro) (d := d + 6) σ (n := nI (p + 20)) (m := nI 1) (.inr (by rw [z_lt (by omega) (by omega)]; omega))
        simp (disch := first | assumption | omega | exact zb_fit | exact hbf .. | (simp (disch := omega) only [up_no, up_nk, up_at, u_cp_no] <;> (first | assumption | omega)) | (simp only [hkF] <;> omega) | decide) only [E69, S69, add_subI, e1, e2, e88, e88n, z_eq, Nat.reduceEqDiff, hkF, z_add, z_mul, up_at, up_no, up_nk, u_cp_no, ma_bd, ↓reduceIte, if_true, if_false, Option.toList, List.nil_append, List.cons_append]
    · refine A ?_ ?_ ?_ ?_
      · rintro rfl
        have e88 := V102t (ro := ro) (d := d + 6) σ (n := nI 0) (m := nI 1) (by decide)
        simp (disch := first | assumption | omega | exact zb_fit | exact hbf .. | (simp (disch := omega) only [up_no, up_nk, up_at, u_cp_no] <;> (first | assumption | omega)) | (simp only [hkF] <;> omega) | decide) only [E143, S143, e88, e102n, z_eq, Nat.reduceEqDiff, hkF, z_add, z_mul, up_at, up_no, up_nk, u_cp_no, ma_bd, ↓reduceIte, if_true, if_false, Option.toList, List.nil_append, List.cons_append]
      · rintro rfl
        have e88 := V102t (ro := ro) (d := d + 6) σ (n := nI 1) (m := nI 1) (by decide)
        simp (disch := first | assumption | omega | exact zb_fit | exact hbf .. | (simp (disch := omega) only [up_no, up_nk, up_at, u_cp_no] <;> (first | assumption | omega)) | (simp only [hkF] <;> omega) | decide) only [E143, S143, e88, e102n, z_eq, Nat.reduceEqDiff, hkF, z_add, z_mul, up_at, up_no, up_nk, u_cp_no, ma_bd, ↓reduceIte, if_true, if_false, Option.toList, List.nil_append, List.cons_append]
      · rintro p hp rfl
        have e3 := V103p (ro := ro) (d := d + 5) σ p nd h1 h2 hp
        have e88 := V102f (ro := ro) (d := d + 6) σ (n := nI (p + 10)) (m := nI 1) (.inr (by rw [z_lt (by omega) (by omega)]; omega))
        simp (disch := first | assumption | omega | exact zb_fit | exact hbf .. | (simp (disch := omega) only [up_no, up_nk, up_at, u_cp_no] <;> (first | assumption | omega)) | (simp only [hkF] <;> omega) | decide) only [E143, S143, add_subI, e3, e88, e102n, z_eq, Nat.reduceEqDiff, hkF, z_add, z_mul, up_at, up_no, up_nk, u_cp_no, ma_bd, ↓reduceIte, if_true, if_false, Option.toList, List.nil_append, List.cons_append]
      · rintro p hp rfl
        have e1 := V103n (ro := ro) (d := d + 5) σ (nI (p + 20) - nI 10) nd h1 h2 (.inr (by rw [z_sub (by omega), z_lt (by omega) (by omega)]; omega))
        have e3 := V103p (ro := ro) (d := d + 5) σ p nd h1 h2 hp
        have e88 := V102f (ro := ro) (d := d + 6) σ (n := nI (p + 20)) (m := nI 1) (.inr (by rw [z_lt (by omega) (by omega)]; omega))
        simp (disch := first | assumption | omega | exact zb_fit | exact hbf .. | (simp (disch := omega) only [up_no, up_nk, up_at, u_cp_no] <;> (first | assumption | omega)) | (simp only [hkF] <;> omega) | decide) only [E143, S143, add_subI, e1, e3, e88, e102n, z_eq, Nat.reduceEqDiff, hkF, z_add, z_mul, up_at, up_no, up_nk, u_cp_no, ma_bd, ↓reduceIte, if_true, if_false, Option.toList, List.nil_append, List.cons_append]
  obtain ⟨k, hk, rfl⟩ := Rg_of (by decide) hn
  have e88n := V88f (ro := ro) (d := d + 6) σ hn
  -- the class
  obtain ⟨s1, e52, p52, r52⟩ := V52 (ro := ro) (d := d + 4) σ 70 2 nd (σ 91) hkWd_70 kw (by omega) h1 h15 h5
  obtain ⟨s2, e53, p53, r53⟩ := V53 (ro := ro) (d := d) s1 70 16 nd mm k (σ 91) cs wo hkWd_70 hkWh_1.2.2.1 (by omega) (HXr_congr (fun o o1 o2 => r52 o (by omega)) h16) h3 h1 p52 (by omega) h6' h5
  have r2 : ∀ o, (o < 70 ∨ 83 < o) → s2 o = σ o := fun o ho => (r53 o (by omega)).trans (r52 o (by omega))
  have hF := stN_facts cs mm nd (σ 91) h1 h5 h6' k
  have e55 := V55 (ro := ro) (d := d + 5) s2 70 nd _ hkWd_70 h1 p53 hF.2.1
  -- the reference
  have s91 : s2 91 = σ 91 := r2 91 (by omega)
  have e105 := V105 (ro := ro) (d := d + 6) s2
  have u91 : u_cp s2 93 91 33 91 = σ 91 := by rw [u_cp_no (by decide)]; exact s91
  obtain ⟨s3, e140, q3, r3⟩ := V140 (ro := ro) (d := d + 1) (u_cp s2 93 91 33) cs wo (by rw [u91]; exact h4) h3 nd mm k h1 (by rw [u91]; exact h2) (by omega) (by rw [u91]; exact h6') (by rw [u91]; exact h5)
  rw [u91] at q3
  have e136 := V136 (ro := ro) (d := d + 6) s3 nd h1 (by rw [q3, hF.1 33 (by decide)]; exact h2)
  rw [q3] at e136
  have e106 := V106 (ro := ro) (d := d + 6) s3
  have b91 : u_cp s3 91 93 33 91 = σ 91 := back91 s3 (by rw [q3]; exact hF.1) (fun k hk => by rw [r3 93 (by decide) (by decide) (by decide), kept93 _ _ hk, s91])
  have hGe : G (u_cp s3 91 93 33) := G_same hG (fun o ho => by
    by_cases h91 : o = 91
    · rw [h91]; exact b91
    · rw [u_cp_no h91, r3 o h91 (by omega) (by omega), u_cp_no (by omega)]; exact r2 o (by omega)) (by rw [u_cp_no (by decide), r3 90 (by decide) (by decide) (by decide), u_cp_no (by decide), r2 90 (by omega)]) (by rw [u_cp_no (by decide), r3 90 (by decide) (by decide) (by decide), u_cp_no (by decide), r2 90 (by omega)])
  have e102n := V102t (ro := ro) (d := d + 6) s2 hn
  have t33 : s2 91 33 = nI nd := by rw [s91]; exact h2
  have tw1 : s2 2 1 = nI nd := by rw [r2 2 (by omega)]; exact w1
  have k70 := hkWd_70.1
  refine A ?_ ?_ ?_ ?_
  · rintro rfl
    have e1 := V50n (ro := ro) (d := d + 6) σ 2 nd (nI 0 - nI 10) kw w1 (.inl (neg_sub (by decide) (by decide)))
    have e2 := V50n (ro := ro) (d := d + 6) σ 2 nd (nI 0 - nI 20) kw w1 (.inl (neg_sub (by decide) (by decide)))
    have e88 := V88f (ro := ro) (d := d + 6) σ (n := nI 0) (m := nI 1) (by decide)
    have m88 := V102t (ro := ro) (d := d + 6) s2 (n := nI 0) (m := nI 1) (by decide)
    exact ⟨_, s2, _, by simp (disch := first | assumption | omega | exact zb_fit | exact hbf .. | (simp (disch := omega) only [up_no, up_nk, up_at, u_cp_no] <;> (first | assumption | omega)) | (simp only [hkF] <;> omega) | decide) only [E69, S69, e1, e2, e88, e88n, e52, e53, e55, z_eq, Nat.reduceEqDiff, hkF, z_add, z_mul, up_at, up_no, up_nk, u_cp_no, ma_bd, ↓reduceIte, if_true, if_false, Option.toList, List.nil_append, List.cons_append]; rfl, by simp (disch := first | assumption | omega | exact zb_fit | exact hbf .. | (simp (disch := omega) only [up_no, up_nk, up_at, u_cp_no] <;> (first | assumption | omega)) | (simp only [hkF] <;> omega) | decide) only [E143, S143, m88, e102n, e105, e140, e136, e106, z_eq, Nat.reduceEqDiff, hkF, z_add, z_mul, up_at, up_no, up_nk, u_cp_no, ma_bd, ↓reduceIte, if_true, if_false, Option.toList, List.nil_append, List.cons_append], hGe⟩
  · rintro rfl
    have e1 := V50n (ro := ro) (d := d + 6) σ 2 nd (nI 1 - nI 10) kw w1 (.inl (neg_sub (by decide) (by decide)))
    have e2 := V50n (ro := ro) (d := d + 6) σ 2 nd (nI 1 - nI 20) kw w1 (.inl (neg_sub (by decide) (by decide)))
    have e88 := V88f (ro := ro) (d := d + 6) σ (n := nI 1) (m := nI 1) (by decide)
    have m88 := V102t (ro := ro) (d := d + 6) s2 (n := nI 1) (m := nI 1) (by decide)
    have y1 : s2 70 4 = stN cs mm nd k (σ 91) 2 := p53.2.2.2.1
    have y2 : s3 91 2 = stN cs mm nd k (σ 91) 2 := by rw [q3]
    exact ⟨_, s2, _, by simp (disch := first | assumption | omega | exact zb_fit | exact hbf .. | (simp (disch := omega) only [up_no, up_nk, up_at, u_cp_no] <;> (first | assumption | omega)) | (simp only [hkF] <;> omega) | decide) only [E69, S69, e1, e2, e88, e88n, e52, e53, y1, z_eq, Nat.reduceEqDiff, hkF, z_add, z_mul, up_at, up_no, up_nk, u_cp_no, ma_bd, ↓reduceIte, if_true, if_false, Option.toList, List.nil_append, List.cons_append]; rfl, by simp (disch := first | assumption | omega | exact zb_fit | exact hbf .. | (simp (disch := omega) only [up_no, up_nk, up_at, u_cp_no] <;> (first | assumption | omega)) | (simp only [hkF] <;> omega) | decide) only [E143, S143, m88, e102n, e105, e140, y2, e106, z_eq, Nat.reduceEqDiff, hkF, z_add, z_mul, up_at, up_no, up_nk, u_cp_no, ma_bd, ↓reduceIte, if_true, if_false, Option.toList, List.nil_append, List.cons_append], hGe⟩
  · rintro p hp rfl
    have e1 := V50 (ro := ro) (d := d + 6) σ 2 p nd kw w1 h1 hp
    have e2 := V50n (ro := ro) (d := d + 6) σ 2 nd (nI (p + 10) - nI 20) kw w1 (.inl (neg_sub (by omega) (by decide)))
    have e88 := V88t (ro := ro) (d := d + 6) σ (n := nI (p + 10)) (m := nI 1) (.inr (by rw [z_lt (by omega) (by omega)]; omega))
    have e5 := V50 (ro := ro) (d := d + 6) s2 70 p nd hkWd_70 p53.1 h1 hp
    have kd := hkWd_70.2.2.2 p (by omega)
    have kd1 := kd.1
    have y1 : s2 (70 + 1 + 1 + 2 * p) 4 = stN cs mm nd k (σ 91) (9 + p) := (vD_of p53 p hp).1
    have y2 : s3 91 (9 + p) = stN cs mm nd k (σ 91) (9 + p) := by rw [q3]
    have m3 := V103p (ro := ro) (d := d + 5) s2 p nd h1 t33 hp
    have m88 := V102f (ro := ro) (d := d + 6) s2 (n := nI (p + 10)) (m := nI 1) (.inr (by rw [z_lt (by omega) (by omega)]; omega))
    have a1 : nI (9 + (p + 10)) - nI 10 = nI (9 + p) := by rw [show 9 + (p + 10) = 9 + p + 10 by omega]; exact add_subI _ _
    have n0 : ¬ p + 10 = 0 := by omega
    have n1 : ¬ p + 10 = 1 := by omega
    have n20 : p + 10 < 20 := by omega
    have p9 : 9 + p < 933 := by omega
    exact ⟨_, s2, _, by simp (disch := first | assumption | omega | exact zb_fit | exact hbf .. | (simp (disch := omega) only [up_no, up_nk, up_at, u_cp_no] <;> (first | assumption | omega)) | (simp only [hkF] <;> omega) | decide) only [E69, S69, add_subI, e1, e2, e88, e88n, e52, e53, e5, y1, n0, n1, z_eq, Nat.reduceEqDiff, hkF, z_add, z_mul, up_at, up_no, up_nk, u_cp_no, ma_bd, ↓reduceIte, if_true, if_false, Option.toList, List.nil_append, List.cons_append]; rfl, by simp (disch := first | assumption | omega | exact zb_fit | exact hbf .. | (simp (disch := omega) only [up_no, up_nk, up_at, u_cp_no] <;> (first | assumption | omega)) | (simp only [hkF] <;> omega) | decide) only [E143, S143, add_subI, m3, m88, e102n, e105, e140, a1, y2, e106, n0, n1, z_lt, n20, z_eq, Nat.reduceEqDiff, hkF, z_add, z_mul, up_at, up_no, up_nk, u_cp_no, ma_bd, ↓reduceIte, if_true, if_false, Option.toList, List.nil_append, List.cons_append], hGe⟩
  · rintro p hp rfl
    have e1 := V50n (ro := ro) (d := d + 6) σ 2 nd (nI (p + 20) - nI 10) kw w1 (.inr (by rw [z_sub (by omega), z_lt (by omega) (by omega)]; omega))
    have e2 := V50 (ro := ro) (d := d + 6) σ 2 p nd kw w1 h1 hp
    have e88 := V88t (ro := ro) (d := d + 6) σ (n := nI (p + 20)) (m := nI 1) (.inr (by rw [z_lt (by omega) (by omega)]; omega))
    have e5 := V50 (ro := ro) (d := d + 6) s2 70 p nd hkWd_70 p53.1 h1 hp
    have kd := hkWd_70.2.2.2 p (by omega)
    have kd1 := kd.1
    have y1 : s2 (70 + 1 + 1 + 2 * p) 5 = stN cs mm nd k (σ 91) (15 + p) := (vD_of p53 p hp).2
    have y2 : s3 91 (15 + p) = stN cs mm nd k (σ 91) (15 + p) := by rw [q3]
    have m1 := V103n (ro := ro) (d := d + 5) s2 (nI (p + 20) - nI 10) nd h1 t33 (.inr (by rw [z_sub (by omega), z_lt (by omega) (by omega)]; omega))
    have m3 := V103p (ro := ro) (d := d + 5) s2 p nd h1 t33 hp
    have m88 := V102f (ro := ro) (d := d + 6) s2 (n := nI (p + 20)) (m := nI 1) (.inr (by rw [z_lt (by omega) (by omega)]; omega))
    have a1 : nI (15 + (p + 20)) - nI 20 = nI (15 + p) := by rw [show 15 + (p + 20) = 15 + p + 20 by omega]; exact add_subI _ _
    have n0 : ¬ p + 20 = 0 := by omega
    have n1 : ¬ p + 20 = 1 := by omega
    have n20 : ¬ p + 20 < 20 := by omega
    have p9 : 15 + p < 933 := by omega
    exact ⟨_, s2, _, by simp (disch := first | assumption | omega | exact zb_fit | exact hbf .. | (simp (disch := omega) only [up_no, up_nk, up_at, u_cp_no] <;> (first | assumption | omega)) | (simp only [hkF] <;> omega) | decide) only [E69, S69, add_subI, e1, e2, e88, e88n, e52, e53, e5, y1, n0, n1, z_eq, Nat.reduceEqDiff, hkF, z_add, z_mul, up_at, up_no, up_nk, u_cp_no, ma_bd, ↓reduceIte, if_true, if_false, Option.toList, List.nil_append, List.cons_append]; rfl, by simp (disch := first | assumption | omega | exact zb_fit | exact hbf .. | (simp (disch := omega) only [up_no, up_nk, up_at, u_cp_no] <;> (first | assumption | omega)) | (simp only [hkF] <;> omega) | decide) only [E143, S143, add_subI, m1, m3, m88, e102n, e105, e140, a1, y2, e106, n0, n1, z_lt, n20, z_eq, Nat.reduceEqDiff, hkF, z_add, z_mul, up_at, up_no, up_nk, u_cp_no, ma_bd, ↓reduceIte, if_true, if_false, Option.toList, List.nil_append, List.cons_append], hGe⟩
