/-! The calls plan, see, feed. -/
theorem G_plan_add {σ : ma_H} (hG : G σ) {nd : Nat} {cs : List (Bool × Nat × List (Nat × Nat × Nat))} {wo : Int32} (hg : GS σ 1 (σ 91) nd cs wo) (n : Nat) (hn : n < 8) (n2 : σ 91 36 = nI n) (x y : Int32) (hok : Rg x 3 ∧ ((x = nI 1 ∨ x = nI 2) → ∃ q, q < nd ∧ y = nI q) ∧ (x = nI 3 → Rg y 20)) :
    G (ma_up (ma_up (ma_up (ma_up (ma_up (ma_up (ma_up σ 26 n x) 27 n y) 28 n (nI 0)) 25 3 (nI (n + 1))) 91 (91 + n) x) 91 (99 + n) y) 91 36 (nI (n + 1))) := by
  obtain ⟨h1, h2, h3, h4, h5, h6, h7, h8, h9, h10, h11, h12, h13, h14, h15, h16, h17, h18, h19, ⟨n', m1, m2, m3, m4⟩, h21⟩ := GS_open hg
  have hn' : n' = n := by have := m2.symm.trans n2; rw [z_eq (by omega) (by omega)] at this; exact this
  subst hn'
  refine G_plan hG hg (fun k g1 g2 => ?_) (fun o g1 g2 => ?_) (fun m hm1 hm2 k hk => ?_) ⟨n' + 1, by omega, up_at _ _ _ _, ⟨?_, fun k hk => ?_⟩⟩
  · rw [up_nk g1, up_nk (by omega), up_nk (by omega), up_no (by decide), up_no (by decide), up_no (by decide), up_no (by decide)]
  · rw [up_no g1, up_no g1, up_no g1, up_no (by omega), up_no (by omega), up_no (by omega), up_no (by omega)]
  · rw [up_at, z_eq (by omega) (by omega)] at hm2
    subst hm2
    by_cases hkn : k = n'
    · subst hkn
      rw [up_nk (by omega), up_nk (by omega), up_at, up_nk (by omega), up_at]
      exact hok
    · rw [up_nk (by omega), up_nk (by omega), up_nk (by omega), up_no (by decide), up_no (by decide), up_no (by decide), up_no (by decide), up_nk (by omega), up_nk (by omega), up_nk (by omega), up_no (by decide), up_no (by decide), up_no (by decide), up_no (by decide)]
      exact h12 n' m1 m2 k (by omega)
  · rw [up_no (by decide), up_no (by decide), up_no (by decide)]; exact up_at _ _ _ _
  · by_cases hkn : k = n'
    · subst hkn
      refine ⟨?_, ?_, ?_⟩
      · rw [up_no (by decide), up_no (by decide), up_no (by decide), up_no (by decide), up_no (by decide), up_no (by decide), up_at, up_nk (by omega), up_nk (by omega), up_at]
      · rw [up_no (by decide), up_no (by decide), up_no (by decide), up_no (by decide), up_no (by decide), up_at, up_nk (by omega), up_at]
      · rw [up_no (by decide), up_no (by decide), up_no (by decide), up_no (by decide), up_at]; exact ⟨0, by decide, rfl⟩
    · have := m4 k (by omega)
      refine ⟨?_, ?_, ?_⟩
      · rw [up_no (by decide), up_no (by decide), up_no (by decide), up_no (by decide), up_no (by decide), up_no (by decide), up_nk (by omega), up_nk (by omega), up_nk (by omega), up_nk (by omega), up_no (by decide), up_no (by decide), up_no (by decide), up_no (by decide)]; exact this.1
      · rw [up_no (by decide), up_no (by decide), up_no (by decide), up_no (by decide), up_no (by decide), up_nk (by omega), up_no (by decide), up_nk (by omega), up_nk (by omega), up_nk (by omega), up_no (by decide), up_no (by decide), up_no (by decide), up_no (by decide)]; exact this.2.1
      · rw [up_no (by decide), up_no (by decide), up_no (by decide), up_no (by decide), up_nk (by omega), up_no (by decide), up_no (by decide)]; exact this.2.2
theorem C78 {ro : ma_RO} {d : Nat} (σ : ma_H) (hG : G σ) (x y : Int32) : ∃ r σ1 σ2, ma_ev ro (d + 3) 78 [.ref 0, .int x, .int y] SH σ = some (some (.int r), SH, σ1) ∧ ma_ev ro (d + 3) 159 [.ref 90, .int x, .int y] SH σ1 = some (some (.int r), SH, σ2) ∧ G σ2 := by
  obtain ⟨nd, cs, wo, hg⟩ := hG.1
  obtain ⟨h1, h2, h3, h4, h5, h6, h7, h8, h9, h10, h11, h12, h13, h14, h15, h16, h17, h18, h19, ⟨n, n1, n2, n3, n4⟩, h21⟩ := GS_open hg
  have kw := hkWh_1.2.1
  have w1 := h15.1
  have kr : hkRw 25 8 := hkWh_1.2.2.2.2.2.2.1
  have n3' : σ 25 3 = nI n := n3
  by_cases hm : x = -1
  · subst hm
    refine ⟨nI 0, ma_up σ 25 3 (nI 0), ma_up (ma_up σ 25 3 (nI 0)) 91 36 (nI 0), by simp (disch := first | assumption | omega | exact zb_fit | exact hbf .. | (simp (disch := omega) only [up_no, up_nk, up_at, u_cp_no] <;> (first | assumption | omega)) | (simp only [hkF] <;> omega) | decide) only [E78, S78, hkF, z_add, z_mul, up_at, up_no, up_nk, u_cp_no, ma_bd, ↓reduceIte, if_true, if_false, Option.toList, List.nil_append, List.cons_append], by simp (disch := first | assumption | omega | exact zb_fit | exact hbf .. | (simp (disch := omega) only [up_no, up_nk, up_at, u_cp_no] <;> (first | assumption | omega)) | (simp only [hkF] <;> omega) | decide) only [E159, S159, hkF, z_add, z_mul, up_at, up_no, up_nk, u_cp_no, ma_bd, ↓reduceIte, if_true, if_false, Option.toList, List.nil_append, List.cons_append], ?_⟩
    have e37 : ma_up (ma_up σ 25 3 (nI 0)) 91 36 (nI 0) 91 36 = nI 0 := up_at _ _ _ _
    refine G_plan hG hg (fun k g1 g2 => by rw [up_nk g1, up_no (by decide)]) (fun o g1 g2 => by rw [up_no g1, up_no (by omega)]) (fun m hm1 hm2 k hk => ?_) ⟨0, by decide, e37, ⟨by rw [up_no (by decide)]; exact up_at _ _ _ _, fun k hk => by omega⟩⟩
    rw [e37, z_eq (by omega) (by omega)] at hm2
    omega
  by_cases hx : x < nI 0 ∨ nI 3 < x
  · have e88 := V88t (ro := ro) (d := d + 2) σ hx
    have e102 := V102f (ro := ro) (d := d + 2) σ hx
    exact ⟨_, σ, σ, by simp (disch := first | assumption | omega | exact zb_fit | exact hbf .. | (simp (disch := omega) only [up_no, up_nk, up_at, u_cp_no] <;> (first | assumption | omega)) | (simp only [hkF] <;> omega) | decide) only [E78, S78, hm, e88, z_eq, Nat.reduceEqDiff, hkF, z_add, z_mul, up_at, up_no, up_nk, u_cp_no, ma_bd, ↓reduceIte, if_true, if_false, Option.toList, List.nil_append, List.cons_append]; rfl, by simp (disch := first | assumption | omega | exact zb_fit | exact hbf .. | (simp (disch := omega) only [up_no, up_nk, up_at, u_cp_no] <;> (first | assumption | omega)) | (simp only [hkF] <;> omega) | decide) only [E159, S159, hm, e102, z_eq, Nat.reduceEqDiff, hkF, z_add, z_mul, up_at, up_no, up_nk, u_cp_no, ma_bd, ↓reduceIte, if_true, if_false, Option.toList, List.nil_append, List.cons_append], hG⟩
  have e88 := V88f (ro := ro) (d := d + 2) σ hx
  have m102 := fun s => V102t (ro := ro) (d := d + 2) s hx
  obtain ⟨a, ha, rfl⟩ := Rg_of (by decide) hx
  -- what both do when the row is fit
  have FIN : ∀ σ1, (σ1 = ma_up (ma_up (ma_up (ma_up σ 26 n (nI a)) 27 n y) 28 n (nI 0)) 25 3 (nI (n + 1))) → σ1 91 = σ 91 := fun σ1 h => by rw [h, up_no (by decide), up_no (by decide), up_no (by decide), up_no (by decide)]
  have e39n := fun h8 : n = 8 => V39n (ro := ro) (d := d + 1) σ 25 8 (nI a) y (nI 0) kr (by rw [n3', h8])
  have e39 := fun h8 : n < 8 => V39 (ro := ro) (d := d) σ 25 8 n (nI a) y (nI 0) kr h8 n3' ⟨0, by decide, rfl⟩
  have in12 : a = 1 ∨ a = 2 → ¬ (nI a < nI 1 ∨ nI 2 < nI a) := fun h => by rw [z_lt (by omega) (by omega), z_lt (by omega) (by omega)]; omega
  have c4 : a = 0 ∨ (a = 1 ∨ a = 2) ∨ a = 3 := by omega
  have hp91 : 91 + n < 933 := by omega
  have hp99 : 99 + n < 933 := by omega
  have f1 : ma_fitI .boolean (nI 1) = true := by decide
  have f0 : ma_fitI .boolean (nI 0) = true := by decide
  rcases c4 with rfl | (rfl | rfl) | rfl
  · have i12 := fun s => V102 (ro := ro) (d := d + 2) (nI 0) (nI 1) (nI 2) s
    have hz : zb (¬ nI 0 < nI 1 ∧ ¬ nI 2 < nI 0) = nI 0 := zb_f (by decide)
    by_cases h8 : n = 8
    · have e39 := e39n h8
      rw [h8] at n2
      have m102 := m102 σ
      exact ⟨_, σ, σ, by simp (disch := first | assumption | omega | exact zb_fit | exact hbf .. | (simp (disch := omega) only [up_no, up_nk, up_at, u_cp_no] <;> (first | assumption | omega)) | (simp only [hkF] <;> omega) | decide) only [E78, S78, hm, e88, e39, z_eq, Nat.reduceEqDiff, hkF, z_add, z_mul, up_at, up_no, up_nk, u_cp_no, ma_bd, ↓reduceIte, if_true, if_false, Option.toList, List.nil_append, List.cons_append]; rfl, by simp (disch := first | assumption | omega | exact zb_fit | exact hbf .. | (simp (disch := omega) only [up_no, up_nk, up_at, u_cp_no] <;> (first | assumption | omega)) | (simp only [hkF] <;> omega) | decide) only [E159, S159, hm, m102, i12, hz, n2, z_eq, Nat.reduceEqDiff, hkF, z_add, z_mul, up_at, up_no, up_nk, u_cp_no, ma_bd, ↓reduceIte, if_true, if_false, Option.toList, List.nil_append, List.cons_append], hG⟩
    · have e39 := e39 (by omega)
      refine ⟨nI (n + 1), _, _, by simp (disch := first | assumption | omega | exact zb_fit | exact hbf .. | (simp (disch := omega) only [up_no, up_nk, up_at, u_cp_no] <;> (first | assumption | omega)) | (simp only [hkF] <;> omega) | decide) only [E78, S78, hm, e88, e39, z_eq, Nat.reduceEqDiff, hkF, z_add, z_mul, up_at, up_no, up_nk, u_cp_no, ma_bd, ↓reduceIte, if_true, if_false, Option.toList, List.nil_append, List.cons_append]; rfl, ?_, G_plan_add hG hg n (by omega) n2 (nI 0) y ⟨⟨0, by decide, rfl⟩, fun h => by rw [z_eq (by decide) (by decide), z_eq (by decide) (by decide)] at h; omega, fun h => by rw [z_eq (by decide) (by decide)] at h; omega⟩⟩
      generalize hσ1 : ma_up (ma_up (ma_up (ma_up σ 26 n (nI 0)) 27 n y) 28 n (nI 0)) 25 3 (nI (n + 1)) = σ1
      have s91 := FIN σ1 hσ1.symm
      have n2' : σ1 91 36 = nI n := by rw [s91]; exact n2
      have m102 := m102 σ1
      simp (disch := first | assumption | omega | exact zb_fit | exact hbf .. | (simp (disch := omega) only [up_no, up_nk, up_at, u_cp_no] <;> (first | assumption | omega)) | (simp only [hkF] <;> omega) | decide) only [E159, S159, hm, m102, i12, hz, n2', h8, z_eq, Nat.reduceEqDiff, hkF, z_add, z_mul, up_at, up_no, up_nk, u_cp_no, ma_bd, ↓reduceIte, if_true, if_false, Option.toList, List.nil_append, List.cons_append]
  · have i12 := fun s => V102 (ro := ro) (d := d + 2) (nI 1) (nI 1) (nI 2) s
    have hz : zb (¬ nI 1 < nI 1 ∧ ¬ nI 2 < nI 1) = nI 1 := zb_t (by decide)
    rcases Or.symm (dcases y nd (by omega)) with hy | ⟨p, hp, rfl⟩
    · have e50 := V50n (ro := ro) (d := d + 2) σ 2 nd y kw w1 hy
      have e103 := V103n (ro := ro) (d := d + 1) σ y nd h1 h2 hy
      have m102 := m102 σ
      exact ⟨_, σ, σ, by simp (disch := first | assumption | omega | exact zb_fit | exact hbf .. | (simp (disch := omega) only [up_no, up_nk, up_at, u_cp_no] <;> (first | assumption | omega)) | (simp only [hkF] <;> omega) | decide) only [E78, S78, hm, e88, e50, z_eq, Nat.reduceEqDiff, hkF, z_add, z_mul, up_at, up_no, up_nk, u_cp_no, ma_bd, ↓reduceIte, if_true, if_false, Option.toList, List.nil_append, List.cons_append]; rfl, by simp (disch := first | assumption | omega | exact zb_fit | exact hbf .. | (simp (disch := omega) only [up_no, up_nk, up_at, u_cp_no] <;> (first | assumption | omega)) | (simp only [hkF] <;> omega) | decide) only [E159, S159, hm, m102, i12, hz, e103, z_eq, Nat.reduceEqDiff, hkF, z_add, z_mul, up_at, up_no, up_nk, u_cp_no, ma_bd, ↓reduceIte, if_true, if_false, Option.toList, List.nil_append, List.cons_append], hG⟩
    · have e50 := V50 (ro := ro) (d := d + 2) σ 2 p nd kw w1 h1 hp
      by_cases h8 : n = 8
      · have e39 := e39n h8
        rw [h8] at n2
        have m102 := m102 σ
        have e103 := V103p (ro := ro) (d := d + 1) σ p nd h1 h2 hp
        exact ⟨_, σ, σ, by simp (disch := first | assumption | omega | exact zb_fit | exact hbf .. | (simp (disch := omega) only [up_no, up_nk, up_at, u_cp_no] <;> (first | assumption | omega)) | (simp only [hkF] <;> omega) | decide) only [E78, S78, hm, e88, e50, e39, z_eq, Nat.reduceEqDiff, hkF, z_add, z_mul, up_at, up_no, up_nk, u_cp_no, ma_bd, ↓reduceIte, if_true, if_false, Option.toList, List.nil_append, List.cons_append]; rfl, by simp (disch := first | assumption | omega | exact zb_fit | exact hbf .. | (simp (disch := omega) only [up_no, up_nk, up_at, u_cp_no] <;> (first | assumption | omega)) | (simp only [hkF] <;> omega) | decide) only [E159, S159, hm, m102, i12, hz, e103, n2, z_eq, Nat.reduceEqDiff, hkF, z_add, z_mul, up_at, up_no, up_nk, u_cp_no, ma_bd, ↓reduceIte, if_true, if_false, Option.toList, List.nil_append, List.cons_append], hG⟩
      · have e39 := e39 (by omega)
        refine ⟨nI (n + 1), _, _, by simp (disch := first | assumption | omega | exact zb_fit | exact hbf .. | (simp (disch := omega) only [up_no, up_nk, up_at, u_cp_no] <;> (first | assumption | omega)) | (simp only [hkF] <;> omega) | decide) only [E78, S78, hm, e88, e50, e39, z_eq, Nat.reduceEqDiff, hkF, z_add, z_mul, up_at, up_no, up_nk, u_cp_no, ma_bd, ↓reduceIte, if_true, if_false, Option.toList, List.nil_append, List.cons_append]; rfl, ?_, G_plan_add hG hg n (by omega) n2 (nI 1) (nI p) ⟨⟨1, by decide, rfl⟩, fun h => ⟨p, hp, rfl⟩, fun h => by rw [z_eq (by decide) (by decide)] at h; omega⟩⟩
        generalize hσ1 : ma_up (ma_up (ma_up (ma_up σ 26 n (nI 1)) 27 n (nI p)) 28 n (nI 0)) 25 3 (nI (n + 1)) = σ1
        have s91 := FIN σ1 hσ1.symm
        have n2' : σ1 91 36 = nI n := by rw [s91]; exact n2
        have m102 := m102 σ1
        have e103 := V103p (ro := ro) (d := d + 1) σ1 p nd h1 (by rw [s91]; exact h2) hp
        simp (disch := first | assumption | omega | exact zb_fit | exact hbf .. | (simp (disch := omega) only [up_no, up_nk, up_at, u_cp_no] <;> (first | assumption | omega)) | (simp only [hkF] <;> omega) | decide) only [E159, S159, hm, m102, i12, hz, e103, n2', h8, z_eq, Nat.reduceEqDiff, hkF, z_add, z_mul, up_at, up_no, up_nk, u_cp_no, ma_bd, ↓reduceIte, if_true, if_false, Option.toList, List.nil_append, List.cons_append]
  · have i12 := fun s => V102 (ro := ro) (d := d + 2) (nI 2) (nI 1) (nI 2) s
    have hz : zb (¬ nI 2 < nI 1 ∧ ¬ nI 2 < nI 2) = nI 1 := zb_t (by decide)
    rcases Or.symm (dcases y nd (by omega)) with hy | ⟨p, hp, rfl⟩
    · have e50 := V50n (ro := ro) (d := d + 2) σ 2 nd y kw w1 hy
      have e103 := V103n (ro := ro) (d := d + 1) σ y nd h1 h2 hy
      have m102 := m102 σ
      exact ⟨_, σ, σ, by simp (disch := first | assumption | omega | exact zb_fit | exact hbf .. | (simp (disch := omega) only [up_no, up_nk, up_at, u_cp_no] <;> (first | assumption | omega)) | (simp only [hkF] <;> omega) | decide) only [E78, S78, hm, e88, e50, z_eq, Nat.reduceEqDiff, hkF, z_add, z_mul, up_at, up_no, up_nk, u_cp_no, ma_bd, ↓reduceIte, if_true, if_false, Option.toList, List.nil_append, List.cons_append]; rfl, by simp (disch := first | assumption | omega | exact zb_fit | exact hbf .. | (simp (disch := omega) only [up_no, up_nk, up_at, u_cp_no] <;> (first | assumption | omega)) | (simp only [hkF] <;> omega) | decide) only [E159, S159, hm, m102, i12, hz, e103, z_eq, Nat.reduceEqDiff, hkF, z_add, z_mul, up_at, up_no, up_nk, u_cp_no, ma_bd, ↓reduceIte, if_true, if_false, Option.toList, List.nil_append, List.cons_append], hG⟩
    · have e50 := V50 (ro := ro) (d := d + 2) σ 2 p nd kw w1 h1 hp
      by_cases h8 : n = 8
      · have e39 := e39n h8
        rw [h8] at n2
        have m102 := m102 σ
        have e103 := V103p (ro := ro) (d := d + 1) σ p nd h1 h2 hp
        exact ⟨_, σ, σ, by simp (disch := first | assumption | omega | exact zb_fit | exact hbf .. | (simp (disch := omega) only [up_no, up_nk, up_at, u_cp_no] <;> (first | assumption | omega)) | (simp only [hkF] <;> omega) | decide) only [E78, S78, hm, e88, e50, e39, z_eq, Nat.reduceEqDiff, hkF, z_add, z_mul, up_at, up_no, up_nk, u_cp_no, ma_bd, ↓reduceIte, if_true, if_false, Option.toList, List.nil_append, List.cons_append]; rfl, by simp (disch := first | assumption | omega | exact zb_fit | exact hbf .. | (simp (disch := omega) only [up_no, up_nk, up_at, u_cp_no] <;> (first | assumption | omega)) | (simp only [hkF] <;> omega) | decide) only [E159, S159, hm, m102, i12, hz, e103, n2, z_eq, Nat.reduceEqDiff, hkF, z_add, z_mul, up_at, up_no, up_nk, u_cp_no, ma_bd, ↓reduceIte, if_true, if_false, Option.toList, List.nil_append, List.cons_append], hG⟩
      · have e39 := e39 (by omega)
        refine ⟨nI (n + 1), _, _, by simp (disch := first | assumption | omega | exact zb_fit | exact hbf .. | (simp (disch := omega) only [up_no, up_nk, up_at, u_cp_no] <;> (first | assumption | omega)) | (simp only [hkF] <;> omega) | decide) only [E78, S78, hm, e88, e50, e39, z_eq, Nat.reduceEqDiff, hkF, z_add, z_mul, up_at, up_no, up_nk, u_cp_no, ma_bd, ↓reduceIte, if_true, if_false, Option.toList, List.nil_append, List.cons_append]; rfl, ?_, G_plan_add hG hg n (by omega) n2 (nI 2) (nI p) ⟨⟨2, by decide, rfl⟩, fun h => ⟨p, hp, rfl⟩, fun h => by rw [z_eq (by decide) (by decide)] at h; omega⟩⟩
        generalize hσ1 : ma_up (ma_up (ma_up (ma_up σ 26 n (nI 2)) 27 n (nI p)) 28 n (nI 0)) 25 3 (nI (n + 1)) = σ1
        have s91 := FIN σ1 hσ1.symm
        have n2' : σ1 91 36 = nI n := by rw [s91]; exact n2
        have m102 := m102 σ1
        have e103 := V103p (ro := ro) (d := d + 1) σ1 p nd h1 (by rw [s91]; exact h2) hp
        simp (disch := first | assumption | omega | exact zb_fit | exact hbf .. | (simp (disch := omega) only [up_no, up_nk, up_at, u_cp_no] <;> (first | assumption | omega)) | (simp only [hkF] <;> omega) | decide) only [E159, S159, hm, m102, i12, hz, e103, n2', h8, z_eq, Nat.reduceEqDiff, hkF, z_add, z_mul, up_at, up_no, up_nk, u_cp_no, ma_bd, ↓reduceIte, if_true, if_false, Option.toList, List.nil_append, List.cons_append]
  · have i12 := fun s => V102 (ro := ro) (d := d + 2) (nI 3) (nI 1) (nI 2) s
    have hz : zb (¬ nI 3 < nI 1 ∧ ¬ nI 2 < nI 3) = nI 0 := zb_f (by decide)
    by_cases hy : y < nI 0 ∨ nI 20 < y
    · have e50 := V88t (ro := ro) (d := d + 2) σ hy
      have e103 := V102f (ro := ro) (d := d + 2) σ hy
      have m102 := m102 σ
      exact ⟨_, σ, σ, by simp (disch := first | assumption | omega | exact zb_fit | exact hbf .. | (simp (disch := omega) only [up_no, up_nk, up_at, u_cp_no] <;> (first | assumption | omega)) | (simp only [hkF] <;> omega) | decide) only [E78, S78, hm, e88, e50, z_eq, Nat.reduceEqDiff, hkF, z_add, z_mul, up_at, up_no, up_nk, u_cp_no, ma_bd, ↓reduceIte, if_true, if_false, Option.toList, List.nil_append, List.cons_append]; rfl, by simp (disch := first | assumption | omega | exact zb_fit | exact hbf .. | (simp (disch := omega) only [up_no, up_nk, up_at, u_cp_no] <;> (first | assumption | omega)) | (simp only [hkF] <;> omega) | decide) only [E159, S159, hm, m102, i12, hz, e103, z_eq, Nat.reduceEqDiff, hkF, z_add, z_mul, up_at, up_no, up_nk, u_cp_no, ma_bd, ↓reduceIte, if_true, if_false, Option.toList, List.nil_append, List.cons_append], hG⟩
    · have e50 := V88f (ro := ro) (d := d + 2) σ hy
      by_cases h8 : n = 8
      · have e39 := e39n h8
        rw [h8] at n2
        have m102 := m102 σ
        have e103 := V102t (ro := ro) (d := d + 2) σ hy
        exact ⟨_, σ, σ, by simp (disch := first | assumption | omega | exact zb_fit | exact hbf .. | (simp (disch := omega) only [up_no, up_nk, up_at, u_cp_no] <;> (first | assumption | omega)) | (simp only [hkF] <;> omega) | decide) only [E78, S78, hm, e88, e50, e39, z_eq, Nat.reduceEqDiff, hkF, z_add, z_mul, up_at, up_no, up_nk, u_cp_no, ma_bd, ↓reduceIte, if_true, if_false, Option.toList, List.nil_append, List.cons_append]; rfl, by simp (disch := first | assumption | omega | exact zb_fit | exact hbf .. | (simp (disch := omega) only [up_no, up_nk, up_at, u_cp_no] <;> (first | assumption | omega)) | (simp only [hkF] <;> omega) | decide) only [E159, S159, hm, m102, i12, hz, e103, n2, z_eq, Nat.reduceEqDiff, hkF, z_add, z_mul, up_at, up_no, up_nk, u_cp_no, ma_bd, ↓reduceIte, if_true, if_false, Option.toList, List.nil_append, List.cons_append], hG⟩
      · have e39 := e39 (by omega)
        refine ⟨nI (n + 1), _, _, by simp (disch := first | assumption | omega | exact zb_fit | exact hbf .. | (simp (disch := omega) only [up_no, up_nk, up_at, u_cp_no] <;> (first | assumption | omega)) | (simp only [hkF] <;> omega) | decide) only [E78, S78, hm, e88, e50, e39, z_eq, Nat.reduceEqDiff, hkF, z_add, z_mul, up_at, up_no, up_nk, u_cp_no, ma_bd, ↓reduceIte, if_true, if_false, Option.toList, List.nil_append, List.cons_append]; rfl, ?_, G_plan_add hG hg n (by omega) n2 (nI 3) y ⟨⟨3, by decide, rfl⟩, fun h => by rw [z_eq (by decide) (by decide), z_eq (by decide) (by decide)] at h; omega, fun h => Rg_of (by decide) hy⟩⟩
        generalize hσ1 : ma_up (ma_up (ma_up (ma_up σ 26 n (nI 3)) 27 n y) 28 n (nI 0)) 25 3 (nI (n + 1)) = σ1
        have s91 := FIN σ1 hσ1.symm
        have n2' : σ1 91 36 = nI n := by rw [s91]; exact n2
        have m102 := m102 σ1
        have e103 := V102t (ro := ro) (d := d + 2) σ1 hy
        simp (disch := first | assumption | omega | exact zb_fit | exact hbf .. | (simp (disch := omega) only [up_no, up_nk, up_at, u_cp_no] <;> (first | assumption | omega)) | (simp only [hkF] <;> omega) | decide) only [E159, S159, hm, m102, i12, hz, e103, n2', h8, z_eq, Nat.reduceEqDiff, hkF, z_add, z_mul, up_at, up_no, up_nk, u_cp_no, ma_bd, ↓reduceIte, if_true, if_false, Option.toList, List.nil_append, List.cons_append]
