/-! The calls book, plan, see, feed. -/
theorem C80 {ro : ma_RO} {d : Nat} (σ : ma_H) (hG : G σ) (x y : Int32) : ∃ r σ1 σ2, ma_ev ro (d + 3) 80 [.ref 0, .int x, .int y] SH σ = some (some (.int r), SH, σ1) ∧ ma_ev ro (d + 3) 162 [.ref 90, .int x, .int y] SH σ1 = some (some (.int r), SH, σ2) ∧ G σ2 := by
  obtain ⟨nd, cs, wo, hg⟩ := hG.1
  obtain ⟨h1, h2, h3, h4, h5, h6, h7, h8, h9, h10, h11, h12, h13, h14, h15, h16, h17, h18, h19, h20, ⟨n, n1, n2, n3, n4⟩⟩ := GS_open hg
  have kw := hkWh_1.2.1
  have kr : hkRw 29 8 := hkWh_1.2.2.2.2.2.2.2
  have n3' : σ 29 3 = nI n := n3
  by_cases hm : x = -1
  · subst hm
    refine ⟨nI 0, ma_up σ 29 3 (nI 0), ma_up (ma_up σ 29 3 (nI 0)) 91 37 (nI 0), by simp (disch := first | assumption | omega | exact zb_fit | exact hbf .. | (simp (disch := omega) only [up_no, up_nk, up_at, u_cp_no] <;> (first | assumption | omega)) | (simp only [hkF] <;> omega) | decide) only [E80, S80, hkF, z_add, z_mul, up_at, up_no, up_nk, u_cp_no, ma_bd, ↓reduceIte, if_true, if_false, Option.toList, List.nil_append, List.cons_append], by simp (disch := first | assumption | omega | exact zb_fit | exact hbf .. | (simp (disch := omega) only [up_no, up_nk, up_at, u_cp_no] <;> (first | assumption | omega)) | (simp only [hkF] <;> omega) | decide) only [E162, S162, hkF, z_add, z_mul, up_at, up_no, up_nk, u_cp_no, ma_bd, ↓reduceIte, if_true, if_false, Option.toList, List.nil_append, List.cons_append], ?_⟩
    have e37 : ma_up (ma_up σ 29 3 (nI 0)) 91 37 (nI 0) 91 37 = nI 0 := up_at _ _ _ _
    refine G_book hG hg (fun k g1 g2 => by rw [up_nk g1, up_no (by decide)]) (fun o g1 g2 => by rw [up_no g1, up_no (by omega)]) (fun m hm1 hm2 k hk => ?_) ⟨0, by decide, e37, ⟨by rw [up_no (by decide)]; exact up_at _ _ _ _, fun k hk => by omega⟩⟩
    rw [e37, z_eq (by omega) (by omega)] at hm2
    omega
  rcases dcases x nd (by omega) with ⟨p, hp, rfl⟩ | hx
  · have e50 := V50 (ro := ro) (d := d + 2) σ 2 p nd kw h15.1 h1 hp
    have e103 := V103p (ro := ro) (d := d + 1) σ p nd h1 h2 hp
    by_cases h : y < nI 0 ∨ nI 99 < y
    · have e88 := V88t (ro := ro) (d := d + 2) σ h
      have e102 := V102f (ro := ro) (d := d + 2) σ h
      exact ⟨_, σ, σ, by simp (disch := first | assumption | omega | exact zb_fit | exact hbf .. | (simp (disch := omega) only [up_no, up_nk, up_at, u_cp_no] <;> (first | assumption | omega)) | (simp only [hkF] <;> omega) | decide) only [E80, S80, hm, e50, e88, z_eq, Nat.reduceEqDiff, hkF, z_add, z_mul, up_at, up_no, up_nk, u_cp_no, ma_bd, ↓reduceIte, if_true, if_false, Option.toList, List.nil_append, List.cons_append]; rfl, by simp (disch := first | assumption | omega | exact zb_fit | exact hbf .. | (simp (disch := omega) only [up_no, up_nk, up_at, u_cp_no] <;> (first | assumption | omega)) | (simp only [hkF] <;> omega) | decide) only [E162, S162, hm, e103, e102, z_eq, Nat.reduceEqDiff, hkF, z_add, z_mul, up_at, up_no, up_nk, u_cp_no, ma_bd, ↓reduceIte, if_true, if_false, Option.toList, List.nil_append, List.cons_append], hG⟩
    · have e88 := V88f (ro := ro) (d := d + 2) σ h
      by_cases hn8 : n = 8
      · subst hn8
        have e39 := V39n (ro := ro) (d := d + 1) σ 29 8 (nI p) y (nI 0) kr n3'
        have e102 := V102t (ro := ro) (d := d + 2) σ h
        exact ⟨_, σ, σ, by simp (disch := first | assumption | omega | exact zb_fit | exact hbf .. | (simp (disch := omega) only [up_no, up_nk, up_at, u_cp_no] <;> (first | assumption | omega)) | (simp only [hkF] <;> omega) | decide) only [E80, S80, hm, e50, e88, e39, z_eq, Nat.reduceEqDiff, hkF, z_add, z_mul, up_at, up_no, up_nk, u_cp_no, ma_bd, ↓reduceIte, if_true, if_false, Option.toList, List.nil_append, List.cons_append]; rfl, by simp (disch := first | assumption | omega | exact zb_fit | exact hbf .. | (simp (disch := omega) only [up_no, up_nk, up_at, u_cp_no] <;> (first | assumption | omega)) | (simp only [hkF] <;> omega) | decide) only [E162, S162, hm, e103, e102, n2, z_eq, Nat.reduceEqDiff, hkF, z_add, z_mul, up_at, up_no, up_nk, u_cp_no, ma_bd, ↓reduceIte, if_true, if_false, Option.toList, List.nil_append, List.cons_append], hG⟩
      · have e39 := V39 (ro := ro) (d := d) σ 29 8 n (nI p) y (nI 0) kr (by omega) n3' ⟨0, by decide, rfl⟩
        have n2' := n2
        refine ⟨nI (n + 1), ma_up (ma_up (ma_up (ma_up σ 30 n (nI p)) 31 n y) 32 n (nI 0)) 29 3 (nI (n + 1)), ma_up (ma_up (ma_up (ma_up (ma_up (ma_up (ma_up σ 30 n (nI p)) 31 n y) 32 n (nI 0)) 29 3 (nI (n + 1))) 91 (107 + n) (nI p)) 91 (115 + n) y) 91 37 (nI (n + 1)), by simp (disch := first | assumption | omega | exact zb_fit | exact hbf .. | (simp (disch := omega) only [up_no, up_nk, up_at, u_cp_no] <;> (first | assumption | omega)) | (simp only [hkF] <;> omega) | decide) only [E80, S80, hm, e50, e88, e39, z_eq, Nat.reduceEqDiff, hkF, z_add, z_mul, up_at, up_no, up_nk, u_cp_no, ma_bd, ↓reduceIte, if_true, if_false, Option.toList, List.nil_append, List.cons_append], ?_, ?_⟩
        · generalize hσ1 : ma_up (ma_up (ma_up (ma_up σ 30 n (nI p)) 31 n y) 32 n (nI 0)) 29 3 (nI (n + 1)) = σ1
          have s91 : σ1 91 = σ 91 := by rw [← hσ1, up_no (by decide), up_no (by decide), up_no (by decide), up_no (by decide)]
          have e103 := V103p (ro := ro) (d := d + 1) σ1 p nd h1 (by rw [s91]; exact h2) hp
          have e102 := V102t (ro := ro) (d := d + 2) σ1 h
          have n2' : σ1 91 37 = nI n := by rw [s91]; exact n2
          simp (disch := first | assumption | omega | exact zb_fit | exact hbf .. | (simp (disch := omega) only [up_no, up_nk, up_at, u_cp_no] <;> (first | assumption | omega)) | (simp only [hkF] <;> omega) | decide) only [E162, S162, hm, e103, e102, n2', z_eq, Nat.reduceEqDiff, hn8, hkF, z_add, z_mul, up_at, up_no, up_nk, u_cp_no, ma_bd, ↓reduceIte, if_true, if_false, Option.toList, List.nil_append, List.cons_append]
        · refine G_book hG hg (fun k g1 g2 => ?_) (fun o g1 g2 => ?_) (fun m hm1 hm2 k hk => ?_) ⟨n + 1, by omega, up_at _ _ _ _, ⟨?_, fun k hk => ?_⟩⟩
          · rw [up_nk g1, up_nk (by omega), up_nk (by omega), up_no (by decide), up_no (by decide), up_no (by decide), up_no (by decide)]
          · rw [up_no g1, up_no g1, up_no g1, up_no (by omega), up_no (by omega), up_no (by omega), up_no (by omega)]
          · rw [up_at, z_eq (by omega) (by omega)] at hm2
            subst hm2
            by_cases hkn : k = n
            · subst hkn
              refine ⟨⟨p, hp, ?_⟩, ?_⟩
              · rw [up_nk (by omega), up_nk (by omega), up_at]
              · rw [up_nk (by omega), up_at]; exact Rg_of (by decide) h
            · have := h13 n n1 n2 k (by omega)
              refine ⟨?_, ?_⟩
              · rw [up_nk (by omega), up_nk (by omega), up_nk (by omega), up_no (by decide), up_no (by decide), up_no (by decide), up_no (by decide)]; exact this.1
              · rw [up_nk (by omega), up_nk (by omega), up_nk (by omega), up_no (by decide), up_no (by decide), up_no (by decide), up_no (by decide)]; exact this.2
          · rw [up_no (by decide), up_no (by decide), up_no (by decide)]; exact up_at _ _ _ _
          · by_cases hkn : k = n
            · subst hkn
              refine ⟨?_, ?_, ?_⟩
              · rw [up_no (by decide), up_no (by decide), up_no (by decide), up_no (by decide), up_no (by decide), up_no (by decide), up_at, up_nk (by omega), up_nk (by omega), up_at]
              · rw [up_no (by decide), up_no (by decide), up_no (by decide), up_no (by decide), up_no (by decide), up_at, up_nk (by omega), up_at]
              · rw [up_no (by decide), up_no (by decide), up_no (by decide), up_no (by decide), up_at]; exact ⟨0, by decide, rfl⟩
            · have := n4 k (by omega)
              refine ⟨?_, ?_, ?_⟩
              · rw [up_no (by decide), up_no (by decide), up_no (by decide), up_no (by decide), up_no (by decide), up_no (by decide), up_nk (by omega), up_nk (by omega), up_nk (by omega), up_nk (by omega), up_no (by decide), up_no (by decide), up_no (by decide), up_no (by decide)]; exact this.1
              · rw [up_no (by decide), up_no (by decide), up_no (by decide), up_no (by decide), up_no (by decide), up_nk (by omega), up_no (by decide), up_nk (by omega), up_nk (by omega), up_nk (by omega), up_no (by decide), up_no (by decide), up_no (by decide), up_no (by decide)]; exact this.2.1
              · rw [up_no (by decide), up_no (by decide), up_no (by decide), up_no (by decide), up_nk (by omega), up_no (by decide), up_no (by decide)]; exact this.2.2
  · have e50 := V50n (ro := ro) (d := d + 2) σ 2 nd x kw h15.1 hx
    have e103 := V103n (ro := ro) (d := d + 1) σ x nd h1 h2 hx
    exact ⟨_, σ, σ, by simp (disch := first | assumption | omega | exact zb_fit | exact hbf .. | (simp (disch := omega) only [up_no, up_nk, up_at, u_cp_no] <;> (first | assumption | omega)) | (simp only [hkF] <;> omega) | decide) only [E80, S80, hm, e50, hkF, z_add, z_mul, up_at, up_no, up_nk, u_cp_no, ma_bd, ↓reduceIte, if_true, if_false, Option.toList, List.nil_append, List.cons_append]; rfl, by simp (disch := first | assumption | omega | exact zb_fit | exact hbf .. | (simp (disch := omega) only [up_no, up_nk, up_at, u_cp_no] <;> (first | assumption | omega)) | (simp only [hkF] <;> omega) | decide) only [E162, S162, hm, e103, z_eq, Nat.reduceEqDiff, hkF, z_add, z_mul, up_at, up_no, up_nk, u_cp_no, ma_bd, ↓reduceIte, if_true, if_false, Option.toList, List.nil_append, List.cons_append], hG⟩
