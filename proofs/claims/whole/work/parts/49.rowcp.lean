/-! Told rows: the copy. -/
theorem nar_Rg {x : Int32} (h : Rg x 1) : vp_nar .boolean x = x := by
  obtain ⟨b, hb, rfl⟩ := h
  have hb2 : b = 0 ∨ b = 1 := by omega
  rcases hb2 with rfl | rfl <;> decide
theorem V44 {ro : ma_RO} {d : Nat} (σ : ma_H) (r q n sz : Nat) (kr : hkRw r n) (kq : hkRw q n) (hrq : r + 3 < q ∨ q + 3 < r) (hs : σ q 3 = nI sz) (hn : sz ≤ n) (hI : ∀ k, k < sz → Rg (σ (q + 3) k) 1) :
    ∃ σ', ma_ev ro (d + 2) 44 [.ref r, .ref q] SH σ = some (none, SH, σ') ∧ σ' r 3 = nI sz ∧ (∀ k, k < sz → σ' (r + 1) k = σ (q + 1) k ∧ σ' (r + 2) k = σ (q + 2) k ∧ σ' (r + 3) k = σ (q + 3) k) ∧ ∀ o, (o < r ∨ r + 3 < o) → σ' o = σ o := by
  have hn8 : n ≤ 8 := kr.2.2.2.2.2.2.2.2
  have kr1 := kr.1
  have kq1 := kq.1
  obtain ⟨⟨l', σ'⟩, e, hl, q1, q2, q3⟩ := ma_iter (fun x : ma_L × ma_H => ma_rn ro (d + 2) 44 (10, x.1, [], SH, x.2)) (fun k x => x.1 = [some (.ref r), some (.ref q), some (.int (nI k))] ∧ x.2 r 3 = nI sz ∧ (∀ j, j < k → x.2 (r + 1) j = σ (q + 1) j ∧ x.2 (r + 2) j = σ (q + 2) j ∧ x.2 (r + 3) j = σ (q + 3) j) ∧ ∀ o, (o < r ∨ r + 3 < o) → x.2 o = σ o) sz (by
    rintro k hk ⟨l, s⟩ ⟨hl, q1, q2, q3⟩
    simp only at hl q1 q2 q3
    subst hl
    have e1 := V41 (ro := ro) (d := d) s q n k kq (by omega)
    have e2 := V42 (ro := ro) (d := d) s q n k kq (by omega)
    have hb : Rg (s (q + 3) k) 1 := by rw [q3 _ (by omega)]; exact hI k hk
    have e3 := V43 (ro := ro) (d := d) s q n k kq (by omega) hb
    have e4 := V40 (ro := ro) (d := d) s r n k (s (q + 1) k) (s (q + 2) k) (s (q + 3) k) kr (by omega) (nar_Rg hb)
    refine ⟨([some (.ref r), some (.ref q), some (.int (nI (k + 1)))], ma_up (ma_up (ma_up s (r + 1) k (s (q + 1) k)) (r + 2) k (s (q + 2) k)) (r + 3) k (s (q + 3) k)), ?_, rfl, ?_, ?_, ?_⟩
    · simp only
      rw [Sh44_10]
      simp (disch := first | assumption | omega | exact zb_fit | (simp (disch := omega) only [up_no, up_nk, up_at, u_cp_no] <;> (first | assumption | omega)) | (simp only [hkF] <;> omega) | decide) only [S44, q1, z_lt, hk, e1, e2, e3, e4, hkF, z_add, z_mul, up_at, up_no, up_nk, u_cp_no, ma_bd, if_true, if_false, Option.toList, List.nil_append, List.cons_append]
    · simp (disch := omega) only [up_no]; exact q1
    · intro j hj
      simp only
      by_cases hjk : j = k
      · subst hjk
        simp (disch := omega) only [up_no, up_at]
        exact ⟨by rw [q3 _ (by omega)], by rw [q3 _ (by omega)], by rw [q3 _ (by omega)]⟩
      · simp (disch := omega) only [up_no, up_nk]
        exact q2 j (by omega)
    · intro o ho
      simp (disch := omega) only [up_no]; exact q3 o ho) ([some (.ref r), some (.ref q), some (.int (nI 0))], ma_up σ r 3 (nI sz)) ⟨rfl, up_at _ _ _ _, fun j hj => by omega, fun o ho => up_no (by omega)⟩
  simp only at e hl q1 q2 q3
  subst hl
  refine ⟨σ', ?_, q1, q2, q3⟩
  simp (disch := first | assumption | omega | exact zb_fit | (simp (disch := omega) only [up_no, up_nk, up_at, u_cp_no] <;> (first | assumption | omega)) | (simp only [hkF] <;> omega) | decide) only [E44, S44, hs, hkF, z_add, z_mul, up_at, up_no, up_nk, u_cp_no, ma_bd, if_true, if_false, Option.toList, List.nil_append, List.cons_append]
  rw [e, Sh44_10]
  simp (disch := first | assumption | omega | exact zb_fit | (simp (disch := omega) only [up_no, up_nk, up_at, u_cp_no] <;> (first | assumption | omega)) | (simp only [hkF] <;> omega) | decide) only [S44, q1, z_lt, Nat.lt_irrefl, hkF, z_add, z_mul, up_at, up_no, up_nk, u_cp_no, ma_bd, if_true, if_false, Option.toList, List.nil_append, List.cons_append]
