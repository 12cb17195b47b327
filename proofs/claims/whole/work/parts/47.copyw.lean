/-! Copies: a world, told rows. -/
theorem V52 {ro : ma_RO} {d : Nat} (σ : ma_H) (a b nd : Nat) (S : Nat → Int32) (ka : hkWd a) (kb : hkWd b) (hab : a + 13 < b ∨ b + 13 < a) (hn : nd ≤ 6) (hw : RWd σ b S nd) (hI : IvA S nd) :
    ∃ σ', ma_ev ro (d + 2) 52 [.ref a, .ref b] SH σ = some (none, SH, σ') ∧ RWd σ' a S nd ∧ ∀ o, (o < a ∨ a + 1 + 2 * nd < o) → σ' o = σ o := by
  obtain ⟨w1, w2, w3, w4, w5⟩ := hw
  have ka1 := ka.1
  have kb1 := kb.1
  have hba : ¬ b = a := by omega
  obtain ⟨⟨l', σ'⟩, e, ⟨v3, v4, hl⟩, q1, q2, q3, q4, q5, q6⟩ := ma_iter (fun x : ma_L × ma_H => ma_rn ro (d + 2) 52 (34, x.1, [], SH, x.2)) (fun k x => (∃ v3 v4, x.1 = [some (.ref a), some (.ref b), some (.int (nI k)), v3, v4]) ∧ x.2 a 1 = nI nd ∧ x.2 a 2 = S 1 ∧ x.2 a 3 = S 0 ∧ x.2 a 4 = S 2 ∧ (∀ p, p < k → RDd x.2 (a + 1 + 1 + 2 * p) S p) ∧ ∀ o, (o < a ∨ a + 1 + 2 * nd < o) → x.2 o = σ o) nd (by
    rintro k hk ⟨l, s⟩ ⟨⟨v3, v4, hl⟩, q1, q2, q3, q4, q5, q6⟩
    simp only at hl q1 q2 q3 q4 q5 q6
    subst hl
    have ea := V50 (ro := ro) (d := d + 1) s a k nd ka q1 hn hk
    have eb := V50 (ro := ro) (d := d + 1) s b k nd kb (by rw [q6 b (by omega)]; exact w1) hn hk
    have kda := ka.2.2.2 k (by omega)
    have kdb := kb.2.2.2 k (by omega)
    obtain ⟨d1, d2⟩ := w5 k hk
    obtain ⟨s', e8, r1, r2, r3⟩ := V8 (ro := ro) (d := d) s (a + 1 + 1 + 2 * k) (b + 1 + 1 + 2 * k) kda kdb (by omega) (by omega) (by omega) (by rw [q6 _ (by omega), d1 3 (by decide)]; exact (hI k hk).1)
    have kda1 := kda.1
    have sa : s' a = s a := r3 a (by omega) (by omega)
    refine ⟨([some (.ref a), some (.ref b), some (.int (nI (k + 1))), some (.ref (a + 1 + 1 + 2 * k)), some (.ref (b + 1 + 1 + 2 * k))], s'), ?_, ⟨_, _, rfl⟩, by show s' a 1 = _; rw [sa]; exact q1, by show s' a 2 = _; rw [sa]; exact q2, by show s' a 3 = _; rw [sa]; exact q3, by show s' a 4 = _; rw [sa]; exact q4, ?_, ?_⟩
    · simp only
      have hbf : ma_bef [some (.ref a), some (.ref b), some (.int (nI k)), some (.ref (a + 1 + 1 + 2 * k)), v4] 4 = false := rfl
      rw [Sh52_34]
      simp (disch := first | assumption | omega | exact zb_fit | (simp (disch := omega) only [up_no, up_nk, up_at, u_cp_no] <;> (first | assumption | omega)) | (simp only [hkF] <;> omega) | decide) only [S52, q1, z_lt, hk, ea, eb, e8, hkF, z_add, z_mul, up_at, up_no, up_nk, u_cp_no, ma_bd, if_true, if_false, Option.toList, List.nil_append, List.cons_append]
    · intro p hp
      show RDd s' (a + 1 + 1 + 2 * p) S p
      by_cases hpk : p = k
      · subst hpk
        exact ⟨fun j hj => by rw [r1 j hj, q6 _ (by omega)]; exact d1 j hj, fun j hj => by rw [r2 j hj, q6 _ (by omega)]; exact d2 j hj⟩
      · obtain ⟨c1, c2⟩ := q5 p (by omega)
        exact ⟨fun j hj => by rw [r3 _ (by omega) (by omega)]; exact c1 j hj, fun j hj => by rw [r3 _ (by omega) (by omega)]; exact c2 j hj⟩
    · intro o ho
      show s' o = σ o
      rw [r3 o (by omega) (by omega)]; exact q6 o ho) ([some (.ref a), some (.ref b), some (.int (nI 0)), none, none], ma_up (ma_up (ma_up (ma_up σ a 1 (nI nd)) a 2 (S 1)) a 3 (S 0)) a 4 (S 2)) ⟨⟨none, none, rfl⟩, by simp (disch := omega) only [up_no, up_nk, up_at], by simp (disch := omega) only [up_no, up_nk, up_at], by simp (disch := omega) only [up_no, up_nk, up_at], by simp only [up_at], fun p hp => by omega, fun o ho => by simp (disch := omega) only [up_no]⟩
  simp only at e hl q1 q2 q3 q4 q5 q6
  subst hl
  refine ⟨σ', ?_, ⟨q1, q2, q3, q4, q5⟩, q6⟩
  simp (disch := first | assumption | omega | exact zb_fit | (simp (disch := omega) only [up_no, up_nk, up_at, u_cp_no] <;> (first | assumption | omega)) | (simp only [hkF] <;> omega) | decide) only [E52, S52, hba, w1, w2, w3, w4, hkF, z_add, z_mul, up_at, up_no, up_nk, u_cp_no, ma_bd, if_true, if_false, Option.toList, List.nil_append, List.cons_append]
  rw [e, Sh52_34]
  simp (disch := first | assumption | omega | exact zb_fit | (simp (disch := omega) only [up_no, up_nk, up_at, u_cp_no] <;> (first | assumption | omega)) | (simp only [hkF] <;> omega) | decide) only [S52, q1, z_lt, Nat.lt_irrefl, hkF, z_add, z_mul, up_at, up_no, up_nk, u_cp_no, ma_bd, if_true, if_false, Option.toList, List.nil_append, List.cons_append]
