/-! The copy of a whole. -/
theorem RWd_congr {σ σ' : ma_H} {w nd : Nat} {S : Nat → Int32} (hn : nd ≤ 6) (e : ∀ o, w ≤ o → o ≤ w + 13 → σ' o = σ o) (h : RWd σ w S nd) : RWd σ' w S nd := by
  obtain ⟨w1, w2, w3, w4, w5⟩ := h
  have ew := e w (by omega) (by omega)
  refine ⟨by rw [ew]; exact w1, by rw [ew]; exact w2, by rw [ew]; exact w3, by rw [ew]; exact w4, fun p hp => ?_⟩
  obtain ⟨d1, d2⟩ := w5 p hp
  exact ⟨fun j hj => by rw [e _ (by omega) (by omega)]; exact d1 j hj, fun j hj => by rw [e _ (by omega) (by omega)]; exact d2 j hj⟩
theorem V48 {ro : ma_RO} {d : Nat} (σ : ma_H) (a b nd : Nat) (S : Nat → Int32) (cs : List (Bool × Nat × List (Nat × Nat × Nat))) (wo : Int32) (ka : hkWh a) (kb : hkWh b) (hab : a + 31 < b ∨ b + 31 < a) (hn : nd ≤ 6) (hO : HOk cs) (hI : IvA S nd) (hw : RWh σ b S nd cs wo) :
    ∃ σ', ma_ev ro (d + 3) 48 [.ref a, .ref b] SH σ = some (none, SH, σ') ∧ RWh σ' a S nd cs wo ∧ ∀ o, (o < a ∨ a + 31 < o ∨ (a + 2 + 2 * nd < o ∧ o < a + 15)) → σ' o = σ o := by
  obtain ⟨a1, a2, a3, a4, a5, a6, a7, a8⟩ := ka
  obtain ⟨b1, b2, b3, b4, b5, b6, b7, b8⟩ := kb
  obtain ⟨r1, r2, r3, ⟨t, t1, t2, t3, t4⟩, ⟨n1, n2, n3, n4, n5⟩, ⟨m1, m2, m3, m4⟩, ⟨k1, k2, k3, k4⟩⟩ := hw
  obtain ⟨s1, e1, p1, f1⟩ := V52 (ro := ro) (d := d) σ (a + 1) (b + 1) nd S a2 b2 (by omega) hn r1 hI
  obtain ⟨s2, e2, p2, f2⟩ := V18 (ro := ro) (d := d + 1) s1 (a + 15) (b + 15) a3 b3 (by omega) cs wo hO (HXr_congr (fun o h1 h2 => f1 o (by omega)) r2)
  have c3 := V91 (ro := ro) (d := d + 2) (ma_up s2 a 2 (S 34)) (b + 19) (a + 19) 100 (by omega) b4 a4 b5 a5 (by omega) (by omega)
  have g3 : ∀ o, (o < a ∨ a + 31 < o ∨ (a + 2 + 2 * nd < o ∧ o < a + 15)) → u_cp (ma_up s2 a 2 (S 34)) (a + 19) (b + 19) 100 o = σ o := by
    intro o ho
    rw [u_cp_no (by omega), up_no (by omega), f2 o (by omega), f1 o (by omega)]
  have h4 : ∀ o, (o < a ∨ a + 31 < o ∨ (a + 2 + 2 * nd < o ∧ o < a + 15)) → ma_up (u_cp (ma_up s2 a 2 (S 34)) (a + 19) (b + 19) 100) a 4 (nI t) o = σ o := by
    intro o ho
    rw [up_no (by omega)]; exact g3 o ho
  obtain ⟨s5, e5, p5, q5, f5⟩ := V44 (ro := ro) (d := d) (ma_up (u_cp (ma_up s2 a 2 (S 34)) (a + 19) (b + 19) 100) a 4 (nI t)) (a + 20) (b + 20) 5 n1 a6 b6 (by omega) (by rw [h4 _ (by omega)]; exact n4.1) n2 (fun k hk => by rw [h4 _ (by omega)]; exact (n4.2 k hk).2.2)
  obtain ⟨s6, e6, p6, q6, f6⟩ := V44 (ro := ro) (d := d) s5 (a + 24) (b + 24) 8 m1 a7 b7 (by omega) (by rw [f5 _ (by omega), h4 _ (by omega)]; exact m4.1) m2 (fun k hk => by rw [f5 _ (by omega), h4 _ (by omega)]; exact (m4.2 k hk).2.2)
  obtain ⟨s7, e7, p7, q7, f7⟩ := V44 (ro := ro) (d := d) s6 (a + 28) (b + 28) 8 k1 a8 b8 (by omega) (by rw [f6 _ (by omega), f5 _ (by omega), h4 _ (by omega)]; exact k4.1) k2 (fun k hk => by rw [f6 _ (by omega), f5 _ (by omega), h4 _ (by omega)]; exact (k4.2 k hk).2.2)
  have x2 : s2 b 2 = S 34 := by rw [f2 _ (by omega), f1 _ (by omega)]; exact r3
  have x4 : s2 b 4 = nI t := by rw [f2 _ (by omega), f1 _ (by omega)]; exact t3
  have hba : ¬ b = a := by omega
  have y1 := a2.1; have y2 := a3.1; have y3 := a6.1; have y4 := a7.1; have y5 := a8.1
  refine ⟨s7, ?_, ?_, ?_⟩
  · simp (disch := first | assumption | omega | exact zb_fit | (simp (disch := omega) only [up_no, up_nk, up_at, u_cp_no] <;> (first | assumption | omega)) | (simp only [hkF] <;> omega) | decide) only [E48, S48, hba, e1, e2, x2, x4, c3, e5, e6, e7, hkF, z_add, z_mul, up_at, up_no, up_nk, u_cp_no, ma_bd, if_true, if_false, Option.toList, List.nil_append, List.cons_append]
  · have z : ∀ o, (o < a + 20 ∨ a + 31 < o) → s7 o = ma_up (u_cp (ma_up s2 a 2 (S 34)) (a + 19) (b + 19) 100) a 4 (nI t) o := fun o ho => by rw [f7 o (by omega), f6 o (by omega), f5 o (by omega)]
    have z2 : ∀ o, ¬ o = a → ¬ o = a + 19 → (o < a + 20) → s7 o = s2 o := fun o h1 h2 h3 => by rw [z o (by omega), up_no h1, u_cp_no h2, up_no h1]
    refine ⟨RWd_congr hn (fun o h1 h2 => by rw [z2 o (by omega) (by omega) (by omega), f2 o (by omega)]) p1, HXr_congr (fun o h1 h2 => z2 o (by omega) (by omega) (by omega)) p2, ?_, ⟨t, t1, t2, ?_, ?_⟩, ⟨n1, n2, n3, ⟨?_, ?_⟩, ?_⟩, ⟨m1, m2, m3, ?_, ?_⟩, ⟨k1, k2, k3, p7, ?_⟩⟩
    · rw [z a (by omega), up_nk (by decide), u_cp_no (by omega), up_at]
    · rw [z a (by omega), up_at]
    · intro k hk
      rw [z _ (by omega), up_no (by omega), show ∀ s : ma_H, u_cp s (a + 19) (b + 19) 100 (a + 19) k = s (b + 19) k from fun s => if_pos ⟨rfl, by omega⟩, up_no (by omega), f2 _ (by omega), f1 _ (by omega)]
      exact t4 k hk
    · rw [f7 _ (by omega), f6 _ (by omega)]; exact p5
    · intro k hk
      have := q5 k hk
      rw [f7 _ (by omega), f6 _ (by omega), f7 _ (by omega), f6 _ (by omega), f7 _ (by omega), f6 _ (by omega), this.1, this.2.1, this.2.2, h4 _ (by omega), h4 _ (by omega), h4 _ (by omega)]
      exact n4.2 k hk
    · intro k hk
      rw [f7 _ (by omega), f6 _ (by omega), (q5 k hk).2.2, h4 _ (by omega)]
      exact n5 k hk
    · rw [f7 _ (by omega)]; exact p6
    · intro k hk
      have := q6 k hk
      rw [f7 _ (by omega), f7 _ (by omega), f7 _ (by omega), this.1, this.2.1, this.2.2, f5 _ (by omega), f5 _ (by omega), f5 _ (by omega), h4 _ (by omega), h4 _ (by omega), h4 _ (by omega)]
      exact m4.2 k hk
    · intro k hk
      have := q7 k hk
      rw [this.1, this.2.1, this.2.2, f6 _ (by omega), f6 _ (by omega), f6 _ (by omega), f5 _ (by omega), f5 _ (by omega), f5 _ (by omega), h4 _ (by omega), h4 _ (by omega), h4 _ (by omega)]
      exact k4.2 k hk
  · intro o ho
    rw [f7 o (by omega), f6 o (by omega), f5 o (by omega)]; exact h4 o ho
