/-! Copies: rows of ints, a deed, a house. -/
theorem V91 {ro : ma_RO} {d : Nat} (σ : ma_H) (a b n : Nat) (hn : n ≤ 933) (ha : hk_len a = n) (hb : hk_len b = n) (ha' : hk_alen a = n) (hb' : hk_alen b = n) (h0 : 0 < n) (hab : ¬ b = a) : ma_ev ro d 91 [.ref a, .ref b] SH σ = some (none, SH, u_cp σ b a n) := by
  have hba : ¬ a = b := fun e => hab e.symm
  have H : ∀ k, k < n → ma_rn ro d 91 (2, [some (.ref a), some (.ref b), some (.int (nI k))], [], SH, u_cp σ b a k) = ma_rn ro d 91 (2, [some (.ref a), some (.ref b), some (.int (nI (k + 1)))], [], SH, u_cp σ b a (k + 1)) := by
    intro k hk
    rw [Sh91_2]
    simp (disch := first | assumption | omega | exact zb_fit | (simp (disch := omega) only [up_no, up_nk, up_at, u_cp_no] <;> (first | assumption | omega)) | (simp only [hkF] <;> omega) | decide) only [S91, ha', hb', z_lt, hk, u_cpS, hkF, z_add, z_mul, up_at, up_no, up_nk, u_cp_no, ma_bd, if_true, if_false, Option.toList, List.nil_append, List.cons_append]
  have e := ma_loop (fun k => ma_rn ro d 91 (2, [some (.ref a), some (.ref b), some (.int (nI k))], [], SH, u_cp σ b a k)) n H
  simp (disch := first | assumption | omega | exact zb_fit | (simp (disch := omega) only [up_no, up_nk, up_at, u_cp_no] <;> (first | assumption | omega)) | (simp only [hkF] <;> omega) | decide) only [E91, S91, hkF, z_add, z_mul, up_at, up_no, up_nk, u_cp_no, ma_bd, if_true, if_false, Option.toList, List.nil_append, List.cons_append]
  simp only [u_cp0] at e
  rw [e, Sh91_2]
  simp (disch := first | assumption | omega | exact zb_fit | (simp (disch := omega) only [up_no, up_nk, up_at, u_cp_no] <;> (first | assumption | omega)) | (simp only [hkF] <;> omega) | decide) only [S91, ha', hb', z_lt, Nat.lt_irrefl, hkF, z_add, z_mul, up_at, up_no, up_nk, u_cp_no, ma_bd, if_true, if_false, Option.toList, List.nil_append, List.cons_append]
theorem Rg_fit {x : Int32} (h : Rg x 1) : ma_fitI .boolean x = true := by
  obtain ⟨n, hn, rfl⟩ := h
  have : n = 0 ∨ n = 1 := by omega
  rcases this with rfl | rfl <;> decide
theorem V8 {ro : ma_RO} {d : Nat} (σ : ma_H) (a b : Nat) (ka : hkDd a) (kb : hkDd b) (hab : ¬ a = b) (h1 : ¬ a = b + 1) (h2 : ¬ b = a + 1) (hl : Rg (σ b 3) 1) :
    ∃ σ', ma_ev ro (d + 1) 8 [.ref a, .ref b] SH σ = some (none, SH, σ') ∧ (∀ j, j < 8 → σ' a j = σ b j) ∧ (∀ k, k < 4 → σ' (a + 1) k = σ (b + 1) k) ∧ ∀ o, ¬ o = a → ¬ o = a + 1 → σ' o = σ o := by
  obtain ⟨a1, a2, a3⟩ := ka
  obtain ⟨b1, b2, b3⟩ := kb
  have hba : ¬ b = a := fun e => hab e.symm
  have hf := Rg_fit hl
  have c1 := fun s => V91 (ro := ro) (d := d) s (b + 1) (a + 1) 4 (by omega) b2 a2 b3 a3 (by omega) (by omega)
  refine ⟨_, by simp (disch := first | assumption | omega | exact zb_fit | (simp (disch := omega) only [up_no, up_nk, up_at, u_cp_no] <;> (first | assumption | omega)) | (simp only [hkF] <;> omega) | decide) only [E8, S8, hba, c1, hkF, z_add, z_mul, up_at, up_no, up_nk, u_cp_no, ma_bd, if_true, if_false, Option.toList, List.nil_append, List.cons_append]; rfl, ?_, ?_, ?_⟩
  · intro j hj
    rw [u_cp_no (by omega)]
    have : j = 0 ∨ j = 1 ∨ j = 2 ∨ j = 3 ∨ j = 4 ∨ j = 5 ∨ j = 6 ∨ j = 7 := by omega
    rcases this with rfl | rfl | rfl | rfl | rfl | rfl | rfl | rfl <;> simp [ma_up]
  · intro k hk
    rw [show ∀ s : ma_H, u_cp s (a + 1) (b + 1) 4 (a + 1) k = s (b + 1) k from fun s => if_pos ⟨rfl, hk⟩]
    simp (disch := omega) only [up_no]
  · intro o g1 g2
    rw [u_cp_no g2]
    simp (disch := omega) only [up_no]
theorem hX_cp {σ σ' : ma_H} {a b : Nat} (e1 : ∀ k, k < 10 → σ' (a + 1) k = σ (b + 1) k) (e2 : ∀ k, k < 10 → σ' (a + 2) k = σ (b + 2) k) (e3 : ∀ k, k < 100 → σ' (a + 3) k = σ (b + 3) k) (cs : List (Bool × Nat × List (Nat × Nat × Nat))) : ∀ f c, c + cs.length ≤ 10 → f + lnC cs ≤ 100 → hX σ b f c cs → hX σ' a f c cs := by
  induction cs with
  | nil => intro f c _ _ _; trivial
  | cons l r ih =>
    intro f c h1 h2 hx
    simp only [List.length_cons] at h1
    simp only [lnC] at h2
    obtain ⟨g1, g2, g3, g4⟩ := hx
    exact ⟨by rw [e1 _ (by omega)]; exact g1, by rw [e2 _ (by omega)]; exact g2, fun i hi => by rw [e3 _ (by omega)]; exact g3 i hi, ih _ _ (by omega) (by omega) g4⟩
theorem V18 {ro : ma_RO} {d : Nat} (σ : ma_H) (a b : Nat) (ka : hkHs a) (kb : hkHs b) (hab : a + 3 < b ∨ b + 3 < a) (cs : List (Bool × Nat × List (Nat × Nat × Nat))) (wo : Int32) (hO : HOk cs) (hX' : HXr σ b cs wo) :
    ∃ σ', ma_ev ro (d + 1) 18 [.ref a, .ref b] SH σ = some (none, SH, σ') ∧ HXr σ' a cs wo ∧ ∀ o, (o < a ∨ a + 3 < o) → σ' o = σ o := by
  obtain ⟨a1, a2, a3, a4, a5, a6, a7⟩ := ka
  obtain ⟨b1, b2, b3, b4, b5, b6, b7⟩ := kb
  have hba : ¬ b = a := by omega
  have c1 := fun s => V91 (ro := ro) (d := d) s (b + 1) (a + 1) 10 (by omega) b2 a2 b3 a3 (by omega) (by omega)
  have c2 := fun s => V91 (ro := ro) (d := d) s (b + 2) (a + 2) 10 (by omega) b4 a4 b5 a5 (by omega) (by omega)
  have c3 := fun s => V91 (ro := ro) (d := d) s (b + 3) (a + 3) 100 (by omega) b6 a6 b7 a7 (by omega) (by omega)
  have cp : ∀ (s : ma_H) (x y n k : Nat), k < n → u_cp s x y n x k = s y k := fun s x y n k hk => if_pos ⟨rfl, hk⟩
  obtain ⟨x1, x2, x3⟩ := hX'
  refine ⟨_, by simp (disch := first | assumption | omega | exact zb_fit | (simp (disch := omega) only [up_no, up_nk, up_at, u_cp_no] <;> (first | assumption | omega)) | (simp only [hkF] <;> omega) | decide) only [E18, S18, hba, c1, c2, c3, hkF, z_add, z_mul, up_at, up_no, up_nk, u_cp_no, ma_bd, if_true, if_false, Option.toList, List.nil_append, List.cons_append]; rfl, ⟨?_, ?_, ?_⟩, ?_⟩
  · simp (disch := omega) only [u_cp_no, up_no, up_nk, up_at]; exact x1
  · simp (disch := omega) only [u_cp_no, up_no, up_nk, up_at]; exact x2
  · refine hX_cp (fun k hk => ?_) (fun k hk => ?_) (fun k hk => ?_) cs 0 0 (by have := hO.1; omega) (by have := hO.2.1; omega) x3
    · simp (disch := omega) only [u_cp_no, up_no, up_nk, up_at, cp]
    · simp (disch := omega) only [u_cp_no, up_no, up_nk, up_at, cp]
    · simp (disch := omega) only [u_cp_no, up_no, up_nk, up_at, cp]
  · intro o ho
    simp (disch := omega) only [u_cp_no, up_no]
