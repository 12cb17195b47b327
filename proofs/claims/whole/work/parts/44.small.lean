/-! Looking after; who is left; doubts; on both sides. -/
def lbF (S : Nat → Int32) : Nat → Int32
  | 0 => nI 0
  | n + 1 => lbF S n ||| (S (3 + n) <<< (nI n &&& 31))
theorem or_0 (x : Int32) : x ||| nI 0 = x := Int32.or_zero
theorem V136 {ro : ma_RO} {d : Nat} (σ : ma_H) (nd : Nat) (hn : nd ≤ 6) (h33 : σ 91 33 = nI nd) : ma_ev ro d 136 [.ref 90] SH σ = some (some (.int (lbF (σ 91) nd)), SH, σ) := by
  have H : ∀ k, k < nd → ma_rn ro d 136 (4, [some (.ref 90), some (.int (lbF (σ 91) k)), some (.int (nI k))], [], SH, σ) = ma_rn ro d 136 (4, [some (.ref 90), some (.int (lbF (σ 91) (k + 1))), some (.int (nI (k + 1)))], [], SH, σ) := by
    intro k hk
    have p1 : 3 + k < 933 := by omega
    rw [Sh136_4]
    simp (disch := first | assumption | omega | exact zb_fit | (simp (disch := omega) only [up_no, up_nk, up_at, u_cp_no] <;> (first | assumption | omega)) | (simp only [hkF] <;> omega) | decide) only [S136, h33, z_lt, hk, lbF, hkF, z_add, z_mul, up_at, up_no, up_nk, u_cp_no, ma_bd, if_true, if_false, Option.toList, List.nil_append, List.cons_append]
  have e := ma_loop (fun k => ma_rn ro d 136 (4, [some (.ref 90), some (.int (lbF (σ 91) k)), some (.int (nI k))], [], SH, σ)) nd H
  simp (disch := first | assumption | omega | exact zb_fit | (simp (disch := omega) only [up_no, up_nk, up_at, u_cp_no] <;> (first | assumption | omega)) | (simp only [hkF] <;> omega) | decide) only [E136, S136, hkF, z_add, z_mul, up_at, up_no, up_nk, u_cp_no, ma_bd, if_true, if_false, Option.toList, List.nil_append, List.cons_append]
  refine Eq.trans e ?_
  rw [Sh136_4]
  simp (disch := first | assumption | omega | exact zb_fit | (simp (disch := omega) only [up_no, up_nk, up_at, u_cp_no] <;> (first | assumption | omega)) | (simp only [hkF] <;> omega) | decide) only [S136, h33, z_lt, Nat.lt_irrefl, hkF, z_add, z_mul, up_at, up_no, up_nk, u_cp_no, ma_bd, if_true, if_false, Option.toList, List.nil_append, List.cons_append]
theorem V55 {ro : ma_RO} {d : Nat} (σ : ma_H) (w nd : Nat) (S : Nat → Int32) (kw : hkWd w) (hn : nd ≤ 6) (hw : RWd σ w S nd) (hI : IvA S nd) : ma_ev ro (d + 1) 55 [.ref w] SH σ = some (some (.int (lbF S nd)), SH, σ) := by
  obtain ⟨w1, w2, w3, w4, w5⟩ := hw
  obtain ⟨⟨l', σ'⟩, e, ⟨v3, hl⟩, hs⟩ := ma_iter (fun x : ma_L × ma_H => ma_rn ro (d + 1) 55 (4, x.1, [], SH, x.2)) (fun k x => (∃ v3, x.1 = [some (.ref w), some (.int (lbF S k)), some (.int (nI k)), v3]) ∧ x.2 = σ) nd (by
    rintro k hk ⟨l, s⟩ ⟨⟨v3, hl⟩, hs⟩
    simp only at hl hs
    subst hl; subst hs
    have e50 := V50 (ro := ro) (d := d) s w k nd kw w1 hn hk
    have d3 : s (w + 1 + 1 + 2 * k) 3 = S (3 + k) := (w5 k hk).1 3 (by decide)
    have kd := kw.2.2.2 k (by omega)
    have kd1 := kd.1
    have k1 := kw.1
    obtain ⟨b, hb, hb'⟩ := (hI k hk).1
    have hb'' : S (3 + k) = nI b := hb'
    have hb2 : b = 0 ∨ b = 1 := by omega
    have k32 : k < 32 := by omega
    refine ⟨([some (.ref w), some (.int (lbF S (k + 1))), some (.int (nI (k + 1))), some (.ref (w + 1 + 1 + 2 * k))], s), ?_, ⟨_, rfl⟩, rfl⟩
    simp only
    rw [Sh55_4]
    rcases hb2 with rfl | rfl
    · simp (disch := first | assumption | omega | exact zb_fit | (simp (disch := omega) only [up_no, up_nk, up_at, u_cp_no] <;> (first | assumption | omega)) | (simp only [hkF] <;> omega) | decide) only [S55, w1, z_lt, hk, e50, d3, hb'', lbF, z_shl, Nat.zero_mul, or_0, hkF, z_add, z_mul, up_at, up_no, up_nk, u_cp_no, ma_bd, if_true, if_false, Option.toList, List.nil_append, List.cons_append]
    · simp (disch := first | assumption | omega | exact zb_fit | (simp (disch := omega) only [up_no, up_nk, up_at, u_cp_no] <;> (first | assumption | omega)) | (simp only [hkF] <;> omega) | decide) only [S55, w1, z_lt, hk, e50, d3, hb'', lbF, z_eq, Nat.reduceEqDiff, hkF, z_add, z_mul, up_at, up_no, up_nk, u_cp_no, ma_bd, if_true, if_false, Option.toList, List.nil_append, List.cons_append]) ([some (.ref w), some (.int (nI 0)), some (.int (nI 0)), none], σ) ⟨⟨none, rfl⟩, rfl⟩
  simp only at e hl hs
  subst hl; subst hs
  have k1 := kw.1
  simp (disch := first | assumption | omega | exact zb_fit | (simp (disch := omega) only [up_no, up_nk, up_at, u_cp_no] <;> (first | assumption | omega)) | (simp only [hkF] <;> omega) | decide) only [E55, S55, hkF, z_add, z_mul, up_at, up_no, up_nk, u_cp_no, ma_bd, if_true, if_false, Option.toList, List.nil_append, List.cons_append]
  rw [e, Sh55_4]
  simp (disch := first | assumption | omega | exact zb_fit | (simp (disch := omega) only [up_no, up_nk, up_at, u_cp_no] <;> (first | assumption | omega)) | (simp only [hkF] <;> omega) | decide) only [S55, w1, z_lt, Nat.lt_irrefl, hkF, z_add, z_mul, up_at, up_no, up_nk, u_cp_no, ma_bd, if_true, if_false, Option.toList, List.nil_append, List.cons_append]
/-- a deed's view behind a look -/
def lkD (D : Nat → Int32) (j : Nat) : Int32 := if j = 3 then nI 0 else if j = 4 then hl0 (nI 99) (nI 90 - nI 10 * D 7) else if j = 5 then hl0 (nI 99) (D 5 + nI 2) else if j = 7 then hl0 (nI 9) (D 7 + nI 1) else D j
theorem min99' : ∀ n, n ≤ 99 → (if nI n + nI 2 < nI 99 then nI n + nI 2 else nI 99) = hl0 (nI 99) (nI n + nI 2) := by decide +kernel
theorem min9' : ∀ n, n ≤ 9 → (if nI n + nI 1 < nI 9 then nI n + nI 1 else nI 9) = hl0 (nI 9) (nI n + nI 1) := by decide +kernel
theorem V13 {ro : ma_RO} {d : Nat} (σ : ma_H) (a : Nat) (ka : hkDd a) (h5 : Rg (σ a 5) 99) (h7 : Rg (σ a 7) 9) :
    ∃ σ', ma_ev ro (d + 1) 13 [.ref a] SH σ = some (none, SH, σ') ∧ σ' a = lkD (σ a) ∧ ∀ o, ¬ o = a → σ' o = σ o := by
  obtain ⟨a1, a2, a3⟩ := ka
  obtain ⟨n5, b5, e5⟩ := h5
  obtain ⟨n7, b7, e7⟩ := h7
  have m5 := min99' n5 b5
  have m7 := min9' n7 b7
  rw [← e5] at m5
  rw [← e7] at m7
  refine ⟨_, by simp (disch := first | assumption | omega | exact zb_fit | (simp (disch := omega) only [up_no, up_nk, up_at, u_cp_no] <;> (first | assumption | omega)) | (simp only [hkF] <;> omega) | decide) only [E13, S13, V90, hkF, z_add, z_mul, up_at, up_no, up_nk, u_cp_no, ma_bd, if_true, if_false, Option.toList, List.nil_append, List.cons_append]; rfl, ?_, ?_⟩
  · funext j
    simp only [lkD, m5, m7, ma_up, true_and]
    by_cases q3 : j = 3
    · subst q3; simp
    by_cases q4 : j = 4
    · subst q4; simp
    by_cases q5 : j = 5
    · subst q5; simp
    by_cases q7 : j = 7
    · subst q7; simp
    simp [q3, q4, q5, q7]
  · intro o ho; simp (disch := assumption) only [up_no]
theorem V127 {ro : ma_RO} {d : Nat} (k : Nat) (hk : k < 933) (n : Int32) (σ : ma_H) : ma_ev ro d 127 [.ref 90, .int (nI k), .int n] SH σ = some (some (.int (σ 91 k)), SH, ma_up σ 91 k n) := by
  simp (disch := first | assumption | omega | exact zb_fit | (simp (disch := omega) only [up_no, up_nk, up_at, u_cp_no] <;> (first | assumption | omega)) | (simp only [hkF] <;> omega) | decide) only [E127, S127, hkF, z_add, z_mul, up_at, up_no, up_nk, u_cp_no, ma_bd, if_true, if_false, Option.toList, List.nil_append, List.cons_append]
theorem V133 {ro : ma_RO} {d : Nat} (σ : ma_H) (p : Nat) (hp : p < 6) :
    ∃ σ', ma_ev ro (d + 1) 133 [.ref 90, .int (nI p)] SH σ = some (some (.int (σ 91 (3 + p))), SH, σ') ∧ σ' 91 = setD (σ 91) p (lkD (vD (σ 91) p)) ∧ ∀ a, ¬ a = 91 → σ' a = σ a := by
  have p1 : 3 + p < 933 := by omega
  have p2 : 9 + p < 933 := by omega
  have p3 : 15 + p < 933 := by omega
  have p5 : 27 + p < 933 := by omega
  refine ⟨_, by simp (disch := first | assumption | omega | exact zb_fit | (simp (disch := omega) only [up_no, up_nk, up_at, u_cp_no] <;> (first | assumption | omega)) | (simp only [hkF] <;> omega) | decide) only [E133, S133, V104', V127, hkF, z_add, z_mul, up_at, up_no, up_nk, u_cp_no, ma_bd, if_true, if_false, Option.toList, List.nil_append, List.cons_append]; rfl, ?_, ?_⟩
  · funext k
    simp only [ma_up, true_and, setD, lkD, vD, Nat.reduceEqDiff, if_false, if_true]
    by_cases q1 : k = 3 + p
    · subst q1; simp [show ¬ 3 + p = 9 + p by omega, show ¬ 3 + p = 15 + p by omega, show ¬ 3 + p = 21 + p by omega, show ¬ 3 + p = 27 + p by omega]
    by_cases q2 : k = 9 + p
    · subst q2; simp [show ¬ 9 + p = 3 + p by omega, show ¬ 9 + p = 15 + p by omega, show ¬ 9 + p = 21 + p by omega, show ¬ 9 + p = 27 + p by omega]
    by_cases q3 : k = 15 + p
    · subst q3; simp [show ¬ 15 + p = 3 + p by omega, show ¬ 15 + p = 9 + p by omega, show ¬ 15 + p = 21 + p by omega, show ¬ 15 + p = 27 + p by omega]
    by_cases q4 : k = 21 + p
    · subst q4; simp [show ¬ 21 + p = 3 + p by omega, show ¬ 21 + p = 9 + p by omega, show ¬ 21 + p = 15 + p by omega, show ¬ 21 + p = 27 + p by omega]
    by_cases q5 : k = 27 + p
    · subst q5; simp [show ¬ 27 + p = 3 + p by omega, show ¬ 27 + p = 9 + p by omega, show ¬ 27 + p = 15 + p by omega, show ¬ 27 + p = 21 + p by omega]
    simp [q1, q2, q3, q4, q5]
  · intro o h1; simp (disch := assumption) only [up_no]
theorem V14 {ro : ma_RO} {d : Nat} (σ : ma_H) (a : Nat) (y wo : Int32) (ka : hkDd a) : ma_ev ro d 14 [.ref a, .int y, .int wo] SH σ = some (some (.int (wo * y - σ a 4)), SH, σ) := by
  have a1 := ka.1
  simp (disch := first | assumption | omega | exact zb_fit | (simp (disch := omega) only [up_no, up_nk, up_at, u_cp_no] <;> (first | assumption | omega)) | (simp only [hkF] <;> omega) | decide) only [E14, S14, hkF, z_add, z_mul, up_at, up_no, up_nk, u_cp_no, ma_bd, if_true, if_false, Option.toList, List.nil_append, List.cons_append]
