/-! How many yards back; the sum of the traces. -/
def ybF (wo t : Int32) : Nat → Nat → Int32
  | 0, _ => -5
  | n + 1, k => if nI 0 < wo * nI k - t then nI k else ybF wo t n (k + 1)
theorem V15 {ro : ma_RO} {d : Nat} (σ : ma_H) (a : Nat) (wo : Int32) (ka : hkDd a) : ma_ev ro (d + 1) 15 [.ref a, .int wo] SH σ = some (some (.int (ybF wo (σ a 4) 61 0)), SH, σ) := by
  have a1 := ka.1
  have H : ∀ n k, k + n = 61 → ma_rn ro (d + 1) 15 (2, [some (.ref a), some (.int wo), some (.int (nI k))], [], SH, σ) = some (some (.int (ybF wo (σ a 4) n k)), SH, σ) := by
    intro n
    induction n with
    | zero =>
      intro k hk
      have : k = 61 := by omega
      subst this
      rw [Sh15_2]
      simp (disch := first | assumption | omega | exact zb_fit | (simp (disch := omega) only [up_no, up_nk, up_at, u_cp_no] <;> (first | assumption | omega)) | (simp only [hkF] <;> omega) | decide) only [S15, z_lt, Nat.reduceLT, ybF, hkF, z_add, z_mul, up_at, up_no, up_nk, u_cp_no, ma_bd, if_true, if_false, Option.toList, List.nil_append, List.cons_append]
    | succ n ih =>
      intro k hk
      have hk1 : ¬ 60 < k := by omega
      rw [Sh15_2]
      by_cases h1 : nI 0 < wo * nI k - σ a 4
      · simp (disch := first | assumption | omega | exact zb_fit | (simp (disch := omega) only [up_no, up_nk, up_at, u_cp_no] <;> (first | assumption | omega)) | (simp only [hkF] <;> omega) | decide) only [S15, z_lt, hk1, V14, ybF, h1, hkF, z_add, z_mul, up_at, up_no, up_nk, u_cp_no, ma_bd, if_true, if_false, Option.toList, List.nil_append, List.cons_append]
      · simp (disch := first | assumption | omega | exact zb_fit | (simp (disch := omega) only [up_no, up_nk, up_at, u_cp_no] <;> (first | assumption | omega)) | (simp only [hkF] <;> omega) | decide) only [S15, z_lt, hk1, V14, ybF, h1, hkF, z_add, z_mul, up_at, up_no, up_nk, u_cp_no, ma_bd, if_true, if_false, Option.toList, List.nil_append, List.cons_append]
        exact ih (k + 1) (by omega)
  simp (disch := first | assumption | omega | exact zb_fit | (simp (disch := omega) only [up_no, up_nk, up_at, u_cp_no] <;> (first | assumption | omega)) | (simp only [hkF] <;> omega) | decide) only [E15, S15, hkF, z_add, z_mul, up_at, up_no, up_nk, u_cp_no, ma_bd, if_true, if_false, Option.toList, List.nil_append, List.cons_append]
  exact H 61 0 rfl
theorem V126 {ro : ma_RO} {d : Nat} (σ : ma_H) (p : Nat) (hp : p < 6) (h : inH (σ 91)) : ma_ev ro (d + 2) 126 [.ref 90, .int (nI p)] SH σ = some (some (.int (ybF (tel (σ 91) 223 (nI 2)) (σ 91 (9 + p)) 61 0)), SH, σ) := by
  have H : ∀ n k, k + n = 61 → ma_rn ro (d + 2) 126 (2, [some (.ref 90), some (.int (nI p)), some (.int (nI k))], [], SH, σ) = some (some (.int (ybF (tel (σ 91) 223 (nI 2)) (σ 91 (9 + p)) n k)), SH, σ) := by
    intro n
    induction n with
    | zero =>
      intro k hk
      have : k = 61 := by omega
      subst this
      rw [Sh126_2]
      simp (disch := first | assumption | omega | exact zb_fit | (simp (disch := omega) only [up_no, up_nk, up_at, u_cp_no] <;> (first | assumption | omega)) | (simp only [hkF] <;> omega) | decide) only [S126, z_lt, Nat.reduceLT, ybF, hkF, z_add, z_mul, up_at, up_no, up_nk, u_cp_no, ma_bd, if_true, if_false, Option.toList, List.nil_append, List.cons_append]
    | succ n ih =>
      intro k hk
      have hk1 : ¬ 60 < k := by omega
      rw [Sh126_2]
      by_cases h1 : nI 0 < tel (σ 91) 223 (nI 2) * nI k - σ 91 (9 + p)
      · simp (disch := first | assumption | omega | exact zb_fit | (simp (disch := omega) only [up_no, up_nk, up_at, u_cp_no] <;> (first | assumption | omega)) | (simp only [hkF] <;> omega) | decide) only [S126, z_lt, hk1, V125, ybF, h1, hkF, z_add, z_mul, up_at, up_no, up_nk, u_cp_no, ma_bd, if_true, if_false, Option.toList, List.nil_append, List.cons_append]
      · simp (disch := first | assumption | omega | exact zb_fit | (simp (disch := omega) only [up_no, up_nk, up_at, u_cp_no] <;> (first | assumption | omega)) | (simp only [hkF] <;> omega) | decide) only [S126, z_lt, hk1, V125, ybF, h1, hkF, z_add, z_mul, up_at, up_no, up_nk, u_cp_no, ma_bd, if_true, if_false, Option.toList, List.nil_append, List.cons_append]
        exact ih (k + 1) (by omega)
  simp (disch := first | assumption | omega | exact zb_fit | (simp (disch := omega) only [up_no, up_nk, up_at, u_cp_no] <;> (first | assumption | omega)) | (simp only [hkF] <;> omega) | decide) only [E126, S126, hkF, z_add, z_mul, up_at, up_no, up_nk, u_cp_no, ma_bd, if_true, if_false, Option.toList, List.nil_append, List.cons_append]
  exact H 61 0 rfl
theorem tel_wo {S : Nat → Int32} {cs : List (Bool × Nat × List (Nat × Nat × Nat))} {wo : Int32} (hm : HMr S cs wo) : tel S 223 (nI 2) = wo ∧ inH S := by
  rcases hm with ⟨g1, g2, g3⟩ | ⟨act, g1, g2, g3, g4, g5⟩
  · exact ⟨by unfold tel; rw [if_pos g1, g2], .inl g1⟩
  · refine ⟨?_, .inr ⟨act, g1, g2⟩⟩
    unfold tel
    rw [g2, if_neg (by rw [z_ne1 (by omega)]; exact id), nI_clamp (by omega), g3]
/-- the sum of the first traces -/
def trF (S : Nat → Int32) : Nat → Int32
  | 0 => nI 0
  | n + 1 => trF S n + S (9 + n)
theorem V56 {ro : ma_RO} {d : Nat} (σ : ma_H) (w nd : Nat) (S : Nat → Int32) (kw : hkWd w) (hn : nd ≤ 6) (hw : RWd σ w S nd) : ma_ev ro (d + 1) 56 [.ref w] SH σ = some (some (.int (trF S nd)), SH, σ) := by
  obtain ⟨w1, w2, w3, w4, w5⟩ := hw
  obtain ⟨⟨l', σ'⟩, e, ⟨v3, hl⟩, hs⟩ := ma_iter (fun x : ma_L × ma_H => ma_rn ro (d + 1) 56 (4, x.1, [], SH, x.2)) (fun k x => (∃ v3, x.1 = [some (.ref w), some (.int (trF S k)), some (.int (nI k)), v3]) ∧ x.2 = σ) nd (by
    rintro k hk ⟨l, s⟩ ⟨⟨v3, hl⟩, hs⟩
    simp only at hl hs
    subst hl; subst hs
    have e50 := V50 (ro := ro) (d := d) s w k nd kw w1 hn hk
    have d3 : s (w + 1 + 1 + 2 * k) 4 = S (9 + k) := (w5 k hk).1 4 (by decide)
    have kd := kw.2.2.2 k (by omega)
    have kd1 := kd.1
    have k1 := kw.1
    refine ⟨([some (.ref w), some (.int (trF S (k + 1))), some (.int (nI (k + 1))), some (.ref (w + 1 + 1 + 2 * k))], s), ?_, ⟨_, rfl⟩, rfl⟩
    simp only
    rw [Sh56_4]
    simp (disch := first | assumption | omega | exact zb_fit | (simp (disch := omega) only [up_no, up_nk, up_at, u_cp_no] <;> (first | assumption | omega)) | (simp only [hkF] <;> omega) | decide) only [S56, w1, z_lt, hk, e50, d3, trF, hkF, z_add, z_mul, up_at, up_no, up_nk, u_cp_no, ma_bd, if_true, if_false, Option.toList, List.nil_append, List.cons_append]) ([some (.ref w), some (.int (nI 0)), some (.int (nI 0)), none], σ) ⟨⟨none, rfl⟩, rfl⟩
  simp only at e hl hs
  subst hl; subst hs
  have k1 := kw.1
  simp (disch := first | assumption | omega | exact zb_fit | (simp (disch := omega) only [up_no, up_nk, up_at, u_cp_no] <;> (first | assumption | omega)) | (simp only [hkF] <;> omega) | decide) only [E56, S56, hkF, z_add, z_mul, up_at, up_no, up_nk, u_cp_no, ma_bd, if_true, if_false, Option.toList, List.nil_append, List.cons_append]
  rw [e, Sh56_4]
  simp (disch := first | assumption | omega | exact zb_fit | (simp (disch := omega) only [up_no, up_nk, up_at, u_cp_no] <;> (first | assumption | omega)) | (simp only [hkF] <;> omega) | decide) only [S56, w1, z_lt, Nat.lt_irrefl, hkF, z_add, z_mul, up_at, up_no, up_nk, u_cp_no, ma_bd, if_true, if_false, Option.toList, List.nil_append, List.cons_append]
