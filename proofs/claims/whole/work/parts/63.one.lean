/-! One deed alone goes some mornings on, on both sides. -/
def stpN (cs : List (Bool × Nat × List (Nat × Nat × Nat))) (h : Int32) (mm : Nat) (R : Nat → Int32) : Nat → (Nat → Int32) → (Nat → Int32)
  | 0, D => D
  | k + 1, D => goD (stpN cs h mm R k D) (careD cs (stpN cs h mm R k D) R (mm + k)) h
theorem stpN_Iv (cs : List (Bool × Nat × List (Nat × Nat × Nat))) (h : Int32) (mm : Nat) (R D : Nat → Int32) (hD : IvD D) : ∀ n, IvD (stpN cs h mm R n D) := by
  intro n
  induction n with
  | zero => exact hD
  | succ n ih => exact goD_Iv _ _ _ ih
theorem stpN_congr (cs : List (Bool × Nat × List (Nat × Nat × Nat))) (h : Int32) (mm : Nat) {R R' D D' : Nat → Int32} (hD : ∀ j, j < 8 → D j = D' j) (hR : ∀ k, k < 4 → R k = R' k) : ∀ n j, j < 8 → stpN cs h mm R n D j = stpN cs h mm R' n D' j := by
  intro n
  induction n with
  | zero => exact hD
  | succ n ih =>
    intro j hj
    show goD _ _ _ j = goD _ _ _ j
    rw [careD_congr cs (mm + n) ih hR]
    exact goD_congr ih _ _ j hj
theorem V93 {ro : ma_RO} {d : Nat} (σ : ma_H) (n mm : Nat) (h : Int32) (cs : List (Bool × Nat × List (Nat × Nat × Nat))) (wo : Int32) (hX' : HXr σ 16 cs wo) (hO : HOk cs) (hmm : mm + n < 2 ^ 31) (h3 : σ 2 3 = nI mm) (hD : IvD (σ 84)) :
    ∃ σ', ma_ev ro (d + 5) 93 [.ref 0, .int (nI n), .int h] SH σ = some (none, SH, σ') ∧ σ' 84 = stpN cs h mm (σ 85) n (σ 84) ∧ ∀ o, ¬ o = 84 → σ' o = σ o := by
  have kd : hkDd 84 := ⟨rfl, rfl, rfl⟩
  obtain ⟨⟨l', σ'⟩, e, hl, hs, r⟩ := ma_iter (fun x : ma_L × ma_H => ma_rn ro (d + 5) 93 (2, x.1, [], SH, x.2)) (fun k x => x.1 = [some (.ref 0), some (.int (nI n)), some (.int h), some (.int (nI k))] ∧ x.2 84 = stpN cs h mm (σ 85) k (σ 84) ∧ ∀ o, ¬ o = 84 → x.2 o = σ o) n (by
    rintro k hk ⟨l, s⟩ ⟨hl, hs, r⟩
    simp only at hl hs r
    subst hl
    have hI := stpN_Iv cs h mm (σ 85) (σ 84) hD k
    have e11 := V11 (ro := ro) (d := d) s 84 16 (mm + k) cs wo (HXr_congr (fun o h1 h2 => r o (by omega)) hX') hO kd hkWh_1.2.2.1 (by omega)
    obtain ⟨s', e12, q12, r12⟩ := V12 (ro := ro) (d := d + 3) s 84 (careD cs (s 84) (s 85) (mm + k)) h kd (by rw [hs]; exact hI.2.2.1) (by rw [hs]; exact hI.2.2.2.1)
    have s23 : s 2 3 = nI mm := by rw [r 2 (by decide)]; exact h3
    refine ⟨([some (.ref 0), some (.int (nI n)), some (.int h), some (.int (nI (k + 1)))], s'), ?_, rfl, ?_, fun o ho => (r12 o ho).trans (r o ho)⟩
    · simp only
      rw [Sh93_2]
      simp (disch := first | assumption | omega | exact zb_fit | exact hbf .. | (simp (disch := omega) only [up_no, up_nk, up_at, u_cp_no] <;> (first | assumption | omega)) | (simp only [hkF] <;> omega) | decide) only [S93, z_lt, hk, s23, e11, e12, hkF, z_add, z_mul, up_at, up_no, up_nk, u_cp_no, ma_bd, ↓reduceIte, if_true, if_false, Option.toList, List.nil_append, List.cons_append]
    · show s' 84 = _
      rw [q12, hs, r 85 (by decide)]; rfl) ([some (.ref 0), some (.int (nI n)), some (.int h), some (.int (nI 0))], σ) ⟨rfl, rfl, fun _ _ => rfl⟩
  simp only at e hl hs r
  subst hl
  refine ⟨σ', ?_, hs, r⟩
  simp (disch := first | assumption | omega | exact zb_fit | exact hbf .. | (simp (disch := omega) only [up_no, up_nk, up_at, u_cp_no] <;> (first | assumption | omega)) | (simp only [hkF] <;> omega) | decide) only [E93, S93, hkF, z_add, z_mul, up_at, up_no, up_nk, u_cp_no, ma_bd, ↓reduceIte, if_true, if_false, Option.toList, List.nil_append, List.cons_append]
  rw [e, Sh93_2]
  simp (disch := first | assumption | omega | exact zb_fit | exact hbf .. | (simp (disch := omega) only [up_no, up_nk, up_at, u_cp_no] <;> (first | assumption | omega)) | (simp only [hkF] <;> omega) | decide) only [S93, z_lt, Nat.lt_irrefl, hkF, z_add, z_mul, up_at, up_no, up_nk, u_cp_no, ma_bd, ↓reduceIte, if_true, if_false, Option.toList, List.nil_append, List.cons_append]
def stO (cs : List (Bool × Nat × List (Nat × Nat × Nat))) (mm p : Nat) : Nat → (Nat → Int32) → (Nat → Int32)
  | 0, S => S
  | k + 1, S => upS (stG cs (mm + k) p (stO cs mm p k S)) 0 (nI (mm + k + 1))
theorem stO_hi (cs : List (Bool × Nat × List (Nat × Nat × Nat))) (mm p : Nat) (hp : p < 6) (S : Nat → Int32) : ∀ n, sHi S (stO cs mm p n S) := by
  intro n
  induction n with
  | zero => exact fun _ _ => rfl
  | succ n ih =>
    intro k hk
    show upS _ _ _ k = _
    unfold upS
    rw [if_neg (by omega)]
    exact (setD_hi _ p hp _ k hk).trans (ih k hk)
theorem stO_0 (cs : List (Bool × Nat × List (Nat × Nat × Nat))) (mm p : Nat) (S : Nat → Int32) (h0 : S 0 = nI mm) : ∀ n, stO cs mm p n S 0 = nI (mm + n) := by
  intro n
  cases n with
  | zero => exact h0
  | succ n => show upS _ 0 (nI (mm + n + 1)) 0 = nI (mm + n + 1); unfold upS; exact if_pos rfl
theorem stO_1 (cs : List (Bool × Nat × List (Nat × Nat × Nat))) (mm p : Nat) (S : Nat → Int32) : ∀ n, stO cs mm p n S 1 = S 1 := by
  intro n
  induction n with
  | zero => rfl
  | succ n ih =>
    show upS _ _ _ 1 = _
    unfold upS
    rw [if_neg (by decide)]
    exact (setD_lo _ p _ 1 (by decide)).trans ih
theorem stO_D (cs : List (Bool × Nat × List (Nat × Nat × Nat))) (mm p : Nat) (hp : p < 6) (S : Nat → Int32) : ∀ n j, j < 8 → vD (stO cs mm p n S) p j = stpN cs (S 1) mm (vR S p) n (vD S p) j := by
  intro n
  induction n with
  | zero => exact fun _ _ => rfl
  | succ n ih =>
    intro j hj
    show vD (upS (setD (stO cs mm p n S) p (goD (vD (stO cs mm p n S) p) (careD cs (vD (stO cs mm p n S) p) (vR (stO cs mm p n S) p) (mm + n)) (stO cs mm p n S 1))) 0 (nI (mm + n + 1))) p j = goD (stpN cs (S 1) mm (vR S p) n (vD S p)) (careD cs (stpN cs (S 1) mm (vR S p) n (vD S p)) (vR S p) (mm + n)) (S 1) j
    rw [vD_hi2 _ _ _ _ _ (by decide), vD_setD _ _ _ hp _ hj, careD_congr cs (mm + n) ih (fun k _ => vR_hi (stO_hi cs mm p hp S n) p k), stO_1]
    by_cases h3 : 3 ≤ j
    · rw [if_pos h3]; exact goD_congr ih _ _ j hj
    · rw [if_neg h3, goD_lo _ _ _ _ (by omega)]; exact ih j hj
theorem V141 {ro : ma_RO} {d : Nat} (σ : ma_H) (cs : List (Bool × Nat × List (Nat × Nat × Nat))) (wo : Int32) (hM' : HMr (σ 91) cs wo) (hO : HOk cs) (p mm n : Nat) (hp : p < 6) (hmm : mm + n < 2 ^ 31) (h0 : σ 91 0 = nI mm) :
    ∃ σ', ma_ev ro (d + 4) 141 [.ref 90, .int (nI p), .int (nI n)] SH σ = some (none, SH, σ') ∧ σ' 91 = stO cs mm p n (σ 91) ∧ ∀ a, ¬ a = 91 → ¬ a = 94 → ¬ a = 95 → σ' a = σ a := by
  obtain ⟨⟨l', σ'⟩, e, hl, hR, r⟩ := ma_iter (fun x : ma_L × ma_H => ma_rn ro (d + 4) 141 (2, x.1, [], SH, x.2)) (fun k x => x.1 = [some (.ref 90), some (.int (nI p)), some (.int (nI n)), some (.int (nI k))] ∧ x.2 91 = stO cs mm p k (σ 91) ∧ ∀ a, ¬ a = 91 → ¬ a = 94 → ¬ a = 95 → x.2 a = σ a) n (by
    rintro k hk ⟨l, s⟩ ⟨hl, hs, r⟩
    simp only at hl hs r
    subst hl
    have i3 := stO_0 cs mm p (σ 91) h0 k
    obtain ⟨s', e1, q1, r1⟩ := V138 (ro := ro) (d := d) s cs wo (by rw [hs]; exact HMr_congr (stO_hi cs mm p hp _ k) hM') hO p (mm + k) hp (by omega) (by rw [hs]; exact i3)
    have s0 : s' 91 0 = nI (mm + k) := by rw [q1, setD_lo _ _ _ _ (by decide), hs]; exact i3
    refine ⟨([some (.ref 90), some (.int (nI p)), some (.int (nI n)), some (.int (nI (k + 1)))], ma_up s' 91 0 (nI (mm + k + 1))), ?_, rfl, ?_, fun a h1 h2 h3 => ?_⟩
    · simp only
      rw [Sh141_2]
      simp (disch := first | assumption | omega | exact zb_fit | exact hbf .. | (simp (disch := omega) only [up_no, up_nk, up_at, u_cp_no] <;> (first | assumption | omega)) | (simp only [hkF] <;> omega) | decide) only [S141, z_lt, hk, e1, s0, hkF, z_add, z_mul, up_at, up_no, up_nk, u_cp_no, ma_bd, ↓reduceIte, if_true, if_false, Option.toList, List.nil_append, List.cons_append]
    · show ma_up s' 91 0 _ 91 = _
      rw [up_S, q1, hs]; rfl
    · show ma_up s' 91 0 _ a = _
      rw [up_no h1, r1 a h1 h2 h3]; exact r a h1 h2 h3) ([some (.ref 90), some (.int (nI p)), some (.int (nI n)), some (.int (nI 0))], σ) ⟨rfl, rfl, fun _ _ _ _ => rfl⟩
  simp only at e hl hR r
  subst hl
  refine ⟨σ', ?_, hR, r⟩
  simp (disch := first | assumption | omega | exact zb_fit | exact hbf .. | (simp (disch := omega) only [up_no, up_nk, up_at, u_cp_no] <;> (first | assumption | omega)) | (simp only [hkF] <;> omega) | decide) only [E141, S141, hkF, z_add, z_mul, up_at, up_no, up_nk, u_cp_no, ma_bd, ↓reduceIte, if_true, if_false, Option.toList, List.nil_append, List.cons_append]
  rw [e, Sh141_2]
  simp (disch := first | assumption | omega | exact zb_fit | exact hbf .. | (simp (disch := omega) only [up_no, up_nk, up_at, u_cp_no] <;> (first | assumption | omega)) | (simp only [hkF] <;> omega) | decide) only [S141, z_lt, Nat.lt_irrefl, hkF, z_add, z_mul, up_at, up_no, up_nk, u_cp_no, ma_bd, ↓reduceIte, if_true, if_false, Option.toList, List.nil_append, List.cons_append]
