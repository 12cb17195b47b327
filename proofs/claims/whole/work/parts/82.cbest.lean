/-! The call best. -/
def bitB (s p : Nat) : Bool := decide (s / 2 ^ p % 2 = 1)
theorem bit_and {s p : Nat} (hs : s < 2 ^ 31) (hp : p < 32) : nI s >>> (nI p &&& 31) &&& nI 1 = nI (s / 2 ^ p % 2) := by
  rw [z_shr hs hp, z_and, Nat.and_one_is_mod]
def mnF (S : Nat → Int32) (s : Nat) : Nat → Int32
  | 0 => nI 0
  | k + 1 => if s / 2 ^ k % 2 = 1 then mnF S s k + (S (46 + k) - S (46 + k) / nI 4 * nI 4 + nI 1) else mnF S s k
def wtF (S : Nat → Int32) (wo : Int32) (s : Nat) : Nat → Int32
  | 0 => nI 0
  | k + 1 => if s / 2 ^ k % 2 = 1 then wtF S wo s k + (if nI 0 < wo * nI 20 - S (9 + k) then wo * nI 20 - S (9 + k) else nI 0) * (S (46 + k) + nI 1) else wtF S wo s k
theorem bit01 (s k : Nat) : s / 2 ^ k % 2 = 0 ∨ s / 2 ^ k % 2 = 1 := by omega
theorem V95 {ro : ma_RO} {d : Nat} (σ : ma_H) (nd : Nat) (S : Nat → Int32) (hn : nd ≤ 6) (hw : RWd σ 2 S nd) (s : Nat) (hs : s < 2 ^ 31) : ma_ev ro (d + 1) 95 [.ref 0, .int (nI s)] SH σ = some (some (.int (mnF S s nd)), SH, σ) := by
  have kw := hkWh_1.2.1
  obtain ⟨w1, w2, w3, w4, w5⟩ := hw
  obtain ⟨⟨l', σ'⟩, e, ⟨v4, hl⟩, hσ⟩ := ma_iter (fun x : ma_L × ma_H => ma_rn ro (d + 1) 95 (4, x.1, [], SH, x.2)) (fun k x => (∃ v4, x.1 = [some (.ref 0), some (.int (nI s)), some (.int (mnF S s k)), some (.int (nI k)), v4]) ∧ x.2 = σ) nd (by
    rintro k hk ⟨l, σ0⟩ ⟨⟨v4, hl⟩, hσ⟩
    simp only at hl hσ
    subst hl; subst hσ
    have e50 := V50 (ro := ro) (d := d) σ0 2 k nd kw w1 hn hk
    have kd := kw.2.2.2 k (by omega)
    have kd1 := kd.1
    have d2 : σ0 (2 + 1 + 1 + 2 * k) 2 = S (46 + k) := (w5 k hk).1 2 (by decide)
    have hb := @bit_and s k hs (by omega)
    refine ⟨([some (.ref 0), some (.int (nI s)), some (.int (mnF S s (k + 1))), some (.int (nI (k + 1))), some (.ref (2 + 1 + 1 + 2 * k))], σ0), ?_, ⟨_, rfl⟩, rfl⟩
    simp only
    have hbf : ∀ (x0 x1 x2 x3 x4 : Option Value), True := fun _ _ _ _ _ => trivial
    rcases bit01 s k with h | h
    · rw [show mnF S s (k + 1) = mnF S s k from if_neg (by omega), Sh95_4]
      rw [h] at hb
      simp (disch := first | assumption | omega | exact zb_fit | exact hbf .. | (simp (disch := omega) only [up_no, up_nk, up_at, u_cp_no] <;> (first | assumption | omega)) | (simp only [hkF] <;> omega) | decide) only [S95, w1, z_lt, hk, e50, hb, z_eq, Nat.reduceEqDiff, hkF, z_add, z_mul, up_at, up_no, up_nk, u_cp_no, ma_bd, ↓reduceIte, if_true, if_false, Option.toList, List.nil_append, List.cons_append]
    · rw [show mnF S s (k + 1) = mnF S s k + (S (46 + k) - S (46 + k) / nI 4 * nI 4 + nI 1) from if_pos h, Sh95_4]
      rw [h] at hb
      simp (disch := first | assumption | omega | exact zb_fit | exact hbf .. | (simp (disch := omega) only [up_no, up_nk, up_at, u_cp_no] <;> (first | assumption | omega)) | (simp only [hkF] <;> omega) | decide) only [S95, w1, z_lt, hk, e50, hb, d2, z_eq, Nat.reduceEqDiff, nI4, hkF, z_add, z_mul, up_at, up_no, up_nk, u_cp_no, ma_bd, ↓reduceIte, if_true, if_false, Option.toList, List.nil_append, List.cons_append]) ([some (.ref 0), some (.int (nI s)), some (.int (nI 0)), some (.int (nI 0)), none], σ) ⟨⟨none, rfl⟩, rfl⟩
  simp only at e hl hσ
  subst hl; subst hσ
  refine Eq.trans (?_ : _ = ma_rn ro (d + 1) 95 (4, [some (.ref 0), some (.int (nI s)), some (.int (nI 0)), some (.int (nI 0)), none], [], SH, σ')) (e.trans ?_)
  · simp (disch := first | assumption | omega | exact zb_fit | exact hbf .. | (simp (disch := omega) only [up_no, up_nk, up_at, u_cp_no] <;> (first | assumption | omega)) | (simp only [hkF] <;> omega) | decide) only [E95, S95, hkF, z_add, z_mul, up_at, up_no, up_nk, u_cp_no, ma_bd, ↓reduceIte, if_true, if_false, Option.toList, List.nil_append, List.cons_append]
  · rw [Sh95_4]
    simp (disch := first | assumption | omega | exact zb_fit | exact hbf .. | (simp (disch := omega) only [up_no, up_nk, up_at, u_cp_no] <;> (first | assumption | omega)) | (simp only [hkF] <;> omega) | decide) only [S95, w1, z_lt, Nat.lt_irrefl, hkF, z_add, z_mul, up_at, up_no, up_nk, u_cp_no, ma_bd, ↓reduceIte, if_true, if_false, Option.toList, List.nil_append, List.cons_append]
theorem V96 {ro : ma_RO} {d : Nat} (σ : ma_H) (nd : Nat) (S : Nat → Int32) (wo : Int32) (hn : nd ≤ 6) (hw : RWd σ 2 S nd) (hwo : σ 16 0 = wo) (s : Nat) (hs : s < 2 ^ 31) : ma_ev ro (d + 1) 96 [.ref 0, .int (nI s)] SH σ = some (some (.int (wtF S wo s nd)), SH, σ) := by
  have kw := hkWh_1.2.1
  obtain ⟨w1, w2, w3, w4, w5⟩ := hw
  obtain ⟨⟨l', σ'⟩, e, ⟨v4, hl⟩, hσ⟩ := ma_iter (fun x : ma_L × ma_H => ma_rn ro (d + 1) 96 (4, x.1, [], SH, x.2)) (fun k x => (∃ v4, x.1 = [some (.ref 0), some (.int (nI s)), some (.int (wtF S wo s k)), some (.int (nI k)), v4]) ∧ x.2 = σ) nd (by
    rintro k hk ⟨l, σ0⟩ ⟨⟨v4, hl⟩, hσ⟩
    simp only at hl hσ
    subst hl; subst hσ
    have e50 := V50 (ro := ro) (d := d) σ0 2 k nd kw w1 hn hk
    have kd := kw.2.2.2 k (by omega)
    have kd1 := kd.1
    have d2 : σ0 (2 + 1 + 1 + 2 * k) 2 = S (46 + k) := (w5 k hk).1 2 (by decide)
    have d4 : σ0 (2 + 1 + 1 + 2 * k) 4 = S (9 + k) := (w5 k hk).1 4 (by decide)
    have e14 := V14 (ro := ro) (d := d) σ0 (2 + 1 + 1 + 2 * k) (nI 20) wo kd
    rw [d4] at e14
    have hb := @bit_and s k hs (by omega)
    refine ⟨([some (.ref 0), some (.int (nI s)), some (.int (wtF S wo s (k + 1))), some (.int (nI (k + 1))), some (.ref (2 + 1 + 1 + 2 * k))], σ0), ?_, ⟨_, rfl⟩, rfl⟩
    simp only
    rcases bit01 s k with h | h
    · rw [show wtF S wo s (k + 1) = wtF S wo s k from if_neg (by omega), Sh96_4]
      rw [h] at hb
      simp (disch := first | assumption | omega | exact zb_fit | exact hbf .. | (simp (disch := omega) only [up_no, up_nk, up_at, u_cp_no] <;> (first | assumption | omega)) | (simp only [hkF] <;> omega) | decide) only [S96, w1, z_lt, hk, e50, hb, z_eq, Nat.reduceEqDiff, hkF, z_add, z_mul, up_at, up_no, up_nk, u_cp_no, ma_bd, ↓reduceIte, if_true, if_false, Option.toList, List.nil_append, List.cons_append]
    · rw [show wtF S wo s (k + 1) = wtF S wo s k + (if nI 0 < wo * nI 20 - S (9 + k) then wo * nI 20 - S (9 + k) else nI 0) * (S (46 + k) + nI 1) from if_pos h, Sh96_4]
      rw [h] at hb
      simp (disch := first | assumption | omega | exact zb_fit | exact hbf .. | (simp (disch := omega) only [up_no, up_nk, up_at, u_cp_no] <;> (first | assumption | omega)) | (simp only [hkF] <;> omega) | decide) only [S96, w1, z_lt, hk, e50, hb, d2, hwo, e14, z_eq, Nat.reduceEqDiff, hkF, z_add, z_mul, up_at, up_no, up_nk, u_cp_no, ma_bd, ↓reduceIte, if_true, if_false, Option.toList, List.nil_append, List.cons_append]) ([some (.ref 0), some (.int (nI s)), some (.int (nI 0)), some (.int (nI 0)), none], σ) ⟨⟨none, rfl⟩, rfl⟩
  simp only at e hl hσ
  subst hl; subst hσ
  refine Eq.trans (?_ : _ = ma_rn ro (d + 1) 96 (4, [some (.ref 0), some (.int (nI s)), some (.int (nI 0)), some (.int (nI 0)), none], [], SH, σ')) (e.trans ?_)
  · simp (disch := first | assumption | omega | exact zb_fit | exact hbf .. | (simp (disch := omega) only [up_no, up_nk, up_at, u_cp_no] <;> (first | assumption | omega)) | (simp only [hkF] <;> omega) | decide) only [E96, S96, hkF, z_add, z_mul, up_at, up_no, up_nk, u_cp_no, ma_bd, ↓reduceIte, if_true, if_false, Option.toList, List.nil_append, List.cons_append]
  · rw [Sh96_4]
    simp (disch := first | assumption | omega | exact zb_fit | exact hbf .. | (simp (disch := omega) only [up_no, up_nk, up_at, u_cp_no] <;> (first | assumption | omega)) | (simp only [hkF] <;> omega) | decide) only [S96, w1, z_lt, Nat.lt_irrefl, hkF, z_add, z_mul, up_at, up_no, up_nk, u_cp_no, ma_bd, ↓reduceIte, if_true, if_false, Option.toList, List.nil_append, List.cons_append]
theorem M144 {ro : ma_RO} {d : Nat} (σ : ma_H) (nd : Nat) (hn : nd ≤ 6) (h33 : σ 91 33 = nI nd) (s : Nat) (hs : s < 2 ^ 31) : ma_ev ro d 144 [.ref 90, .int (nI s)] SH σ = some (some (.int (mnF (σ 91) s nd)), SH, σ) := by
  obtain ⟨⟨l', σ'⟩, e, hl, hσ⟩ := ma_iter (fun x : ma_L × ma_H => ma_rn ro d 144 (4, x.1, [], SH, x.2)) (fun k x => x.1 = [some (.ref 90), some (.int (nI s)), some (.int (mnF (σ 91) s k)), some (.int (nI k))] ∧ x.2 = σ) nd (by
    rintro k hk ⟨l, σ0⟩ ⟨hl, hσ⟩
    simp only at hl hσ
    subst hl; subst hσ
    have hb := @bit_and s k hs (by omega)
    have p46 : 46 + k < 933 := by omega
    refine ⟨([some (.ref 90), some (.int (nI s)), some (.int (mnF (σ0 91) s (k + 1))), some (.int (nI (k + 1)))], σ0), ?_, rfl, rfl⟩
    simp only
    rcases bit01 s k with h | h
    · rw [show mnF (σ0 91) s (k + 1) = mnF (σ0 91) s k from if_neg (by omega), Sh144_4]
      rw [h] at hb
      simp (disch := first | assumption | omega | exact zb_fit | exact hbf .. | (simp (disch := omega) only [up_no, up_nk, up_at, u_cp_no] <;> (first | assumption | omega)) | (simp only [hkF] <;> omega) | decide) only [S144, h33, z_lt, hk, hb, z_eq, Nat.reduceEqDiff, z_a0, hkF, z_add, z_mul, up_at, up_no, up_nk, u_cp_no, ma_bd, ↓reduceIte, if_true, if_false, Option.toList, List.nil_append, List.cons_append]
    · rw [show mnF (σ0 91) s (k + 1) = mnF (σ0 91) s k + (σ0 91 (46 + k) - σ0 91 (46 + k) / nI 4 * nI 4 + nI 1) from if_pos h, Sh144_4]
      rw [h] at hb
      simp (disch := first | assumption | omega | exact zb_fit | exact hbf .. | (simp (disch := omega) only [up_no, up_nk, up_at, u_cp_no] <;> (first | assumption | omega)) | (simp only [hkF] <;> omega) | decide) only [S144, h33, z_lt, hk, hb, z_eq, Nat.reduceEqDiff, nI4, hkF, z_add, z_mul, up_at, up_no, up_nk, u_cp_no, ma_bd, ↓reduceIte, if_true, if_false, Option.toList, List.nil_append, List.cons_append]) ([some (.ref 90), some (.int (nI s)), some (.int (nI 0)), some (.int (nI 0))], σ) ⟨rfl, rfl⟩
  simp only at e hl hσ
  subst hl; subst hσ
  refine Eq.trans (?_ : _ = ma_rn ro d 144 (4, [some (.ref 90), some (.int (nI s)), some (.int (nI 0)), some (.int (nI 0))], [], SH, σ')) (e.trans ?_)
  · simp (disch := first | assumption | omega | exact zb_fit | exact hbf .. | (simp (disch := omega) only [up_no, up_nk, up_at, u_cp_no] <;> (first | assumption | omega)) | (simp only [hkF] <;> omega) | decide) only [E144, S144, hkF, z_add, z_mul, up_at, up_no, up_nk, u_cp_no, ma_bd, ↓reduceIte, if_true, if_false, Option.toList, List.nil_append, List.cons_append]
  · rw [Sh144_4]
    simp (disch := first | assumption | omega | exact zb_fit | exact hbf .. | (simp (disch := omega) only [up_no, up_nk, up_at, u_cp_no] <;> (first | assumption | omega)) | (simp only [hkF] <;> omega) | decide) only [S144, h33, z_lt, Nat.lt_irrefl, hkF, z_add, z_mul, up_at, up_no, up_nk, u_cp_no, ma_bd, ↓reduceIte, if_true, if_false, Option.toList, List.nil_append, List.cons_append]
theorem M145 {ro : ma_RO} {d : Nat} (σ : ma_H) (nd : Nat) (wo : Int32) (hn : nd ≤ 6) (h33 : σ 91 33 = nI nd) (ht : tel (σ 91) 223 (nI 2) = wo) (hi : inH (σ 91)) (s : Nat) (hs : s < 2 ^ 31) : ma_ev ro (d + 2) 145 [.ref 90, .int (nI s)] SH σ = some (some (.int (wtF (σ 91) wo s nd)), SH, σ) := by
  obtain ⟨⟨l', σ'⟩, e, ⟨v4, hl⟩, hσ⟩ := ma_iter (fun x : ma_L × ma_H => ma_rn ro (d + 2) 145 (4, x.1, [], SH, x.2)) (fun k x => (∃ v4, x.1 = [some (.ref 90), some (.int (nI s)), some (.int (wtF (σ 91) wo s k)), some (.int (nI k)), v4]) ∧ x.2 = σ) nd (by
    rintro k hk ⟨l, σ0⟩ ⟨⟨v4, hl⟩, hσ⟩
    simp only at hl hσ
    subst hl; subst hσ
    have hb := @bit_and s k hs (by omega)
    have p46 : 46 + k < 933 := by omega
    have e125 := V125 (ro := ro) (d := d) σ0 k (nI 20) (by omega) hi
    rw [ht] at e125
    refine ⟨([some (.ref 90), some (.int (nI s)), some (.int (wtF (σ0 91) wo s (k + 1))), some (.int (nI (k + 1))), some (.int (wo * nI 20 - σ0 91 (9 + k)))], σ0), ?_, ⟨_, rfl⟩, rfl⟩
    simp only
    rcases bit01 s k with h | h
    · rw [show wtF (σ0 91) wo s (k + 1) = wtF (σ0 91) wo s k from if_neg (by omega), Sh145_4]
      rw [h] at hb
      simp (disch := first | assumption | omega | exact zb_fit | exact hbf .. | (simp (disch := omega) only [up_no, up_nk, up_at, u_cp_no] <;> (first | assumption | omega)) | (simp only [hkF] <;> omega) | decide) only [S145, h33, z_lt, hk, e125, hb, z_eq, Nat.reduceEqDiff, z_a0, hkF, z_add, z_mul, up_at, up_no, up_nk, u_cp_no, ma_bd, ↓reduceIte, if_true, if_false, Option.toList, List.nil_append, List.cons_append]
    · rw [show wtF (σ0 91) wo s (k + 1) = wtF (σ0 91) wo s k + (if nI 0 < wo * nI 20 - σ0 91 (9 + k) then wo * nI 20 - σ0 91 (9 + k) else nI 0) * (σ0 91 (46 + k) + nI 1) from if_pos h, Sh145_4]
      rw [h] at hb
      by_cases hpos : nI 0 < wo * nI 20 - σ0 91 (9 + k)
      · simp (disch := first | assumption | omega | exact zb_fit | exact hbf .. | (simp (disch := omega) only [up_no, up_nk, up_at, u_cp_no] <;> (first | assumption | omega)) | (simp only [hkF] <;> omega) | decide) only [S145, h33, z_lt, hk, e125, hb, hpos, z_eq, Nat.reduceEqDiff, hkF, z_add, z_mul, up_at, up_no, up_nk, u_cp_no, ma_bd, ↓reduceIte, if_true, if_false, Option.toList, List.nil_append, List.cons_append]
      · have zm : nI 0 * (σ0 91 (46 + k) + nI 1) = nI 0 := Int32.zero_mul
        simp (disch := first | assumption | omega | exact zb_fit | exact hbf .. | (simp (disch := omega) only [up_no, up_nk, up_at, u_cp_no] <;> (first | assumption | omega)) | (simp only [hkF] <;> omega) | decide) only [S145, h33, z_lt, hk, e125, hb, hpos, zm, z_eq, Nat.reduceEqDiff, z_a0, hkF, z_add, z_mul, up_at, up_no, up_nk, u_cp_no, ma_bd, ↓reduceIte, if_true, if_false, Option.toList, List.nil_append, List.cons_append]) ([some (.ref 90), some (.int (nI s)), some (.int (nI 0)), some (.int (nI 0)), none], σ) ⟨⟨none, rfl⟩, rfl⟩
  simp only at e hl hσ
  subst hl; subst hσ
  refine Eq.trans (?_ : _ = ma_rn ro (d + 2) 145 (4, [some (.ref 90), some (.int (nI s)), some (.int (nI 0)), some (.int (nI 0)), none], [], SH, σ')) (e.trans ?_)
  · simp (disch := first | assumption | omega | exact zb_fit | exact hbf .. | (simp (disch := omega) only [up_no, up_nk, up_at, u_cp_no] <;> (first | assumption | omega)) | (simp only [hkF] <;> omega) | decide) only [E145, S145, hkF, z_add, z_mul, up_at, up_no, up_nk, u_cp_no, ma_bd, ↓reduceIte, if_true, if_false, Option.toList, List.nil_append, List.cons_append]
  · rw [Sh145_4]
    simp (disch := first | assumption | omega | exact zb_fit | exact hbf .. | (simp (disch := omega) only [up_no, up_nk, up_at, u_cp_no] <;> (first | assumption | omega)) | (simp only [hkF] <;> omega) | decide) only [S145, h33, z_lt, Nat.lt_irrefl, hkF, z_add, z_mul, up_at, up_no, up_nk, u_cp_no, ma_bd, ↓reduceIte, if_true, if_false, Option.toList, List.nil_append, List.cons_append]
def bsF (mi : Int32) (mn wt : Nat → Int32) : Nat → Nat
  | 0 => 0
  | k + 1 => if ¬ mi < mn k ∧ wt (bsF mi mn wt k) < wt k then k else bsF mi mn wt k
theorem bsF_le (mi : Int32) (mn wt : Nat → Int32) : ∀ k, bsF mi mn wt k ≤ k := by
  intro k
  induction k with
  | zero => exact Nat.le_refl _
  | succ k ih => unfold bsF; split <;> omega
theorem wtF_0 (S : Nat → Int32) (wo : Int32) : ∀ k, wtF S wo 0 k = nI 0 := by
  intro k
  induction k with
  | zero => rfl
  | succ k ih => unfold wtF; rw [if_neg (by rw [Nat.zero_div]; decide)]; exact ih
theorem i32_irrefl (x : Int32) : ¬ x < x := by rw [Int32.lt_iff_toInt_lt]; omega
theorem C70 {ro : ma_RO} {d : Nat} (σ : ma_H) (hG : G σ) (y x : Int32) : ∃ r σ1 σ2, ma_ev ro (d + 4) 70 [.ref 0, .int y, .int x] SH σ = some (some (.int r), SH, σ1) ∧ ma_ev ro (d + 4) 146 [.ref 90, .int y, .int x] SH σ1 = some (some (.int r), SH, σ2) ∧ G σ2 := by
  obtain ⟨nd, cs, wo, hg⟩ := hG.1
  obtain ⟨h1, h2, h3, h4, h5, h6, h7, h8, h9, h10, h11, h12, h13, h14, h15, h16, h17, h18, h19, h20, h21⟩ := GS_open hg
  by_cases hx : x < nI 0 ∨ nI 1 < x
  · have e88 := V88t (ro := ro) (d := d + 3) σ hx
    have e102 := V102f (ro := ro) (d := d + 3) σ hx
    exact ⟨_, σ, σ, by simp (disch := first | assumption | omega | exact zb_fit | exact hbf .. | (simp (disch := omega) only [up_no, up_nk, up_at, u_cp_no] <;> (first | assumption | omega)) | (simp only [hkF] <;> omega) | decide) only [E70, S70, e88, z_eq, Nat.reduceEqDiff, hkF, z_add, z_mul, up_at, up_no, up_nk, u_cp_no, ma_bd, ↓reduceIte, if_true, if_false, Option.toList, List.nil_append, List.cons_append]; rfl, by simp (disch := first | assumption | omega | exact zb_fit | exact hbf .. | (simp (disch := omega) only [up_no, up_nk, up_at, u_cp_no] <;> (first | assumption | omega)) | (simp only [hkF] <;> omega) | decide) only [E146, S146, e102, z_eq, Nat.reduceEqDiff, hkF, z_add, z_mul, up_at, up_no, up_nk, u_cp_no, ma_bd, ↓reduceIte, if_true, if_false, Option.toList, List.nil_append, List.cons_append], hG⟩
  have e88 := V88f (ro := ro) (d := d + 3) σ hx
  have e102 := V102t (ro := ro) (d := d + 3) σ hx
  by_cases hy : y < nI 0 ∨ nI 30 < y
  · have f88 := V88t (ro := ro) (d := d + 3) σ hy
    have f102 := V102f (ro := ro) (d := d + 3) σ hy
    exact ⟨_, σ, σ, by simp (disch := first | assumption | omega | exact zb_fit | exact hbf .. | (simp (disch := omega) only [up_no, up_nk, up_at, u_cp_no] <;> (first | assumption | omega)) | (simp only [hkF] <;> omega) | decide) only [E70, S70, e88, f88, z_eq, Nat.reduceEqDiff, hkF, z_add, z_mul, up_at, up_no, up_nk, u_cp_no, ma_bd, ↓reduceIte, if_true, if_false, Option.toList, List.nil_append, List.cons_append]; rfl, by simp (disch := first | assumption | omega | exact zb_fit | exact hbf .. | (simp (disch := omega) only [up_no, up_nk, up_at, u_cp_no] <;> (first | assumption | omega)) | (simp only [hkF] <;> omega) | decide) only [E146, S146, e102, f102, z_eq, Nat.reduceEqDiff, hkF, z_add, z_mul, up_at, up_no, up_nk, u_cp_no, ma_bd, ↓reduceIte, if_true, if_false, Option.toList, List.nil_append, List.cons_append], hG⟩
  have f88 := V88f (ro := ro) (d := d + 3) σ hy
  have f102 := V102t (ro := ro) (d := d + 3) σ hy
  obtain ⟨t1, t2⟩ := tel_wo h4
  have w1 : σ 2 1 = nI nd := h15.1
  have hwo : σ 16 0 = wo := h16.1
  have hsh : nI 1 <<< (nI nd &&& 31) = nI (2 ^ nd) := by rw [z_shl (by omega), Nat.one_mul]
  have h2n : 2 ^ nd ≤ 64 := by
    have : 2 ^ nd ≤ 2 ^ 6 := Nat.pow_le_pow_right (by decide) h1
    omega
  have h2p : 0 < 2 ^ nd := Nat.two_pow_pos nd
  generalize hN : 2 ^ nd = N at hsh h2n h2p
  have xmn := fun s (hs : s < 2 ^ 31) => V95 (ro := ro) (d := d + 2) σ nd (σ 91) h1 h15 s hs
  have xwt := fun s (hs : s < 2 ^ 31) => V96 (ro := ro) (d := d + 2) σ nd (σ 91) wo h1 h15 hwo s hs
  have mmn := fun s (hs : s < 2 ^ 31) => M144 (ro := ro) (d := d + 3) σ nd h1 h2 s hs
  have mwt := fun s (hs : s < 2 ^ 31) => M145 (ro := ro) (d := d + 1) σ nd wo h1 h2 t1 t2 s hs
  generalize hB : bsF y (fun s => mnF (σ 91) s nd) (fun s => wtF (σ 91) wo s nd) = B
  have hBle : ∀ k, B k ≤ k := fun k => by rw [← hB]; exact bsF_le _ _ _ k
  have hBt : ∀ k, ¬ y < mnF (σ 91) k nd → wtF (σ 91) wo (B k) nd < wtF (σ 91) wo k nd → B (k + 1) = k := fun k a b => by
    rw [← hB] at b ⊢; exact if_pos ⟨a, b⟩
  have hBf1 : ∀ k, y < mnF (σ 91) k nd → B (k + 1) = B k := fun k a => by
    rw [← hB]; exact if_neg (fun h => h.1 a)
  have hBf2 : ∀ k, ¬ wtF (σ 91) wo (B k) nd < wtF (σ 91) wo k nd → B (k + 1) = B k := fun k a => by
    rw [← hB] at a ⊢; exact if_neg (fun h => a h.2)
  have hB0 : B 0 = 0 := by have := hBle 0; omega
  have hB1 : B 1 = 0 := by rw [hBf2 0 (by rw [hB0]; exact i32_irrefl _)]; exact hB0
  obtain ⟨⟨l1, s1⟩, e1, hl, hσ⟩ := ma_iter (fun z : ma_L × ma_H => ma_rn ro (d + 4) 70 (30, z.1, [], SH, z.2)) (fun k z => z.1 = [some (.ref 0), some (.int y), some (.int x), some (.int (wtF (σ 91) wo (B k) nd)), some (.int (nI (B k))), some (.int (nI k))] ∧ z.2 = σ) N (by
    rintro k hk ⟨l, σ0⟩ ⟨hl, hσ⟩
    simp only at hl hσ
    subst hl; subst hσ
    have kb := hBle k
    have xm := xmn k (by omega)
    have xw := xwt k (by omega)
    refine ⟨([some (.ref 0), some (.int y), some (.int x), some (.int (wtF (σ0 91) wo (B (k + 1)) nd)), some (.int (nI (B (k + 1)))), some (.int (nI (k + 1)))], σ0), ?_, rfl, rfl⟩
    simp only
    rw [Sh70_30]
    by_cases c1 : y < mnF (σ0 91) k nd
    · rw [hBf1 k c1]
      simp (disch := first | assumption | omega | exact zb_fit | exact hbf .. | (simp (disch := omega) only [up_no, up_nk, up_at, u_cp_no] <;> (first | assumption | omega)) | (simp only [hkF] <;> omega) | decide) only [S70, w1, hsh, z_lt, hk, xm, c1, hkF, z_add, z_mul, up_at, up_no, up_nk, u_cp_no, ma_bd, ↓reduceIte, if_true, if_false, Option.toList, List.nil_append, List.cons_append]
    · by_cases c2 : wtF (σ0 91) wo (B k) nd < wtF (σ0 91) wo k nd
      · rw [hBt k c1 c2]
        simp (disch := first | assumption | omega | exact zb_fit | exact hbf .. | (simp (disch := omega) only [up_no, up_nk, up_at, u_cp_no] <;> (first | assumption | omega)) | (simp only [hkF] <;> omega) | decide) only [S70, w1, hsh, z_lt, hk, xm, c1, xw, c2, hkF, z_add, z_mul, up_at, up_no, up_nk, u_cp_no, ma_bd, ↓reduceIte, if_true, if_false, Option.toList, List.nil_append, List.cons_append]
      · rw [hBf2 k c2]
        simp (disch := first | assumption | omega | exact zb_fit | exact hbf .. | (simp (disch := omega) only [up_no, up_nk, up_at, u_cp_no] <;> (first | assumption | omega)) | (simp only [hkF] <;> omega) | decide) only [S70, w1, hsh, z_lt, hk, xm, c1, xw, c2, hkF, z_add, z_mul, up_at, up_no, up_nk, u_cp_no, ma_bd, ↓reduceIte, if_true, if_false, Option.toList, List.nil_append, List.cons_append]) ([some (.ref 0), some (.int y), some (.int x), some (.int (nI 0)), some (.int (nI 0)), some (.int (nI 0))], σ) ⟨by rw [hB0, wtF_0], rfl⟩
  simp only at e1 hl hσ
  subst hl; subst hσ
  obtain ⟨⟨l2, s2⟩, e2, hl, hσ⟩ := ma_iter (fun z : ma_L × ma_H => ma_rn ro (d + 4) 146 (29, z.1, [], SH, z.2)) (fun k z => z.1 = [some (.ref 90), some (.int y), some (.int x), some (.int (nI (B (k + 1)))), some (.int (nI (k + 1)))] ∧ z.2 = s1) (N - 1) (by
    rintro k hk ⟨l, σ0⟩ ⟨hl, hσ⟩
    simp only at hl hσ
    subst hl; subst hσ
    have kb := hBle (k + 1)
    have xm := mmn (k + 1) (by omega)
    have xw := mwt (k + 1) (by omega)
    have xb := mwt (B (k + 1)) (by omega)
    have hk1 : k + 1 < N := by omega
    refine ⟨([some (.ref 90), some (.int y), some (.int x), some (.int (nI (B (k + 1 + 1)))), some (.int (nI (k + 1 + 1)))], σ0), ?_, rfl, rfl⟩
    simp only
    rw [Sh146_29]
    by_cases c1 : y < mnF (σ0 91) (k + 1) nd
    · rw [hBf1 (k + 1) c1]
      simp (disch := first | assumption | omega | exact zb_fit | exact hbf .. | (simp (disch := omega) only [up_no, up_nk, up_at, u_cp_no] <;> (first | assumption | omega)) | (simp only [hkF] <;> omega) | decide) only [S146, h2, hsh, z_lt, hk1, xm, c1, hkF, z_add, z_mul, up_at, up_no, up_nk, u_cp_no, ma_bd, ↓reduceIte, if_true, if_false, Option.toList, List.nil_append, List.cons_append]
    · by_cases c2 : wtF (σ0 91) wo (B (k + 1)) nd < wtF (σ0 91) wo (k + 1) nd
      · rw [hBt (k + 1) c1 c2]
        simp (disch := first | assumption | omega | exact zb_fit | exact hbf .. | (simp (disch := omega) only [up_no, up_nk, up_at, u_cp_no] <;> (first | assumption | omega)) | (simp only [hkF] <;> omega) | decide) only [S146, h2, hsh, z_lt, hk1, xm, c1, xw, xb, c2, hkF, z_add, z_mul, up_at, up_no, up_nk, u_cp_no, ma_bd, ↓reduceIte, if_true, if_false, Option.toList, List.nil_append, List.cons_append]
      · rw [hBf2 (k + 1) c2]
        simp (disch := first | assumption | omega | exact zb_fit | exact hbf .. | (simp (disch := omega) only [up_no, up_nk, up_at, u_cp_no] <;> (first | assumption | omega)) | (simp only [hkF] <;> omega) | decide) only [S146, h2, hsh, z_lt, hk1, xm, c1, xw, xb, c2, hkF, z_add, z_mul, up_at, up_no, up_nk, u_cp_no, ma_bd, ↓reduceIte, if_true, if_false, Option.toList, List.nil_append, List.cons_append]) ([some (.ref 90), some (.int y), some (.int x), some (.int (nI 0)), some (.int (nI 1))], s1) ⟨by rw [hB1], rfl⟩
  simp only at e2 hl hσ
  subst hl; subst hσ
  have kb := hBle N
  have hN1 : N - 1 + 1 = N := by omega
  rw [hN1] at e2
  have xb := mwt (B N) (by omega)
  refine ⟨if x = nI 0 then nI (B N) else wtF (s2 91) wo (B N) nd, s2, s2, ?_, ?_, hG⟩
  · refine Eq.trans (?_ : _ = ma_rn ro (d + 4) 70 (30, [some (.ref 0), some (.int y), some (.int x), some (.int (nI 0)), some (.int (nI 0)), some (.int (nI 0))], [], SH, s2)) (e1.trans ?_)
    · simp (disch := first | assumption | omega | exact zb_fit | exact hbf .. | (simp (disch := omega) only [up_no, up_nk, up_at, u_cp_no] <;> (first | assumption | omega)) | (simp only [hkF] <;> omega) | decide) only [E70, S70, e88, f88, z_eq, Nat.reduceEqDiff, hkF, z_add, z_mul, up_at, up_no, up_nk, u_cp_no, ma_bd, ↓reduceIte, if_true, if_false, Option.toList, List.nil_append, List.cons_append]
    · rw [Sh70_30]
      by_cases hx0 : x = nI 0
      · simp (disch := first | assumption | omega | exact zb_fit | exact hbf .. | (simp (disch := omega) only [up_no, up_nk, up_at, u_cp_no] <;> (first | assumption | omega)) | (simp only [hkF] <;> omega) | decide) only [S70, w1, hsh, z_lt, Nat.lt_irrefl, hx0, hkF, z_add, z_mul, up_at, up_no, up_nk, u_cp_no, ma_bd, ↓reduceIte, if_true, if_false, Option.toList, List.nil_append, List.cons_append]
      · simp (disch := first | assumption | omega | exact zb_fit | exact hbf .. | (simp (disch := omega) only [up_no, up_nk, up_at, u_cp_no] <;> (first | assumption | omega)) | (simp only [hkF] <;> omega) | decide) only [S70, w1, hsh, z_lt, Nat.lt_irrefl, hx0, hkF, z_add, z_mul, up_at, up_no, up_nk, u_cp_no, ma_bd, ↓reduceIte, if_true, if_false, Option.toList, List.nil_append, List.cons_append]
  · refine Eq.trans (?_ : _ = ma_rn ro (d + 4) 146 (29, [some (.ref 90), some (.int y), some (.int x), some (.int (nI 0)), some (.int (nI 1))], [], SH, s2)) (e2.trans ?_)
    · simp (disch := first | assumption | omega | exact zb_fit | exact hbf .. | (simp (disch := omega) only [up_no, up_nk, up_at, u_cp_no] <;> (first | assumption | omega)) | (simp only [hkF] <;> omega) | decide) only [E146, S146, e102, f102, z_eq, Nat.reduceEqDiff, hkF, z_add, z_mul, up_at, up_no, up_nk, u_cp_no, ma_bd, ↓reduceIte, if_true, if_false, Option.toList, List.nil_append, List.cons_append]
    · rw [Sh146_29]
      by_cases hx0 : x = nI 0
      · simp (disch := first | assumption | omega | exact zb_fit | exact hbf .. | (simp (disch := omega) only [up_no, up_nk, up_at, u_cp_no] <;> (first | assumption | omega)) | (simp only [hkF] <;> omega) | decide) only [S146, h2, hsh, z_lt, Nat.lt_irrefl, hx0, hkF, z_add, z_mul, up_at, up_no, up_nk, u_cp_no, ma_bd, ↓reduceIte, if_true, if_false, Option.toList, List.nil_append, List.cons_append]
      · simp (disch := first | assumption | omega | exact zb_fit | exact hbf .. | (simp (disch := omega) only [up_no, up_nk, up_at, u_cp_no] <;> (first | assumption | omega)) | (simp only [hkF] <;> omega) | decide) only [S146, h2, hsh, z_lt, Nat.lt_irrefl, hx0, xb, hkF, z_add, z_mul, up_at, up_no, up_nk, u_cp_no, ma_bd, ↓reduceIte, if_true, if_false, Option.toList, List.nil_append, List.cons_append]
