/-! Longs: the fraction in lowest terms; the call mean. -/
def nJ (n : Nat) : Int64 := Int64.ofNat n
theorem nJ_toInt {n : Nat} (h : n < 2 ^ 63) : (nJ n).toInt = n := Int64.toInt_ofNat_of_lt h
theorem j_add (a b : Nat) : nJ a + nJ b = nJ (a + b) := (Int64.ofNat_add a b).symm
theorem j_div {a b : Nat} (ha : a < 2 ^ 63) (hb : b < 2 ^ 63) : nJ a / nJ b = nJ (a / b) := by
  apply Int64.toInt_inj.mp
  rw [Int64.toInt_div_of_ne_left _ _ (by intro h; have := congrArg Int64.toInt h; rw [nJ_toInt ha] at this; simp at this), nJ_toInt ha, nJ_toInt hb, nJ_toInt (Nat.lt_of_le_of_lt (Nat.div_le_self _ _) ha)]
  rw [Int.ofNat_tdiv]
theorem j_mod {a b : Nat} (ha : a < 2 ^ 63) (hb : b < 2 ^ 63) : nJ a - nJ a / nJ b * nJ b = nJ (a % b) := by
  rw [j_div ha hb, show nJ (a / b) * nJ b = nJ (a / b * b) from (Int64.ofNat_mul _ _).symm, show nJ a - nJ (a / b * b) = nJ (a - a / b * b) from (Int64.ofNat_sub _ _ (Nat.div_mul_le_self a b)).symm]
  congr 1
  rw [Nat.mod_def, Nat.mul_comm]
theorem j_ne {b : Nat} (hb : b < 2 ^ 63) (h0 : 0 < b) : ¬ nJ b = 0 := by
  intro h
  have := congrArg Int64.toInt h
  rw [nJ_toInt hb, show (0 : Int64).toInt = 0 by decide] at this
  omega
theorem j_cmp0 : lg_cmp (nJ 0) 0 = nI 0 := by decide
theorem j_cmp {b : Nat} (hb : b < 2 ^ 63) (h0 : 0 < b) : lg_cmp (nJ b) 0 = nI 1 := by
  unfold lg_cmp
  rw [if_pos (show (0 : Int64) < nJ b by rw [Int64.lt_iff_toInt_lt, nJ_toInt hb, show (0 : Int64).toInt = 0 by decide]; omega)]
  rfl
theorem j_of {n : Nat} (h : n < 2 ^ 31) : (nI n).toInt64 = nJ n := by
  apply Int64.toInt_inj.mp
  rw [Int32.toInt_toInt64, nI_toInt h, nJ_toInt (by omega)]
theorem j_lt0 {b : Nat} (hb : b < 2 ^ 63) : ¬ lg_cmp (nJ b) 0 < nI 0 := by
  by_cases h : 0 < b
  · rw [j_cmp hb h]; decide
  · have : b = 0 := by omega
    subst this; decide
theorem V92 {ro : ma_RO} {d : Nat} (σ : ma_H) (T B : Int64) (x : Int32) : ∀ b a i v10 v11, a < 2 ^ 63 → b < 2 ^ 63 → 0 < a + b → i + b ≤ 99 →
    ma_rn ro d 92 (9, [some (.long T), none, some (.long B), none, some (.int x), some (.long (nJ a)), none, some (.long (nJ b)), none, some (.int (nI i)), v10, v11], [], SH, σ) = some (some (.long (if x = nI 0 then T / nJ (Nat.gcd b a) else B / nJ (Nat.gcd b a))), SH, σ) := by
  intro b
  induction b using Nat.strongRecOn with
  | _ b ih =>
    intro a i v10 v11 ha hb hab hi
    have hbf : ∀ (x0 x2 x4 x5 x10 x11 : Option Value) (r : Int64) (z : Option Value), ma_bef [x0, none, x2, none, x4, x5, none, some (.long r), none, z, x10, x11] 9 = false := fun _ _ _ _ _ _ _ _ => rfl
    have h7 : ∀ (x0 x2 x4 x5 x7 x8 x9 x10 x11 : Option Value), ma_bef [x0, none, x2, none, x4, x5, none, x7, x8, x9, x10, x11] 7 = false := fun _ _ _ _ _ _ _ _ _ => rfl
    have hi2 : i < 100 := by omega
    rw [Sh92_9]
    by_cases h0 : b = 0
    · subst h0
      have h1 := j_cmp ha (show 0 < a by omega)
      have h2 := j_ne ha (show 0 < a by omega)
      by_cases hx : x = nI 0
      · simp (disch := first | assumption | omega | exact zb_fit | exact hbf .. | (simp (disch := omega) only [up_no, up_nk, up_at, u_cp_no] <;> (first | assumption | omega)) | (simp only [hkF] <;> omega) | decide) only [S92, z_lt, hi2, j_cmp0, h1, h2, hx, z_eq, Nat.reduceEqDiff, Nat.gcd_zero_left, hkF, z_add, z_mul, up_at, up_no, up_nk, u_cp_no, ma_bd, ↓reduceIte, if_true, if_false, Option.toList, List.nil_append, List.cons_append]
      · simp (disch := first | assumption | omega | exact zb_fit | exact hbf .. | (simp (disch := omega) only [up_no, up_nk, up_at, u_cp_no] <;> (first | assumption | omega)) | (simp only [hkF] <;> omega) | decide) only [S92, z_lt, hi2, j_cmp0, h1, h2, hx, z_eq, Nat.reduceEqDiff, Nat.gcd_zero_left, hkF, z_add, z_mul, up_at, up_no, up_nk, u_cp_no, ma_bd, ↓reduceIte, if_true, if_false, Option.toList, List.nil_append, List.cons_append]
    · have h1 := j_cmp hb (show 0 < b by omega)
      have h2 := j_ne hb (show 0 < b by omega)
      have hr : a % b < b := Nat.mod_lt _ (by omega)
      have hm := h7 (some (Value.long T)) (some (Value.long B)) (some (Value.int x)) (some (.long (nJ b))) (some (.long (nJ b))) none (some (.int (nI i))) (some (.long (nJ (a % b)))) none
      have hd := @j_mod a b ha hb
      simp (disch := first | assumption | omega | exact zb_fit | exact hbf .. | (simp (disch := omega) only [up_no, up_nk, up_at, u_cp_no] <;> (first | assumption | omega)) | (simp only [hkF] <;> omega) | decide) only [S92, z_lt, hi2, h1, h2, hd, hm, z_eq, Nat.reduceEqDiff, hkF, z_add, z_mul, up_at, up_no, up_nk, u_cp_no, ma_bd, ↓reduceIte, if_true, if_false, Option.toList, List.nil_append, List.cons_append]
      rw [ih (a % b) hr b (i + 1) _ _ hb (by omega) (by omega) (by omega), ← Nat.gcd_rec]
theorem X92 {ro : ma_RO} {d : Nat} (σ : ma_H) (a b : Nat) (x : Int32) (ha : a < 2 ^ 63) (hb : b ≤ 99) (h0 : 0 < b) : ma_ev ro d 92 [.long (nJ a), .long (nJ b), .int x] SH σ = some (some (.long (if x = nI 0 then nJ a / nJ (Nat.gcd b a) else nJ b / nJ (Nat.gcd b a))), SH, σ) := by
  have h7 : ma_bef [some (Value.long (nJ a)), none, some (Value.long (nJ b)), none, some (Value.int x), some (Value.long (nJ a)), none, none, none, none, none, none] 7 = false := rfl
  have h9 : ma_bef [some (Value.long (nJ a)), none, some (Value.long (nJ b)), none, some (Value.int x), some (Value.long (nJ a)), none, some (Value.long (nJ b)), none, none, none, none] 9 = false := rfl
  have e := V92 (ro := ro) (d := d) σ (nJ a) (nJ b) x b a 0 none none ha (by omega) (by omega) (by omega)
  rw [← e]
  simp (disch := first | assumption | omega | exact zb_fit | exact hbf .. | (simp (disch := omega) only [up_no, up_nk, up_at, u_cp_no] <;> (first | assumption | omega)) | (simp only [hkF] <;> omega) | decide) only [E92, S92, hkF, z_add, z_mul, up_at, up_no, up_nk, u_cp_no, ma_bd, ↓reduceIte, if_true, if_false, Option.toList, List.nil_append, List.cons_append]
theorem V156 {ro : ma_RO} {d : Nat} (σ : ma_H) (T B : Int64) (x : Int32) : ∀ b a v9 v10, (v9 = none ∨ ∃ r, v9 = some (.long r)) → a < 2 ^ 63 → b < 2 ^ 63 → 0 < a + b →
    ma_rn ro d 156 (17, [some (.long T), none, some (.long B), none, some (.int x), some (.long (nJ a)), none, some (.long (nJ b)), none, v9, v10], [], SH, σ) = some (some (.long ((if x = nI 0 then T else B) / nJ (Nat.gcd b a))), SH, σ) := by
  intro b
  induction b using Nat.strongRecOn with
  | _ b ih =>
    intro a v9 v10 hv ha hb hab
    have hbf : ∀ (x0 x2 x4 x5 x10 : Option Value) (r : Int64) (z : Option Value), ma_bef [x0, none, x2, none, x4, x5, none, some (.long r), none, z, x10] 9 = false := fun _ _ _ _ _ _ _ => rfl
    rw [Sh156_17]
    by_cases h0 : b = 0
    · subst h0
      have h2 := j_ne ha (show 0 < a by omega)
      by_cases hx : x = nI 0
      · simp (disch := first | assumption | omega | exact zb_fit | exact hbf .. | (simp (disch := omega) only [up_no, up_nk, up_at, u_cp_no] <;> (first | assumption | omega)) | (simp only [hkF] <;> omega) | decide) only [S156, j_cmp0, h2, hx, z_eq, Nat.reduceEqDiff, Nat.gcd_zero_left, hkF, z_add, z_mul, up_at, up_no, up_nk, u_cp_no, ma_bd, ↓reduceIte, if_true, if_false, Option.toList, List.nil_append, List.cons_append]
      · simp (disch := first | assumption | omega | exact zb_fit | exact hbf .. | (simp (disch := omega) only [up_no, up_nk, up_at, u_cp_no] <;> (first | assumption | omega)) | (simp only [hkF] <;> omega) | decide) only [S156, j_cmp0, h2, hx, z_eq, Nat.reduceEqDiff, Nat.gcd_zero_left, hkF, z_add, z_mul, up_at, up_no, up_nk, u_cp_no, ma_bd, ↓reduceIte, if_true, if_false, Option.toList, List.nil_append, List.cons_append]
    · have h1 := j_cmp hb (show 0 < b by omega)
      have h2 := j_ne hb (show 0 < b by omega)
      have hr : a % b < b := Nat.mod_lt _ (by omega)
      have hm : ma_bef [some (Value.long T), none, some (Value.long B), none, some (Value.int x), some (.long (nJ b)), none, some (.long (nJ b)), none, some (.long (nJ (a % b))), none] 7 = false := rfl
      have hd := @j_mod a b ha hb
      simp (disch := first | assumption | omega | exact zb_fit | exact hbf .. | (simp (disch := omega) only [up_no, up_nk, up_at, u_cp_no] <;> (first | assumption | omega)) | (simp only [hkF] <;> omega) | decide) only [S156, h1, h2, hd, hm, z_eq, Nat.reduceEqDiff, hkF, z_add, z_mul, up_at, up_no, up_nk, u_cp_no, ma_bd, ↓reduceIte, if_true, if_false, Option.toList, List.nil_append, List.cons_append]
      rw [ih (a % b) hr b _ _ (.inr ⟨_, rfl⟩) hb (by omega) (by omega), ← Nat.gcd_rec]
theorem M156 {ro : ma_RO} {d : Nat} (σ : ma_H) (a b : Nat) (x : Int32) (ha : a < 2 ^ 63) (hb : b ≤ 99) (h0 : 0 < b) : ma_ev ro d 156 [.long (nJ a), .long (nJ b), .int x] SH σ = some (some (.long (if x = nI 0 then nJ a / nJ (Nat.gcd b a) else nJ b / nJ (Nat.gcd b a))), SH, σ) := by
  have h7 : ma_bef [some (Value.long (nJ a)), none, some (Value.long (nJ b)), none, some (Value.int x), some (Value.long (nJ a)), none, none, none, none, none] 7 = false := rfl
  have e := V156 (ro := ro) (d := d) σ (nJ a) (nJ b) x b a none none (.inl rfl) ha (by omega) (by omega)
  have hl := j_lt0 ha
  rw [show (if x = nI 0 then nJ a / nJ (Nat.gcd b a) else nJ b / nJ (Nat.gcd b a)) = (if x = nI 0 then nJ a else nJ b) / nJ (Nat.gcd b a) by split <;> rfl, ← e]
  simp (disch := first | assumption | omega | exact zb_fit | exact hbf .. | (simp (disch := omega) only [up_no, up_nk, up_at, u_cp_no] <;> (first | assumption | omega)) | (simp only [hkF] <;> omega) | decide) only [E156, S156, hl, hkF, z_add, z_mul, up_at, up_no, up_nk, u_cp_no, ma_bd, ↓reduceIte, if_true, if_false, Option.toList, List.nil_append, List.cons_append]
def tN (S : Nat → Int32) : Nat → Nat
  | 0 => 0
  | n + 1 => tN S n + clN (S (9 + n))
theorem tN_le {S : Nat → Int32} {nd : Nat} (hI : IvA S nd) (hn : nd ≤ 6) : ∀ k, k ≤ nd → tN S k ≤ 99 * k ∧ trF S k = nI (tN S k) := by
  intro k
  induction k with
  | zero => intro _; exact ⟨Nat.le_refl _, rfl⟩
  | succ k ih =>
    intro hk
    obtain ⟨i1, i2⟩ := ih (by omega)
    obtain ⟨t, ht, ht'⟩ := (hI k (by omega)).2.1
    have e : S (9 + k) = nI t := ht'
    unfold tN trF
    rw [e, clN_nI (by omega), i2, z_add]
    exact ⟨by omega, rfl⟩
theorem C77 {ro : ma_RO} {d : Nat} (σ : ma_H) (hG : G σ) (x : Int32) : ∃ r σ1 σ2, ma_ev ro (d + 3) 77 [.ref 0, .int x] SH σ = some (some (.long r), SH, σ1) ∧ ma_ev ro (d + 3) 158 [.ref 90, .int x] SH σ1 = some (some (.long r), SH, σ2) ∧ G σ2 := by
  obtain ⟨nd, cs, wo, k1, k2, k3, k4, ⟨i1, i2, i3, i4, i5⟩, k6⟩ := hG.1
  have hw := k6.1
  obtain ⟨w1, w2, w3, w4, w5⟩ := k6.1
  have w1' : σ 2 1 = nI nd := w1
  have e56 := V56 (ro := ro) (d := d + 1) σ 2 nd (σ 91) hkWh_1.2.1 k1 hw
  obtain ⟨t1, t2⟩ := tN_le i1 k1 nd (Nat.le_refl _)
  rw [t2] at e56
  have hbf : ∀ (x0 x1 x3 : Option Value) (r : Int64), ma_bef [x0, x1, some (.long r), none, x3] 4 = false := fun _ _ _ _ => rfl
  obtain ⟨⟨l', σ'⟩, e, hl, hs⟩ := ma_iter (fun x : ma_L × ma_H => ma_rn ro (d + 3) 158 (5, x.1, [], SH, x.2)) (fun k z => z.1 = [some (.ref 90), some (.int x), some (.long (nJ (tN (σ 91) k))), none, some (.int (nI k))] ∧ z.2 = σ) nd (by
    rintro k hk ⟨l, s⟩ ⟨hl, hs⟩
    simp only at hl hs
    subst hl; subst hs
    obtain ⟨t, ht, ht'⟩ := (i1 k hk).2.1
    have e9 : s 91 (9 + k) = nI t := ht'
    have p9 : 9 + k < 933 := by omega
    have ej := @j_of t (by omega)
    refine ⟨([some (.ref 90), some (.int x), some (.long (nJ (tN (s 91) (k + 1)))), none, some (.int (nI (k + 1)))], s), ?_, rfl, rfl⟩
    simp only
    rw [show tN (s 91) (k + 1) = tN (s 91) k + t by rw [show tN (s 91) (k + 1) = tN (s 91) k + clN (s 91 (9 + k)) from rfl, e9, clN_nI (by omega)], Sh158_5]
    simp (disch := first | assumption | omega | exact zb_fit | exact hbf .. | (simp (disch := omega) only [up_no, up_nk, up_at, u_cp_no] <;> (first | assumption | omega)) | (simp only [hkF] <;> omega) | decide) only [S158, k2, z_lt, hk, e9, ej, j_add, hkF, z_add, z_mul, up_at, up_no, up_nk, u_cp_no, ma_bd, ↓reduceIte, if_true, if_false, Option.toList, List.nil_append, List.cons_append]) ([some (.ref 90), some (.int x), some (.long (nJ 0)), none, some (.int (nI 0))], σ) ⟨rfl, rfl⟩
  simp only at e hl hs
  subst hl; subst hs
  by_cases h : x < nI 0 ∨ nI 1 < x
  · have e88 := V88t (ro := ro) (d := d + 2) σ' h
    have e102 := V102f (ro := ro) (d := d + 2) σ' h
    refine ⟨-9223372036854775808, σ', σ', ?_, ?_, hG⟩
    · simp (disch := first | assumption | omega | exact zb_fit | exact hbf .. | (simp (disch := omega) only [up_no, up_nk, up_at, u_cp_no] <;> (first | assumption | omega)) | (simp only [hkF] <;> omega) | decide) only [E77, S77, e88, z_eq, Nat.reduceEqDiff, hkF, z_add, z_mul, up_at, up_no, up_nk, u_cp_no, ma_bd, ↓reduceIte, if_true, if_false, Option.toList, List.nil_append, List.cons_append]
    · refine Eq.trans (?_ : _ = ma_rn ro (d + 3) 158 (5, [some (.ref 90), some (.int x), some (.long (nJ 0)), none, some (.int (nI 0))], [], SH, σ')) ?_
      · simp (disch := first | assumption | omega | exact zb_fit | exact hbf .. | (simp (disch := omega) only [up_no, up_nk, up_at, u_cp_no] <;> (first | assumption | omega)) | (simp only [hkF] <;> omega) | decide) only [E158, S158, hkF, z_add, z_mul, up_at, up_no, up_nk, u_cp_no, ma_bd, ↓reduceIte, if_true, if_false, Option.toList, List.nil_append, List.cons_append]
        rfl
      · rw [e, Sh158_5]
        simp (disch := first | assumption | omega | exact zb_fit | exact hbf .. | (simp (disch := omega) only [up_no, up_nk, up_at, u_cp_no] <;> (first | assumption | omega)) | (simp only [hkF] <;> omega) | decide) only [S158, k2, z_lt, Nat.lt_irrefl, e102, z_eq, Nat.reduceEqDiff, hkF, z_add, z_mul, up_at, up_no, up_nk, u_cp_no, ma_bd, ↓reduceIte, if_true, if_false, Option.toList, List.nil_append, List.cons_append]
  · have e88 := V88f (ro := ro) (d := d + 2) σ' h
    have e102 := V102t (ro := ro) (d := d + 2) σ' h
    by_cases h0 : nd = 0
    · subst h0
      refine ⟨-9223372036854775808, σ', σ', ?_, ?_, hG⟩
      · simp (disch := first | assumption | omega | exact zb_fit | exact hbf .. | (simp (disch := omega) only [up_no, up_nk, up_at, u_cp_no] <;> (first | assumption | omega)) | (simp only [hkF] <;> omega) | decide) only [E77, S77, e88, w1', z_eq, Nat.reduceEqDiff, hkF, z_add, z_mul, up_at, up_no, up_nk, u_cp_no, ma_bd, ↓reduceIte, if_true, if_false, Option.toList, List.nil_append, List.cons_append]
      · refine Eq.trans (?_ : _ = ma_rn ro (d + 3) 158 (5, [some (.ref 90), some (.int x), some (.long (nJ 0)), none, some (.int (nI 0))], [], SH, σ')) ?_
        · simp (disch := first | assumption | omega | exact zb_fit | exact hbf .. | (simp (disch := omega) only [up_no, up_nk, up_at, u_cp_no] <;> (first | assumption | omega)) | (simp only [hkF] <;> omega) | decide) only [E158, S158, hkF, z_add, z_mul, up_at, up_no, up_nk, u_cp_no, ma_bd, ↓reduceIte, if_true, if_false, Option.toList, List.nil_append, List.cons_append]
          rfl
        · rw [e, Sh158_5]
          simp (disch := first | assumption | omega | exact zb_fit | exact hbf .. | (simp (disch := omega) only [up_no, up_nk, up_at, u_cp_no] <;> (first | assumption | omega)) | (simp only [hkF] <;> omega) | decide) only [S158, k2, z_lt, Nat.lt_irrefl, e102, z_eq, Nat.reduceEqDiff, hkF, z_add, z_mul, up_at, up_no, up_nk, u_cp_no, ma_bd, ↓reduceIte, if_true, if_false, Option.toList, List.nil_append, List.cons_append]
    · have j1 := @j_of nd (by omega)
      have j2 := @j_of (tN (σ' 91) nd) (by omega)
      have eX := X92 (ro := ro) (d := d + 2) σ' (tN (σ' 91) nd) nd x (by omega) (by omega) (by omega)
      have eM := M156 (ro := ro) (d := d + 2) σ' (tN (σ' 91) nd) nd x (by omega) (by omega) (by omega)
      refine ⟨if x = nI 0 then nJ (tN (σ' 91) nd) / nJ (Nat.gcd nd (tN (σ' 91) nd)) else nJ nd / nJ (Nat.gcd nd (tN (σ' 91) nd)), σ', σ', ?_, ?_, hG⟩
      · simp (disch := first | assumption | omega | exact zb_fit | exact hbf .. | (simp (disch := omega) only [up_no, up_nk, up_at, u_cp_no] <;> (first | assumption | omega)) | (simp only [hkF] <;> omega) | decide) only [E77, S77, e88, w1', h0, e56, j1, j2, eX, z_eq, Nat.reduceEqDiff, hkF, z_add, z_mul, up_at, up_no, up_nk, u_cp_no, ma_bd, ↓reduceIte, if_true, if_false, Option.toList, List.nil_append, List.cons_append]
      · refine Eq.trans (?_ : _ = ma_rn ro (d + 3) 158 (5, [some (.ref 90), some (.int x), some (.long (nJ 0)), none, some (.int (nI 0))], [], SH, σ')) ?_
        · simp (disch := first | assumption | omega | exact zb_fit | exact hbf .. | (simp (disch := omega) only [up_no, up_nk, up_at, u_cp_no] <;> (first | assumption | omega)) | (simp only [hkF] <;> omega) | decide) only [E158, S158, hkF, z_add, z_mul, up_at, up_no, up_nk, u_cp_no, ma_bd, ↓reduceIte, if_true, if_false, Option.toList, List.nil_append, List.cons_append]
          rfl
        · rw [e, Sh158_5]
          simp (disch := first | assumption | omega | exact zb_fit | exact hbf .. | (simp (disch := omega) only [up_no, up_nk, up_at, u_cp_no] <;> (first | assumption | omega)) | (simp only [hkF] <;> omega) | decide) only [S158, k2, z_lt, Nat.lt_irrefl, e102, h0, j1, eM, z_eq, Nat.reduceEqDiff, hkF, z_add, z_mul, up_at, up_no, up_nk, u_cp_no, ma_bd, ↓reduceIte, if_true, if_false, Option.toList, List.nil_append, List.cons_append]
