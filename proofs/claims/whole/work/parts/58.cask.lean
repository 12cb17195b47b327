/-! Rows that are only read (the script, ABOVE); as, count, trace, struck. -/
theorem q_ialdR {ro : ma_RO} {d m pc : Nat} {L : ma_L} {st : List Value} {σ : ma_H} {k o n : Nat} {f : Nat → Int32} (hd : decode (ma_cd m) pc = .ok (.iaload, 1)) (hs : SH[o]? = none) (hr : ro o = some (n, f)) (hk : k < n) (hn : n < 2 ^ 31) : ma_rn ro d m (pc, L, .int (nI k) :: .ref o :: st, SH, σ) = ma_rn ro d m (pc + 1, L, .int (f k) :: st, SH, σ) := by
  refine q_go hd rfl ?_
  show ma_iald ro pc L (.int (nI k) :: .ref o :: st) SH σ = _
  unfold ma_iald
  dsimp only
  rw [hs]
  dsimp only
  rw [hr]
  dsimp only
  rw [if_pos (ma_ix_nI hk hn), nI_clamp (by omega)]
theorem q_alenR {ro : ma_RO} {d m pc : Nat} {L : ma_L} {st : List Value} {σ : ma_H} {o n : Nat} {f : Nat → Int32} (hd : decode (ma_cd m) pc = .ok (.arraylength, 1)) (hs : SH[o]? = none) (hr : ro o = some (n, f)) : ma_rn ro d m (pc, L, .ref o :: st, SH, σ) = ma_rn ro d m (pc + 1, L, .int (nI n) :: st, SH, σ) := by
  refine q_go hd rfl ?_
  have : ma_alen ro SH o = some n := by
    unfold ma_alen
    rw [hs]
    dsimp only
    rw [hr]
    rfl
  simp only [ma_ex, this]
  rfl
theorem SH_no {o : Nat} (h : 97 ≤ o) : SH[o]? = none := by
  have hl : SH.length = 97 := by decide
  exact List.getElem?_eq_none (by omega)
theorem A89_8 {ro : ma_RO} (hr : ro 3000000 = some (7, ma_abv)) {d : Nat} (v0 : Option Value) (st : List Value) (σ : ma_H) : ma_rn ro d 89 (8, [v0], .ref 3000000 :: st, SH, σ) = ma_rn ro d 89 (9, [v0], .int (nI 7) :: st, SH, σ) := q_alenR e89_8 (SH_no (by decide)) hr
theorem A89_16 {ro : ma_RO} (hr : ro 3000000 = some (7, ma_abv)) {d : Nat} (v0 : Option Value) (k : Nat) (hk : k < 7) (st : List Value) (σ : ma_H) : ma_rn ro d 89 (16, [v0], .int (nI k) :: .ref 3000000 :: st, SH, σ) = ma_rn ro d 89 (17, [v0], .int (ma_abv k) :: st, SH, σ) := q_ialdR e89_16 (SH_no (by decide)) hr hk (by decide)
theorem V89 {ro : ma_RO} (hr : ro 3000000 = some (7, ma_abv)) {d : Nat} (k : Nat) (hk : k < 7) (σ : ma_H) : ma_ev ro d 89 [.int (nI k)] SH σ = some (some (.int (ma_abv k)), SH, σ) := by
  have a8 := fun v0 st σ => A89_8 hr (d := d) v0 st σ
  have a16 := fun v0 st σ => A89_16 hr (d := d) v0 k hk st σ
  simp (disch := first | assumption | omega | exact zb_fit | exact hbf .. | (simp (disch := omega) only [up_no, up_nk, up_at, u_cp_no] <;> (first | assumption | omega)) | (simp only [hkF] <;> omega) | decide) only [E89, S89, a8, a16, z_lt, Nat.not_lt_zero, hk, hkF, z_add, z_mul, up_at, up_no, up_nk, u_cp_no, ma_bd, ↓reduceIte, if_true, if_false, Option.toList, List.nil_append, List.cons_append]
theorem V89n {ro : ma_RO} {d : Nat} (σ : ma_H) : ma_ev ro d 89 [.int (-1)] SH σ = some (some (.int (-1)), SH, σ) := by
  simp (disch := first | assumption | omega | exact zb_fit | exact hbf .. | (simp (disch := omega) only [up_no, up_nk, up_at, u_cp_no] <;> (first | assumption | omega)) | (simp only [hkF] <;> omega) | decide) only [E89, S89, m1_neg, hkF, z_add, z_mul, up_at, up_no, up_nk, u_cp_no, ma_bd, ↓reduceIte, if_true, if_false, Option.toList, List.nil_append, List.cons_append]
theorem V165 {ro : ma_RO} {d : Nat} (a b : Int32) (σ : ma_H) : ma_ev ro d 165 [.int a, .int b] SH σ = some (some (.int (zb (b = nI 0 ∨ b = a ∨ (nI 0 < b ∧ b < nI 4 ∧ a = b + nI 3)))), SH, σ) := by
  have f1 : ma_fitI .boolean (nI 1) = true := by decide
  have f0 : ma_fitI .boolean (nI 0) = true := by decide
  by_cases h0 : b = nI 0
  · rw [zb_t (.inl h0)]
    subst h0
    simp (disch := first | assumption | omega | exact zb_fit | exact hbf .. | (simp (disch := omega) only [up_no, up_nk, up_at, u_cp_no] <;> (first | assumption | omega)) | (simp only [hkF] <;> omega) | decide) only [E165, S165, f1, z_eq, Nat.reduceEqDiff, hkF, z_add, z_mul, up_at, up_no, up_nk, u_cp_no, ma_bd, ↓reduceIte, if_true, if_false, Option.toList, List.nil_append, List.cons_append]
  by_cases h1 : b = a
  · rw [zb_t (.inr (.inl h1))]
    simp (disch := first | assumption | omega | exact zb_fit | exact hbf .. | (simp (disch := omega) only [up_no, up_nk, up_at, u_cp_no] <;> (first | assumption | omega)) | (simp only [hkF] <;> omega) | decide) only [E165, S165, h0, h1, f1, hkF, z_add, z_mul, up_at, up_no, up_nk, u_cp_no, ma_bd, ↓reduceIte, if_true, if_false, Option.toList, List.nil_append, List.cons_append]
    split <;> rfl
  by_cases h2 : nI 0 < b
  · by_cases h3 : b < nI 4
    · by_cases h4 : a = b + nI 3
      · rw [zb_t (.inr (.inr ⟨h2, h3, h4⟩))]
        have h1' : ¬ b = b + nI 3 := fun e => h1 (e.trans h4.symm)
        simp (disch := first | assumption | omega | exact zb_fit | exact hbf .. | (simp (disch := omega) only [up_no, up_nk, up_at, u_cp_no] <;> (first | assumption | omega)) | (simp only [hkF] <;> omega) | decide) only [E165, S165, h0, h1', h2, h3, h4, f1, hkF, z_add, z_mul, up_at, up_no, up_nk, u_cp_no, ma_bd, ↓reduceIte, if_true, if_false, Option.toList, List.nil_append, List.cons_append]
      · rw [zb_f (by rintro (h | h | ⟨-, -, h⟩); exact h0 h; exact h1 h; exact h4 h)]
        simp (disch := first | assumption | omega | exact zb_fit | exact hbf .. | (simp (disch := omega) only [up_no, up_nk, up_at, u_cp_no] <;> (first | assumption | omega)) | (simp only [hkF] <;> omega) | decide) only [E165, S165, h0, h1, h2, h3, h4, f0, hkF, z_add, z_mul, up_at, up_no, up_nk, u_cp_no, ma_bd, ↓reduceIte, if_true, if_false, Option.toList, List.nil_append, List.cons_append]
    · rw [zb_f (by rintro (h | h | ⟨-, h, -⟩); exact h0 h; exact h1 h; exact h3 h)]
      simp (disch := first | assumption | omega | exact zb_fit | exact hbf .. | (simp (disch := omega) only [up_no, up_nk, up_at, u_cp_no] <;> (first | assumption | omega)) | (simp only [hkF] <;> omega) | decide) only [E165, S165, h0, h1, h2, h3, f0, hkF, z_add, z_mul, up_at, up_no, up_nk, u_cp_no, ma_bd, ↓reduceIte, if_true, if_false, Option.toList, List.nil_append, List.cons_append]
  · rw [zb_f (by rintro (h | h | ⟨h, -, -⟩); exact h0 h; exact h1 h; exact h2 h)]
    simp (disch := first | assumption | omega | exact zb_fit | exact hbf .. | (simp (disch := omega) only [up_no, up_nk, up_at, u_cp_no] <;> (first | assumption | omega)) | (simp only [hkF] <;> omega) | decide) only [E165, S165, h0, h1, h2, f0, hkF, z_add, z_mul, up_at, up_no, up_nk, u_cp_no, ma_bd, ↓reduceIte, if_true, if_false, Option.toList, List.nil_append, List.cons_append]
theorem kinds7 {P : Nat → Prop} (h0 : P 0) (h1 : P 1) (h2 : P 2) (h3 : P 3) (h4 : P 4) (h5 : P 5) (h6 : P 6) (k : Nat) (hk : k ≤ 6) : P k := by
  have : k = 0 ∨ k = 1 ∨ k = 2 ∨ k = 3 ∨ k = 4 ∨ k = 5 ∨ k = 6 := by omega
  rcases this with rfl | rfl | rfl | rfl | rfl | rfl | rfl <;> assumption
/-- whether kind a is kind b or one under that -/
def undK (a b : Nat) : Bool := decide (b = 0 ∨ a = b ∨ (0 < b ∧ b < 4 ∧ a = b + 3))
def abI (x : Int32) : Int32 := if x = -1 then -1 else ma_abv x.toNatClampNeg
def okI (x : Int32) : Prop := x = -1 ∨ ∃ k, k < 7 ∧ x = nI k
theorem abv_ok : ∀ k, k < 7 → ma_abv k = -1 ∨ ma_abv k = nI 0 ∨ ma_abv k = nI 1 ∨ ma_abv k = nI 2 ∨ ma_abv k = nI 3 := by decide
theorem V89g {ro : ma_RO} (hr : ro 3000000 = some (7, ma_abv)) {d : Nat} (x : Int32) (hx : okI x) (σ : ma_H) : ma_ev ro d 89 [.int x] SH σ = some (some (.int (abI x)), SH, σ) ∧ okI (abI x) := by
  rcases hx with rfl | ⟨k, hk, rfl⟩
  · exact ⟨V89n σ, .inl rfl⟩
  · have e : abI (nI k) = ma_abv k := by
      unfold abI
      rw [if_neg (by rw [z_ne1 (by omega)]; exact id), nI_clamp (by omega)]
    rw [e]
    refine ⟨V89 hr k hk σ, ?_⟩
    rcases abv_ok k hk with h | h | h | h | h
    · exact .inl h
    · exact .inr ⟨0, by decide, h⟩
    · exact .inr ⟨1, by decide, h⟩
    · exact .inr ⟨2, by decide, h⟩
    · exact .inr ⟨3, by decide, h⟩
def chkB (b : Nat) : Nat → Int32 → Bool
  | 0, _ => false
  | m + 1, x => decide (x = nI b) || chkB b m (abI x)
theorem chk_und : ∀ a, a ≤ 6 → ∀ b, b ≤ 6 → chkB b 3 (nI a) = undK a b := by decide +kernel
theorem X84 {ro : ma_RO} (hr : ro 3000000 = some (7, ma_abv)) {d : Nat} (σ : ma_H) (p nd a b : Nat) (w1 : σ 2 1 = nI nd) (k1 : nd ≤ 6) (hp : p < nd) (ha : a ≤ 6) (hb : b ≤ 6) (d1 : σ (1 + 1 + 1 + 1 + 2 * p) 1 = nI a) : ma_ev ro (d + 3) 84 [.ref 0, .int (nI p), .int (nI b)] SH σ = some (some (.int (if undK a b = true then σ (1 + 1 + 1 + 1 + 2 * p) 2 else -6)), SH, σ) := by
  have e50 := V50 (ro := ro) (d := d + 2) σ 2 p nd hkWh_1.2.1 w1 k1 hp
  have kd := hkWh_1.2.1.2.2.2 p (by omega)
  have kd1 := kd.1
  have e88 := V88f (ro := ro) (d := d + 2) (n := nI b) (m := nI 6) σ (by rw [z_lt (by omega) (by omega), z_lt (by omega) (by omega)]; omega)
  have hbf : ∀ (x0 x1 x2 x4 x5 : Option Value) (r : Nat), ma_bef [x0, x1, x2, some (.ref r), x4, x5] 4 = false := fun _ _ _ _ _ _ => rfl
  have H : ∀ m k x, k + m = 3 → okI x → ma_rn ro (d + 3) 84 (36, [some (.ref 0), some (.int (nI p)), some (.int (nI b)), some (.ref (2 + 1 + 1 + 2 * p)), some (.int x), some (.int (nI k))], [], SH, σ) = some (some (.int (if chkB b m x = true then σ (1 + 1 + 1 + 1 + 2 * p) 2 else -6)), SH, σ) := by
    intro m
    induction m with
    | zero =>
      intro k x hk hx
      have : k = 3 := by omega
      subst this
      rw [Sh84_36]
      simp (disch := first | assumption | omega | exact zb_fit | exact hbf .. | (simp (disch := omega) only [up_no, up_nk, up_at, u_cp_no] <;> (first | assumption | omega)) | (simp only [hkF] <;> omega) | decide) only [S84, z_lt, Nat.lt_irrefl, hkF, z_add, z_mul, up_at, up_no, up_nk, u_cp_no, ma_bd, ↓reduceIte, if_true, if_false, Option.toList, List.nil_append, List.cons_append]
      rfl
    | succ m ih =>
      intro k x hk hx
      have hk3 : k < 3 := by omega
      by_cases hxb : x = nI b
      · rw [show chkB b (m + 1) x = true by unfold chkB; rw [decide_eq_true hxb]; rfl, if_pos rfl, Sh84_36]
        simp (disch := first | assumption | omega | exact zb_fit | exact hbf .. | (simp (disch := omega) only [up_no, up_nk, up_at, u_cp_no] <;> (first | assumption | omega)) | (simp only [hkF] <;> omega) | decide) only [S84, z_lt, hk3, hxb, hkF, z_add, z_mul, up_at, up_no, up_nk, u_cp_no, ma_bd, ↓reduceIte, if_true, if_false, Option.toList, List.nil_append, List.cons_append]
      · obtain ⟨e89, hok⟩ := V89g hr (d := d + 2) x hx σ
        rw [show chkB b (m + 1) x = chkB b m (abI x) by rw [chkB, decide_eq_false hxb, Bool.false_or], ← ih (k + 1) (abI x) (by omega) hok, Sh84_36]
        simp (disch := first | assumption | omega | exact zb_fit | exact hbf .. | (simp (disch := omega) only [up_no, up_nk, up_at, u_cp_no] <;> (first | assumption | omega)) | (simp only [hkF] <;> omega) | decide) only [S84, z_lt, hk3, hxb, e89, hkF, z_add, z_mul, up_at, up_no, up_nk, u_cp_no, ma_bd, ↓reduceIte, if_true, if_false, Option.toList, List.nil_append, List.cons_append]
  rw [← chk_und a ha b hb, ← H 3 0 (nI a) rfl (.inr ⟨a, by omega, rfl⟩)]
  simp (disch := first | assumption | omega | exact zb_fit | exact hbf .. | (simp (disch := omega) only [up_no, up_nk, up_at, u_cp_no] <;> (first | assumption | omega)) | (simp only [hkF] <;> omega) | decide) only [E84, S84, e50, e88, d1, z_eq, Nat.reduceEqDiff, hkF, z_add, z_mul, up_at, up_no, up_nk, u_cp_no, ma_bd, ↓reduceIte, if_true, if_false, Option.toList, List.nil_append, List.cons_append]
theorem C84 {ro : ma_RO} (hr : ro 3000000 = some (7, ma_abv)) {d : Nat} (σ : ma_H) (hG : G σ) (x y : Int32) : ∃ r σ1 σ2, ma_ev ro (d + 3) 84 [.ref 0, .int x, .int y] SH σ = some (some (.int r), SH, σ1) ∧ ma_ev ro (d + 3) 174 [.ref 90, .int x, .int y] SH σ1 = some (some (.int r), SH, σ2) ∧ G σ2 := by
  obtain ⟨nd, cs, wo, k1, k2, k3, k4, ⟨i1, i2, i3, i4, i5, i6⟩, k6⟩ := hG.1
  obtain ⟨w1, w2, w3, w4, w5⟩ := k6.1
  have kw := hkWh_1.2.1
  rcases dcases x nd (by omega) with ⟨p, hp, rfl⟩ | hx
  · have e50 := V50 (ro := ro) (d := d + 2) σ 2 p nd kw w1 k1 hp
    have kd := kw.2.2.2 p (by omega)
    have kd1 := kd.1
    have e103 := V103p (ro := ro) (d := d + 1) σ p nd k1 k2 hp
    obtain ⟨a, ha, ha'⟩ := (i5 p hp).1
    have d1 : σ (1 + 1 + 1 + 1 + 2 * p) 1 = nI a := ((w5 p hp).1 1 (by decide)).trans ha'
    have d2 : σ (1 + 1 + 1 + 1 + 2 * p) 2 = σ 91 (46 + p) := (w5 p hp).1 2 (by decide)
    have p1 : 40 + p < 933 := by omega
    have p2 : 46 + p < 933 := by omega
    by_cases h : y < nI 0 ∨ nI 6 < y
    · have e88 := V88t (ro := ro) (d := d + 2) σ h
      have e102 := V102f (ro := ro) (d := d + 2) σ h
      exact ⟨_, σ, σ, by simp (disch := first | assumption | omega | exact zb_fit | exact hbf .. | (simp (disch := omega) only [up_no, up_nk, up_at, u_cp_no] <;> (first | assumption | omega)) | (simp only [hkF] <;> omega) | decide) only [E84, S84, e50, e88, z_eq, Nat.reduceEqDiff, hkF, z_add, z_mul, up_at, up_no, up_nk, u_cp_no, ma_bd, ↓reduceIte, if_true, if_false, Option.toList, List.nil_append, List.cons_append]; rfl, by simp (disch := first | assumption | omega | exact zb_fit | exact hbf .. | (simp (disch := omega) only [up_no, up_nk, up_at, u_cp_no] <;> (first | assumption | omega)) | (simp only [hkF] <;> omega) | decide) only [E174, S174, e103, e102, z_eq, Nat.reduceEqDiff, hkF, z_add, z_mul, up_at, up_no, up_nk, u_cp_no, ma_bd, ↓reduceIte, if_true, if_false, Option.toList, List.nil_append, List.cons_append], hG⟩
    · obtain ⟨b, hb, rfl⟩ := Rg_of (by decide) h
      have e102 := V102t (ro := ro) (d := d + 2) σ h
      refine ⟨_, σ, σ, X84 hr σ p nd a b w1 k1 hp ha hb d1, ?_, hG⟩
      have e165 := V165 (ro := ro) (d := d + 2) (nI a) (nI b) σ
      by_cases hu : undK a b = true
      · have hu' := of_decide_eq_true hu
        have hz : (nI b = nI 0 ∨ nI b = nI a ∨ nI 0 < nI b ∧ nI b < nI 4 ∧ nI a = nI b + nI 3) := by
          rw [z_eq (by omega) (by omega), z_eq (by omega) (by omega), z_lt (by omega) (by omega), z_lt (by omega) (by omega), z_add, z_eq (by omega) (by omega)]
          rcases hu' with h | h | h
          · exact .inl h
          · exact .inr (.inl h.symm)
          · exact .inr (.inr h)
        rw [zb_t hz] at e165
        rw [if_pos hu]
        simp (disch := first | assumption | omega | exact zb_fit | exact hbf .. | (simp (disch := omega) only [up_no, up_nk, up_at, u_cp_no] <;> (first | assumption | omega)) | (simp only [hkF] <;> omega) | decide) only [E174, S174, e103, e102, ha', e165, d2, z_eq, Nat.reduceEqDiff, hkF, z_add, z_mul, up_at, up_no, up_nk, u_cp_no, ma_bd, ↓reduceIte, if_true, if_false, Option.toList, List.nil_append, List.cons_append]
      · have hu' : ¬ (b = 0 ∨ a = b ∨ (0 < b ∧ b < 4 ∧ a = b + 3)) := fun k => hu (decide_eq_true k)
        have hz : ¬ (nI b = nI 0 ∨ nI b = nI a ∨ nI 0 < nI b ∧ nI b < nI 4 ∧ nI a = nI b + nI 3) := by
          rw [z_eq (by omega) (by omega), z_eq (by omega) (by omega), z_lt (by omega) (by omega), z_lt (by omega) (by omega), z_add, z_eq (by omega) (by omega)]
          rintro (h | h | h)
          · exact hu' (.inl h)
          · exact hu' (.inr (.inl h.symm))
          · exact hu' (.inr (.inr h))
        rw [zb_f hz] at e165
        rw [if_neg hu]
        simp (disch := first | assumption | omega | exact zb_fit | exact hbf .. | (simp (disch := omega) only [up_no, up_nk, up_at, u_cp_no] <;> (first | assumption | omega)) | (simp only [hkF] <;> omega) | decide) only [E174, S174, e103, e102, ha', e165, z_eq, Nat.reduceEqDiff, hkF, z_add, z_mul, up_at, up_no, up_nk, u_cp_no, ma_bd, ↓reduceIte, if_true, if_false, Option.toList, List.nil_append, List.cons_append]
  · have e50 := V50n (ro := ro) (d := d + 2) σ 2 nd x kw w1 hx
    have e103 := V103n (ro := ro) (d := d + 1) σ x nd k1 k2 hx
    exact ⟨_, σ, σ, by simp (disch := first | assumption | omega | exact zb_fit | exact hbf .. | (simp (disch := omega) only [up_no, up_nk, up_at, u_cp_no] <;> (first | assumption | omega)) | (simp only [hkF] <;> omega) | decide) only [E84, S84, e50, hkF, z_add, z_mul, up_at, up_no, up_nk, u_cp_no, ma_bd, ↓reduceIte, if_true, if_false, Option.toList, List.nil_append, List.cons_append]; rfl, by simp (disch := first | assumption | omega | exact zb_fit | exact hbf .. | (simp (disch := omega) only [up_no, up_nk, up_at, u_cp_no] <;> (first | assumption | omega)) | (simp only [hkF] <;> omega) | decide) only [E174, S174, e103, z_eq, Nat.reduceEqDiff, hkF, z_add, z_mul, up_at, up_no, up_nk, u_cp_no, ma_bd, ↓reduceIte, if_true, if_false, Option.toList, List.nil_append, List.cons_append], hG⟩
