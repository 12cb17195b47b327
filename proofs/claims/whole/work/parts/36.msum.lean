/-! The sum of the reference: one token, one clause. -/
def tr (σ : ma_H) : List Bool → Prop
  | [] => True
  | b :: r => σ 95 r.length = nI b.toNat ∧ tr σ r
theorem tr_up {σ : ma_H} {k : Nat} {v : Int32} (st : List Bool) (h : tr σ st) (hk : st.length ≤ k) : tr (ma_up σ 95 k v) st := by
  induction st with
  | nil => trivial
  | cons b r ih =>
    simp only [List.length_cons] at hk
    exact ⟨by rw [up_nk (by omega)]; exact h.1, ih h.2 (by omega)⟩
theorem nar_zb {p : Prop} [Decidable p] : vp_nar .boolean (zb p) = zb p := by
  by_cases h : p
  · rw [zb_t h]; decide
  · rw [zb_f h]; decide
theorem nar0 : vp_nar .boolean (nI 0) = nI 0 := by decide
theorem nar1 : vp_nar .boolean (nI 1) = nI 1 := by decide
theorem m1_neg : ((-1 : Int32) < nI 0) = True := by decide
theorem m2_facts : ((-2 : Int32) < nI 0) = True ∧ ((-2 : Int32) = -1) = False ∧ ((-10 : Int32) < -2) = True := by decide
theorem m3_facts : ((-3 : Int32) < nI 0) = True ∧ ((-3 : Int32) = -1) = False ∧ ((-10 : Int32) < -3) = True ∧ ((-3 : Int32) = -2) = False := by decide
theorem z_m1 {n : Nat} (h : 0 < n) : nI n + (-1) = nI (n - 1) := by
  rw [← Int32.sub_eq_add_neg, show (1 : Int32) = nI 1 from rfl, z_sub h]
theorem nI8 : ¬ nI 8 = 0 := by decide
theorem nI4 : ¬ nI 4 = 0 := by decide
theorem nI32 : ¬ nI 32 = 0 := by decide
theorem L123b {ro : ma_RO} {d : Nat} {e i : Nat} (σ : ma_H) (byM : Nat → Int32) (hby : ∀ w, w < 6 → σ 94 w = byM w) (v1 : Option Value) (sum : Int32) (fr many : Nat) (v7 v8 v9 v10 : Option Value) (t : Nat × Nat × Nat) (st : List Bool) (ht : tkOk t) (hfe : fr + many = e) (hie : i < e) (he : e ≤ 933) (hx : σ 91 i = mc t) (k : Nat) (hk : dpT (some st.length) t = some k) (hst : st.length ≤ 20) (htr : tr σ st) :
    ∃ v7' v8' v9' v10' σ', ma_rn ro d 123 (121, [some (.ref 90), v1, some (.int sum), some (.int (nI many)), some (.int (nI fr)), some (.int (nI st.length)), some (.int (nI i)), v7, v8, v9, v10], [], SH, σ) = ma_rn ro d 123 (121, [some (.ref 90), v1, some (.int sum), some (.int (nI many)), some (.int (nI fr)), some (.int (nI (evT byM st t).length)), some (.int (nI (i + 1))), v7', v8', v9', v10'], [], SH, σ') ∧ tr σ' (evT byM st t) ∧ ∀ a, ¬ a = 95 → σ' a = σ a := by
  obtain ⟨w, hw, v⟩ := t
  obtain ⟨h1, h2, h3⟩ := ht
  simp only at h1 h2 h3
  have hi' : i < 933 := by omega
  by_cases hw6 : w < 6
  · have e1 : mc (w, hw, v) = nI (w + 8 * hw + 32 * v) := if_pos hw6
    have f0 := mc_f0 w hw6 hw h2 v h3; have f1 := mc_f1 w hw6 hw h2 v h3; have f2 := mc_f2 w hw6 hw h2 v h3; have f3 := mc_f3 w hw6 hw h2 v h3
    have e2 : evT byM st (w, hw, v) = cmpT (byM w) hw v :: st := if_pos hw6
    have hb := hby w hw6
    have ht20 : st.length < 64 := by omega
    rw [e1] at hx
    rw [e2]
    refine ⟨some (.int (nI (w + 8 * hw + 32 * v))), some (.int (byM w)), some (.int (nI hw)), some (.int (nI v)), ma_up σ 95 st.length (zb (cmpT (byM w) hw v = true)), ?_, ⟨by rw [up_at, z_bool], tr_up st htr (Nat.le_refl _)⟩, fun a ha => up_no ha⟩
    rw [Sh123_121]
    have h2' : hw = 0 ∨ hw = 1 ∨ hw = 2 := by omega
    rcases h2' with rfl | rfl | rfl
    · by_cases hc : byM w < nI v <;> simp (disch := first | assumption | omega | exact zb_fit | (simp (disch := omega) only [up_no, up_nk, up_at, u_cp_no] <;> (first | assumption | omega)) | (simp only [hkF] <;> omega) | decide) only [S123, z_lt, hfe, hie, hx, nI8, nI4, nI32, f0, f1, f2, f3, hb, z_eq, Nat.reduceEqDiff, cmpT, hc, nar1, nar0, zb, decide_true, decide_false, Bool.false_eq_true, List.length_cons, hkF, z_add, z_mul, up_at, up_no, up_nk, u_cp_no, ma_bd, if_true, if_false, Option.toList, List.nil_append, List.cons_append]
    · by_cases hc : byM w = nI v <;> simp (disch := first | assumption | omega | exact zb_fit | (simp (disch := omega) only [up_no, up_nk, up_at, u_cp_no] <;> (first | assumption | omega)) | (simp only [hkF] <;> omega) | decide) only [S123, z_lt, hfe, hie, hx, nI8, nI4, nI32, f0, f1, f2, f3, hb, z_eq, Nat.reduceEqDiff, cmpT, hc, nar1, nar0, zb, decide_true, decide_false, Bool.false_eq_true, List.length_cons, hkF, z_add, z_mul, up_at, up_no, up_nk, u_cp_no, ma_bd, if_true, if_false, Option.toList, List.nil_append, List.cons_append]
    · by_cases hc : nI v < byM w <;> simp (disch := first | assumption | omega | exact zb_fit | (simp (disch := omega) only [up_no, up_nk, up_at, u_cp_no] <;> (first | assumption | omega)) | (simp only [hkF] <;> omega) | decide) only [S123, z_lt, hfe, hie, hx, nI8, nI4, nI32, f0, f1, f2, f3, hb, z_eq, Nat.reduceEqDiff, cmpT, hc, nar1, nar0, zb, decide_true, decide_false, Bool.false_eq_true, List.length_cons, hkF, z_add, z_mul, up_at, up_no, up_nk, u_cp_no, ma_bd, if_true, if_false, Option.toList, List.nil_append, List.cons_append]
  · have h4 : w = 6 ∨ w = 7 ∨ w = 8 := by omega
    rcases h4 with rfl | rfl | rfl
    · have e1 : mc (6, hw, v) = -1 := rfl
      rw [e1] at hx
      cases st with
      | nil => cases hk
      | cons b r =>
        have e2 : evT byM (b :: r) (6, hw, v) = (!b) :: r := rfl
        rw [e2]
        obtain ⟨t1, t2⟩ := htr
        simp only [List.length_cons] at hst ⊢
        have hr : r.length < 64 := by omega
        refine ⟨some (.int (-1)), v8, v9, v10, ma_up σ 95 r.length (nI (!b).toNat), ?_, ⟨by rw [up_at], tr_up r t2 (Nat.le_refl _)⟩, fun a ha => up_no ha⟩
        rw [Sh123_121]
        cases b <;> simp only [Bool.toNat_false, Bool.toNat_true, Bool.not_true, Bool.not_false] at t1 ⊢ <;> simp (disch := first | assumption | omega | exact zb_fit | (simp (disch := omega) only [up_no, up_nk, up_at, u_cp_no] <;> (first | assumption | omega)) | (simp only [hkF] <;> omega) | decide) only [S123, z_lt, hfe, hie, hx, m1_neg, z_eq, z_sub, Nat.add_sub_cancel, t1, nar1, nar0, Nat.reduceEqDiff, hkF, z_add, z_mul, up_at, up_no, up_nk, u_cp_no, ma_bd, if_true, if_false, Option.toList, List.nil_append, List.cons_append]
    · have e1 : mc (7, hw, v) = -2 := rfl
      rw [e1] at hx
      cases st with
      | nil => cases hk
      | cons b r => cases r with
        | nil => cases hk
        | cons c r =>
          have e2 : evT byM (b :: c :: r) (7, hw, v) = (c && b) :: r := rfl
          rw [e2]
          obtain ⟨t1, t2, t3⟩ := htr
          simp only [List.length_cons] at hst t1 ⊢
          have hr : r.length < 64 := by omega
          have hr1 : r.length + 1 < 64 := by omega
          refine ⟨some (.int (-2)), v8, v9, v10, ma_up σ 95 r.length (nI (c && b).toNat), ?_, ⟨by rw [up_at], tr_up r t3 (Nat.le_refl _)⟩, fun a ha => up_no ha⟩
          rw [Sh123_121]
          cases b <;> cases c <;> simp only [Bool.toNat_false, Bool.toNat_true, Bool.and_true, Bool.and_false, Bool.or_true, Bool.or_false, Bool.true_and, Bool.false_and, Bool.true_or, Bool.false_or, Bool.and_self, Bool.or_self] at t1 t2 ⊢ <;> simp (disch := first | assumption | omega | exact zb_fit | (simp (disch := omega) only [up_no, up_nk, up_at, u_cp_no] <;> (first | assumption | omega)) | (simp only [hkF] <;> omega) | decide) only [S123, z_lt, hfe, hie, hx, m2_facts, z_eq, z_m1, z_sub, Nat.add_sub_cancel, t1, t2, nar1, nar0, Nat.reduceEqDiff, hkF, z_add, z_mul, up_at, up_no, up_nk, u_cp_no, ma_bd, if_true, if_false, Option.toList, List.nil_append, List.cons_append]
    · have e1 : mc (8, hw, v) = -3 := rfl
      rw [e1] at hx
      cases st with
      | nil => cases hk
      | cons b r => cases r with
        | nil => cases hk
        | cons c r =>
          have e2 : evT byM (b :: c :: r) (8, hw, v) = (c || b) :: r := rfl
          rw [e2]
          obtain ⟨t1, t2, t3⟩ := htr
          simp only [List.length_cons] at hst t1 ⊢
          have hr : r.length < 64 := by omega
          have hr1 : r.length + 1 < 64 := by omega
          refine ⟨some (.int (-3)), v8, v9, v10, ma_up σ 95 r.length (nI (c || b).toNat), ?_, ⟨by rw [up_at], tr_up r t3 (Nat.le_refl _)⟩, fun a ha => up_no ha⟩
          rw [Sh123_121]
          cases b <;> cases c <;> simp only [Bool.toNat_false, Bool.toNat_true, Bool.and_true, Bool.and_false, Bool.or_true, Bool.or_false, Bool.true_and, Bool.false_and, Bool.true_or, Bool.false_or, Bool.and_self, Bool.or_self] at t1 t2 ⊢ <;> simp (disch := first | assumption | omega | exact zb_fit | (simp (disch := omega) only [up_no, up_nk, up_at, u_cp_no] <;> (first | assumption | omega)) | (simp only [hkF] <;> omega) | decide) only [S123, z_lt, hfe, hie, hx, m3_facts, z_eq, z_m1, z_sub, Nat.add_sub_cancel, t1, t2, nar1, nar0, Nat.reduceEqDiff, hkF, z_add, z_mul, up_at, up_no, up_nk, u_cp_no, ma_bd, if_true, if_false, Option.toList, List.nil_append, List.cons_append]
