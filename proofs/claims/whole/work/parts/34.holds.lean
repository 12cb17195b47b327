/-! holds of the class: the run of the steps. -/
theorem L23b {ro : ma_RO} {d : Nat} {h a e f : Nat} (hh : hk_cls h = 2) (hl : hk_len (h + 3) = 100) (hal : hk_alen (h + 3) = 100) (ha : hk_cls a = 1) (m : Int32) (σ : ma_H) (v1 v7 : Option Value) (t : Nat × Nat × Nat) (st : List Bool) (ht : tkOk t) (hfe : f < e) (he : e ≤ 100) (hx : σ (h + 3) f = xc t) (k : Nat) (hk : dpT (some st.length) t = some k) (hst : st.length ≤ 20) :
    ma_rn ro (d + 2) 23 (10, [some (.ref h), v1, some (.int (nI e)), some (.ref a), some (.int m), some (.int (nI (enc st))), some (.int (nI f)), v7], [], SH, σ) = ma_rn ro (d + 2) 23 (10, [some (.ref h), v1, some (.int (nI e)), some (.ref a), some (.int m), some (.int (nI (enc (evT (byX σ a m) st t)))), some (.int (nI (f + 1))), some (.int (xc t))], [], SH, σ) := by
  obtain ⟨w, hw, v⟩ := t
  obtain ⟨h1, h2, h3⟩ := ht
  simp only at h1 h2 h3
  have hf' : f < 100 := by omega
  have hel : enc st < 2 ^ 31 := Nat.lt_of_lt_of_le (enc_lt st) (Nat.pow_le_pow_right (by decide) (by omega))
  rw [Sh23_10]
  by_cases hw6 : w < 6
  · have e1 : xc (w, hw, v) = nI (w + 16 * hw + 256 * v) := if_pos hw6
    have f3 := xc_f3 w hw6 hw h2 v h3; have f4 := xc_f4 w hw6 hw h2 v h3; have f5 := xc_f5 w hw6 hw h2 v h3
    have e2 : evT (byX σ a m) st (w, hw, v) = cmpT (byX σ a m w) hw v :: st := if_pos hw6
    rw [e1] at hx
    rw [e2, e1]
    simp (disch := first | assumption | omega | exact zb_fit | (simp (disch := omega) only [up_no, up_nk, up_at, u_cp_no] <;> (first | assumption | omega)) | (simp only [hkF] <;> omega) | decide) only [S23, hx, hal, z_lt, hfe, hf', f3, f4, f5, V24, zb_0, hkF, z_add, z_mul, up_at, up_no, up_nk, u_cp_no, ma_bd, if_true, if_false, Option.toList, List.nil_append, List.cons_append]
    cases cmpT (byX σ a m w) hw v
    · simp (disch := first | assumption | omega | exact zb_fit | (simp (disch := omega) only [up_no, up_nk, up_at, u_cp_no] <;> (first | assumption | omega)) | (simp only [hkF] <;> omega) | decide) only [z_shl, z_or, enc_push0, Bool.false_eq_true, not_false_iff, hkF, z_add, z_mul, up_at, up_no, up_nk, u_cp_no, ma_bd, if_true, if_false, Option.toList, List.nil_append, List.cons_append]
    · simp (disch := first | assumption | omega | exact zb_fit | (simp (disch := omega) only [up_no, up_nk, up_at, u_cp_no] <;> (first | assumption | omega)) | (simp only [hkF] <;> omega) | decide) only [z_shl, z_or, enc_push1, not_true, hkF, z_add, z_mul, up_at, up_no, up_nk, u_cp_no, ma_bd, if_true, if_false, Option.toList, List.nil_append, List.cons_append]
  · have h4 : w = 6 ∨ w = 7 ∨ w = 8 := by omega
    rcases h4 with rfl | rfl | rfl
    · have e1 : xc (6, hw, v) = nI 6 := rfl
      rw [e1] at hx
      cases st with
      | nil => cases hk
      | cons b r =>
        have e2 : evT (byX σ a m) (b :: r) (6, hw, v) = (!b) :: r := rfl
        rw [e2, e1]
        simp (disch := first | assumption | omega | exact zb_fit | (simp (disch := omega) only [up_no, up_nk, up_at, u_cp_no] <;> (first | assumption | omega)) | (simp only [hkF] <;> omega) | decide) only [S23, hx, hal, z_lt, hfe, hf', z_xor, enc_not, hkF, z_add, z_mul, up_at, up_no, up_nk, u_cp_no, ma_bd, if_true, if_false, Option.toList, List.nil_append, List.cons_append]
    · have e1 : xc (7, hw, v) = nI 7 := rfl
      rw [e1] at hx
      cases st with
      | nil => cases hk
      | cons b r => cases r with
        | nil => cases hk
        | cons c r =>
          have e2 : evT (byX σ a m) (b :: c :: r) (7, hw, v) = (c && b) :: r := rfl
          rw [e2, e1]
          simp (disch := first | assumption | omega | exact zb_fit | (simp (disch := omega) only [up_no, up_nk, up_at, u_cp_no] <;> (first | assumption | omega)) | (simp only [hkF] <;> omega) | decide) only [S23, hx, hal, z_lt, hfe, hf', z_eq, Nat.reduceEqDiff, z_m2, z_shr, z_or, z_and, Nat.pow_one, enc_both, hkF, z_add, z_mul, up_at, up_no, up_nk, u_cp_no, ma_bd, if_true, if_false, Option.toList, List.nil_append, List.cons_append]
    · have e1 : xc (8, hw, v) = nI 8 := rfl
      rw [e1] at hx
      cases st with
      | nil => cases hk
      | cons b r => cases r with
        | nil => cases hk
        | cons c r =>
          have e2 : evT (byX σ a m) (b :: c :: r) (8, hw, v) = (c || b) :: r := rfl
          rw [e2, e1]
          simp (disch := first | assumption | omega | exact zb_fit | (simp (disch := omega) only [up_no, up_nk, up_at, u_cp_no] <;> (first | assumption | omega)) | (simp only [hkF] <;> omega) | decide) only [S23, hx, hal, z_lt, hfe, hf', z_eq, Nat.reduceEqDiff, z_shr, z_or, z_and, Nat.pow_one, enc_either, hkF, z_add, z_mul, up_at, up_no, up_nk, u_cp_no, ma_bd, if_true, if_false, Option.toList, List.nil_append, List.cons_append]
theorem dp_none (ts : List (Nat × Nat × Nat)) : ts.foldl dpT none = none := by
  induction ts with
  | nil => rfl
  | cons t ts ih => exact ih
theorem dp_le {k : Nat} {t : Nat × Nat × Nat} {k' : Nat} (h : dpT (some k) t = some k') (hk : k ≤ 20) : k' ≤ 20 := by
  unfold dpT at h; simp only at h
  split at h
  · split at h <;> simp at h; omega
  · split at h
    · split at h <;> simp at h; omega
    · split at h <;> simp at h; omega
theorem L23 {ro : ma_RO} {d : Nat} {h a : Nat} (hh : hk_cls h = 2) (hl : hk_len (h + 3) = 100) (hal : hk_alen (h + 3) = 100) (ha : hk_cls a = 1) (m : Int32) (σ : ma_H) (v1 : Option Value) (ts : List (Nat × Nat × Nat)) :
    ∀ (e f : Nat) (v7 : Option Value) (st : List Bool) (k : Nat), f + ts.length = e → e ≤ 100 → (∀ t ∈ ts, tkOk t) → (∀ i (hi : i < ts.length), σ (h + 3) (f + i) = xc (ts[i])) → ts.foldl dpT (some st.length) = some k → st.length ≤ 20 →
    ∃ v7', ma_rn ro (d + 2) 23 (10, [some (.ref h), v1, some (.int (nI e)), some (.ref a), some (.int m), some (.int (nI (enc st))), some (.int (nI f)), v7], [], SH, σ) = ma_rn ro (d + 2) 23 (123, [some (.ref h), v1, some (.int (nI e)), some (.ref a), some (.int m), some (.int (nI (enc (ts.foldl (evT (byX σ a m)) st)))), some (.int (nI e)), v7'], [], SH, σ) := by
  induction ts with
  | nil =>
    intro e f v7 st k h1 h2 h3 h4 h5 h6
    simp only [List.length_nil, Nat.add_zero] at h1
    subst h1
    refine ⟨v7, ?_⟩
    rw [Sh23_10]
    simp (disch := first | assumption | omega | exact zb_fit | (simp (disch := omega) only [up_no, up_nk, up_at, u_cp_no] <;> (first | assumption | omega)) | (simp only [hkF] <;> omega) | decide) only [S23, z_lt, Nat.lt_irrefl, List.foldl_nil, hkF, z_add, z_mul, up_at, up_no, up_nk, u_cp_no, ma_bd, if_true, if_false, Option.toList, List.nil_append, List.cons_append]
  | cons t ts ih =>
    intro e f v7 st k h1 h2 h3 h4 h5 h6
    simp only [List.length_cons] at h1
    cases hd : dpT (some st.length) t with
    | none => simp only [List.foldl_cons, hd, dp_none] at h5; cases h5
    | some k1 =>
      have hx : σ (h + 3) f = xc t := h4 0 (by simp)
      rw [L23b hh hl hal ha m σ v1 v7 t st (h3 t (by simp)) (by omega) h2 hx k1 hd h6]
      have hlen := evT_len (by' := byX σ a m) hd
      simp only [List.foldl_cons, hd] at h5
      obtain ⟨v7', e7⟩ := ih e (f + 1) (some (.int (xc t))) (evT (byX σ a m) st t) k (by omega) h2 (fun x hx => h3 x (by simp [hx])) (fun i hi => by
        have := h4 (i + 1) (by simp; omega)
        simp only [List.getElem_cons_succ] at this
        rw [← this]; congr 1; omega) (by rw [hlen]; exact h5) (by rw [hlen]; exact dp_le hd h6)
      exact ⟨v7', e7⟩
theorem ev_len {by' : Nat → Int32} (ts : List (Nat × Nat × Nat)) : ∀ (st : List Bool) (k : Nat), ts.foldl dpT (some st.length) = some k → (ts.foldl (evT by') st).length = k := by
  induction ts with
  | nil => intro st k h; simpa using h
  | cons t ts ih =>
    intro st k h
    cases hd : dpT (some st.length) t with
    | none => simp only [List.foldl_cons, hd, dp_none] at h; cases h
    | some k1 =>
      have hlen := evT_len (by' := by') hd
      simp only [List.foldl_cons, hd] at h ⊢
      exact ih _ _ (by rw [hlen]; exact h)
theorem V23 {ro : ma_RO} {d : Nat} {h a : Nat} (hh : hk_cls h = 2) (hl : hk_len (h + 3) = 100) (hal : hk_alen (h + 3) = 100) (ha : hk_cls a = 1) (m : Int32) (σ : ma_H) (ts : List (Nat × Nat × Nat)) (f : Nat) (h1 : f + ts.length ≤ 100) (h2 : ∀ t ∈ ts, tkOk t) (h3 : ∀ i (hi : i < ts.length), σ (h + 3) (f + i) = xc (ts[i])) (h4 : ts.foldl dpT (some 0) = some 1) :
    ma_ev ro (d + 2) 23 [.ref h, .int (nI f), .int (nI (f + ts.length)), .ref a, .int m] SH σ = some (some (.int (zb ((ts.foldl (evT (byX σ a m)) []).headD false = true))), SH, σ) := by
  obtain ⟨v7', e⟩ := L23 (ro := ro) (d := d) hh hl hal ha m σ (some (.int (nI f))) ts (f + ts.length) f none [] 1 rfl h1 h2 h3 h4 (by simp)
  simp (disch := first | assumption | omega | exact zb_fit | (simp (disch := omega) only [up_no, up_nk, up_at, u_cp_no] <;> (first | assumption | omega)) | (simp only [hkF] <;> omega) | decide) only [E23, S23, z_lt, Nat.not_lt_zero, hkF, z_add, z_mul, up_at, up_no, up_nk, u_cp_no, ma_bd, if_true, if_false, Option.toList, List.nil_append, List.cons_append]
  have hz : (if (0 : Nat) < f then nI f else nI 0) = nI f := by
    split
    · rfl
    · congr 1; omega
  rw [hz]
  refine Eq.trans e ?_
  have hl1 := ev_len (by' := byX σ a m) ts [] 1 h4
  match hq : ts.foldl (evT (byX σ a m)) [] with
  | [] => rw [hq] at hl1; cases hl1
  | _ :: _ :: _ => rw [hq] at hl1; cases hl1
  | [true] => simp (disch := first | assumption | omega | exact zb_fit | (simp (disch := omega) only [up_no, up_nk, up_at, u_cp_no] <;> (first | assumption | omega)) | (simp only [hkF] <;> omega) | decide) only [S23, z_and, z_eq, enc, Bool.toNat_true, Nat.and_self, Nat.reduceEqDiff, List.headD_cons, zb_t, hkF, z_add, z_mul, up_at, up_no, up_nk, u_cp_no, ma_bd, if_true, if_false, Option.toList, List.nil_append, List.cons_append]
  | [false] =>
    simp (disch := first | assumption | omega | exact zb_fit | (simp (disch := omega) only [up_no, up_nk, up_at, u_cp_no] <;> (first | assumption | omega)) | (simp only [hkF] <;> omega) | decide) only [S23, z_and, z_eq, enc, Bool.toNat_false, Nat.mul_zero, Nat.add_zero, Nat.zero_and, List.headD_cons, hkF, z_add, z_mul, up_at, up_no, up_nk, u_cp_no, ma_bd, if_true, if_false, Option.toList, List.nil_append, List.cons_append]
    exact congrArg (fun x => some (some (Value.int x), SH, σ)) (zb_f (by decide)).symm
