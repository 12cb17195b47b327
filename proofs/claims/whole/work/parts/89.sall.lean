/-! Reading a house: E as a whole. -/
def HX (ro : ma_RO) (n : Nat) (t : Nat → Nat) (r i : Nat) (o : Out) : Prop := ∀ D, 3 * r + 5 ≤ D → ∀ (σ : ma_H) sz (b2 : Int32) ctr, sz ≤ i → ctr ≤ i → XS n t σ i sz → match o with
  | .inl f => ∃ σ', ma_rn ro D 30 (7, [some (.ref 69), some (.int (nI (5 - r))), some (.int (nI 0)), some (.int b2), some (.int (nI ctr))], [], SH, σ) = some (none, SH, σ') ∧ XO sz σ σ' (.inl f)
  | .inr (i', ts) => ∃ σ' ctr', ctr' ≤ i' ∧ ma_rn ro D 30 (7, [some (.ref 69), some (.int (nI (5 - r))), some (.int (nI 0)), some (.int b2), some (.int (nI ctr))], [], SH, σ) = ma_rn ro D 30 (59, [some (.ref 69), some (.int (nI (5 - r))), some (.int (nI 0)), some (.int b2), some (.int (nI ctr'))], [], SH, σ') ∧ XO sz σ σ' (.inr (i', ts))
def HM (ro : ma_RO) (n : Nat) (t : Nat → Nat) (act r i : Nat) (o : Out) : Prop := ∀ D, 3 * r + 5 ≤ D → ∀ (σ : ma_H) ms, ms ≤ i → MS n t act σ i ms → σ 90 9 = nI (5 - r) → ∃ σ', ma_ev ro D 115 [.ref 90] SH σ = some (none, SH, σ') ∧ MO act ms σ σ' o
theorem FE (ro : ma_RO) (n act : Nat) (t : Nat → Nat) (hn : n ≤ 100) (hact : act < 5) (r : Nat) (hr : r ≤ 5) (hF : ∀ i, i ≤ n → ∃ o, FX ro n t r i o ∧ FM ro n t act r i o ∧ GO n i (1 + 2 * r) o) (i : Nat) (hi : i ≤ n) : ∃ o, HX ro n t r i o ∧ HM ro n t act r i o ∧ GO n i (2 + 2 * r) o := by
  obtain ⟨o1, fx, fm, go⟩ := hF i hi
  cases o1 with
  | inl f =>
    have hf : f ≤ n := go
    refine ⟨.inl f, ?_, ?_, hf⟩
    · intro D hD σ sz b2 ctr hsz hctr h
      obtain ⟨d, rfl⟩ : ∃ d, D = d + 1 := ⟨D - 1, by omega⟩
      obtain ⟨σ2, e31, o2⟩ := fx d (by omega) σ sz hsz h
      have hf3 := o2.1
      have hct : ¬ 100 < ctr := by omega
      refine ⟨σ2, ?_, o2⟩
      rw [Sh30_7]
      simp (disch := first | assumption | omega | exact zb_fit | exact hbf .. | (simp (disch := omega) only [up_no, up_nk, up_at, u_cp_no] <;> (first | assumption | omega)) | (simp only [hkF] <;> omega) | decide) only [S30, hct, e31, hf3, z_lt, Nat.not_lt_zero, hkF, z_add, z_mul, up_at, up_no, up_nk, u_cp_no, ma_bd, ↓reduceIte, if_true, if_false, Option.toList, List.nil_append, List.cons_append]
    · intro D hD σ ms hms h h9
      obtain ⟨d, rfl⟩ : ∃ d, D = d + 1 := ⟨D - 1, by omega⟩
      obtain ⟨σ2, e114, o2⟩ := fm d (by omega) σ ms hms h h9
      have hw2 := o2.2.1
      refine ⟨σ2, ?_, o2⟩
      simp (disch := first | assumption | omega | exact zb_fit | exact hbf .. | (simp (disch := omega) only [up_no, up_nk, up_at, u_cp_no] <;> (first | assumption | omega)) | (simp only [hkF] <;> omega) | decide) only [E115, S115, Sh115_4, e114, hw2, z_eq, Nat.reduceEqDiff, hkF, z_add, z_mul, up_at, up_no, up_nk, u_cp_no, ma_bd, ↓reduceIte, if_true, if_false, Option.toList, List.nil_append, List.cons_append]
  | inr p =>
    obtain ⟨i1, ts1⟩ := p
    obtain ⟨g1, g2, g3, g4, g5⟩ := go
    obtain ⟨o2, ex, em, ge⟩ := EL ro n act t hn hact r hr hF (n - i1) i1 (Nat.le_refl _) g2
    refine ⟨preO ts1 o2, ?_, ?_, ?_⟩
    · intro D hD σ sz b2 ctr hsz hctr h
      obtain ⟨d, rfl⟩ : ∃ d, D = d + 1 := ⟨D - 1, by omega⟩
      obtain ⟨σ2, e31, x2⟩ := fx d (by omega) σ sz hsz h
      have s2 := XS_of h x2
      have hf3 := x2.2.1
      have hct : ¬ 100 < ctr := by omega
      have E := ex (d + 1) (by omega) σ2 _ (some (.int (nI 0))) b2 ctr (by omega) (by omega) s2
      have hgo : ∀ R, ma_rn ro (d + 1) 30 (40, [some (.ref 69), some (.int (nI (5 - r))), some (.int (nI 0)), some (.int b2), some (.int (nI ctr))], [], SH, σ2) = R → ma_rn ro (d + 1) 30 (7, [some (.ref 69), some (.int (nI (5 - r))), some (.int (nI 0)), some (.int b2), some (.int (nI ctr))], [], SH, σ) = R := by
        intro R hR
        rw [← hR, Sh30_7]
        simp (disch := first | assumption | omega | exact zb_fit | exact hbf .. | (simp (disch := omega) only [up_no, up_nk, up_at, u_cp_no] <;> (first | assumption | omega)) | (simp only [hkF] <;> omega) | decide) only [S30, hct, e31, hf3, m1_neg, z_lt, z_eq, Nat.reduceEqDiff, hkF, z_add, z_mul, up_at, up_no, up_nk, u_cp_no, ma_bd, ↓reduceIte, if_true, if_false, Option.toList, List.nil_append, List.cons_append]
      cases o2 with
      | inl f =>
        obtain ⟨σ', e, x4⟩ := E
        exact ⟨σ', hgo _ e, XO_seq x2 x4⟩
      | inr p =>
        obtain ⟨i', ts⟩ := p
        obtain ⟨σ', ctr', c1, e, x4⟩ := E
        exact ⟨σ', ctr', c1, hgo _ e, XO_seq x2 x4⟩
    · intro D hD σ ms hms h h9
      obtain ⟨d, rfl⟩ : ∃ d, D = d + 1 := ⟨D - 1, by omega⟩
      obtain ⟨σ2, e114, x2⟩ := fm d (by omega) σ ms hms h h9
      have s2 := MS_of hn hact h x2
      obtain ⟨σ', e, x4⟩ := em (d + 1) (by omega) σ2 _ (by omega) s2 (by rw [MO_9 x2]; exact h9)
      refine ⟨σ', ?_, MO_seq hact (by omega) x2 x4⟩
      rw [← e]
      simp (disch := first | assumption | omega | exact zb_fit | exact hbf .. | (simp (disch := omega) only [up_no, up_nk, up_at, u_cp_no] <;> (first | assumption | omega)) | (simp only [hkF] <;> omega) | decide) only [E115, S115, e114, hkF, z_add, z_mul, up_at, up_no, up_nk, u_cp_no, ma_bd, ↓reduceIte, if_true, if_false, Option.toList, List.nil_append, List.cons_append]
    · cases o2 with
      | inl f => exact ge
      | inr p =>
        obtain ⟨i', ts⟩ := p
        obtain ⟨j1, j2, j3, j4, j5⟩ := ge
        refine ⟨by omega, j2, by rw [List.length_append]; omega, fun x hx => ?_, fun k hk => ?_⟩
        · rw [List.mem_append] at hx
          rcases hx with hx | hx
          · exact g4 x hx
          · exact j4 x hx
        · rw [List.foldl_append, g5 k (by omega)]
          exact j5 (k + 1) (by omega) (by omega)
theorem LL (ro : ma_RO) (n act : Nat) (t : Nat → Nat) (hn : n ≤ 100) (hact : act < 5) (r : Nat) (hr : r ≤ 5) (hF : ∀ i, i ≤ n → ∃ o, FX ro n t r i o ∧ FM ro n t act r i o ∧ GO n i (1 + 2 * r) o) : ∀ m i, n - i ≤ m → i ≤ n → ∃ o, LX ro n t r i o ∧ LM ro n t act r i o ∧ GE n i (2 + 2 * r) o := by
  have STOP : ∀ i, i ≤ n → ¬ pkc n t i = nI 124 → ∃ o, LX ro n t r i o ∧ LM ro n t act r i o ∧ GE n i (2 + 2 * r) o := by
    intro i hi hc
    refine ⟨.inr (i, []), ?_, ?_, Nat.le_refl _, hi, Nat.zero_le _, fun x hx => (nomatch hx), fun k _ _ => rfl⟩
    · intro D hD σ sz b2 ctr hsz hctr h
      obtain ⟨d, rfl⟩ : ∃ d, D = d + 2 := ⟨D - 2, by omega⟩
      have e36 := V36 (ro := ro) (d := d) n t hn σ h.1 i (by omega) h.2.1
      refine ⟨σ, ?_, XO_refl h⟩
      simp (disch := first | assumption | omega | exact zb_fit | exact hbf .. | (simp (disch := omega) only [up_no, up_nk, up_at, u_cp_no] <;> (first | assumption | omega)) | (simp only [hkF] <;> omega) | decide) only [S30, e36, hc, z_eq, Nat.reduceEqDiff, hkF, z_add, z_mul, up_at, up_no, up_nk, u_cp_no, ma_bd, ↓reduceIte, if_true, if_false, Option.toList, List.nil_append, List.cons_append]
    · intro D hD σ ms hms h h9
      obtain ⟨d, rfl⟩ : ∃ d, D = d + 1 := ⟨D - 1, by omega⟩
      have e108 := V108 (ro := ro) (d := d) n t hn σ h.1 i (by omega) h.2.2.1
      have hw := h.2.2.2.1
      refine ⟨σ, ?_, MO_refl h⟩
      rw [Sh116_4]
      simp (disch := first | assumption | omega | exact zb_fit | exact hbf .. | (simp (disch := omega) only [up_no, up_nk, up_at, u_cp_no] <;> (first | assumption | omega)) | (simp only [hkF] <;> omega) | decide) only [S116, hw, e108, hc, z_eq, Nat.reduceEqDiff, hkF, z_add, z_mul, up_at, up_no, up_nk, u_cp_no, ma_bd, ↓reduceIte, if_true, if_false, Option.toList, List.nil_append, List.cons_append]
  intro m
  induction m with
  | zero =>
    intro i hm hi
    exact STOP i hi (fun h => by have := pkc_lt (by decide) h; omega)
  | succ m ih =>
    intro i hm hi
    by_cases hc : pkc n t i = nI 124
    · have hin := pkc_lt (by decide) hc
      obtain ⟨o1, hx, hm1, go⟩ := FE ro n act t hn hact r hr hF (i + 1) hin
      cases o1 with
      | inl f =>
        have hf : f ≤ n := go
        refine ⟨.inl f, ?_, ?_, hf⟩
        · intro D hD σ sz b2 ctr hsz hctr h
          obtain ⟨d, rfl⟩ : ∃ d, D = d + 2 := ⟨D - 2, by omega⟩
          have e36 := V36 (ro := ro) (d := d) n t hn σ h.1 i (by omega) h.2.1
          have hp := h.2.1
          have p1 := XO_place (i + 1) h
          have s1 := XS_of h p1
          obtain ⟨σ', e, x2⟩ := hx (d + 2) (by omega) _ _ (nI 1) (ctr + 1) (by simp; omega) (by omega) s1
          refine ⟨σ', ?_, XO_seq p1 x2⟩
          rw [← e]
          simp (disch := first | assumption | omega | exact zb_fit | exact hbf .. | (simp (disch := omega) only [up_no, up_nk, up_at, u_cp_no] <;> (first | assumption | omega)) | (simp only [hkF] <;> omega) | decide) only [S30, e36, hc, hp, z_eq, Nat.reduceEqDiff, hkF, z_add, z_mul, up_at, up_no, up_nk, u_cp_no, ma_bd, ↓reduceIte, if_true, if_false, Option.toList, List.nil_append, List.cons_append]
        · intro D hD σ ms hms h h9
          obtain ⟨d, rfl⟩ : ∃ d, D = d + 1 := ⟨D - 1, by omega⟩
          have e108 := V108 (ro := ro) (d := d) n t hn σ h.1 i (by omega) h.2.2.1
          have hw := h.2.2.2.1
          have hp := h.2.2.1
          have p1 := MO_place (i + 1) h
          have s1 := MS_of hn hact h p1
          obtain ⟨σ2, e115, x2⟩ := hm1 d (by omega) _ _ (by simp; omega) s1 (by rw [MO_9 p1]; exact h9)
          have o12 := MO_seq hact (by simp; omega) p1 x2
          have w113 := W113 (ro := ro) (d := d) σ2 (-3) o12.2.1
          have hw2 := o12.2.1
          refine ⟨σ2, ?_, o12⟩
          rw [Sh116_4]
          simp (disch := first | assumption | omega | exact zb_fit | exact hbf .. | (simp (disch := omega) only [up_no, up_nk, up_at, u_cp_no] <;> (first | assumption | omega)) | (simp only [hkF] <;> omega) | decide) only [S116, hw, e108, hc, hp, e115, w113, z_eq, Nat.reduceEqDiff, hkF, z_add, z_mul, up_at, up_no, up_nk, u_cp_no, ma_bd, ↓reduceIte, if_true, if_false, Option.toList, List.nil_append, List.cons_append]
          rw [Sh116_4]
          simp (disch := first | assumption | omega | exact zb_fit | exact hbf .. | (simp (disch := omega) only [up_no, up_nk, up_at, u_cp_no] <;> (first | assumption | omega)) | (simp only [hkF] <;> omega) | decide) only [S116, hw2, z_eq, Nat.reduceEqDiff, hkF, z_add, z_mul, up_at, up_no, up_nk, u_cp_no, ma_bd, ↓reduceIte, if_true, if_false, Option.toList, List.nil_append, List.cons_append]
      | inr p =>
        obtain ⟨i1, ts1⟩ := p
        obtain ⟨g1, g2, g3, g4, g5⟩ := go
        obtain ⟨o2, lx, lm, ge⟩ := ih i1 (by omega) g2
        refine ⟨preO (ts1 ++ [(8, 0, 0)]) o2, ?_, ?_, ?_⟩
        · intro D hD σ sz b2 ctr hsz hctr h
          obtain ⟨d, rfl⟩ : ∃ d, D = d + 2 := ⟨D - 2, by omega⟩
          have e36 := V36 (ro := ro) (d := d) n t hn σ h.1 i (by omega) h.2.1
          have hp := h.2.1
          have p1 := XO_place (i + 1) h
          have s1 := XS_of h p1
          obtain ⟨σ2, ctr2, c2, e, x2⟩ := hx (d + 2) (by omega) _ _ (nI 1) (ctr + 1) (by simp; omega) (by omega) s1
          have x12 := XO_seq p1 x2
          have s2 := XS_of h x12
          have e19 := V19 (ro := ro) (d := d + 1) σ2 _ (nI 8) s2.2.2.2 (by simp; omega)
          have x3 := XO_seq x12 (XO_step (8, 0, 0) s2)
          have s3 := XS_of h x3
          obtain ⟨σ', e', x4⟩ := lx (d + 2) (by omega) _ _ (nI 1) ctr2 (by simp; omega) c2 s3
          refine ⟨σ', ?_, XO_seq x3 x4⟩
          rw [← e']
          refine Eq.trans (?_ : _ = ma_rn ro (d + 2) 30 (7, [some (.ref 69), some (.int (nI (5 - r))), some (.int (nI 0)), some (.int (nI 1)), some (.int (nI (ctr + 1)))], [], SH, ma_up σ 69 2 (nI (i + 1)))) (e.trans ?_)
          · simp (disch := first | assumption | omega | exact zb_fit | exact hbf .. | (simp (disch := omega) only [up_no, up_nk, up_at, u_cp_no] <;> (first | assumption | omega)) | (simp only [hkF] <;> omega) | decide) only [S30, e36, hc, hp, z_eq, Nat.reduceEqDiff, hkF, z_add, z_mul, up_at, up_no, up_nk, u_cp_no, ma_bd, ↓reduceIte, if_true, if_false, Option.toList, List.nil_append, List.cons_append]
          · simp (disch := first | assumption | omega | exact zb_fit | exact hbf .. | (simp (disch := omega) only [up_no, up_nk, up_at, u_cp_no] <;> (first | assumption | omega)) | (simp only [hkF] <;> omega) | decide) only [S30, e19, z_eq, Nat.reduceEqDiff, hkF, z_add, z_mul, up_at, up_no, up_nk, u_cp_no, ma_bd, ↓reduceIte, if_true, if_false, Option.toList, List.nil_append, List.cons_append]
            rfl
        · intro D hD σ ms hms h h9
          obtain ⟨d, rfl⟩ : ∃ d, D = d + 1 := ⟨D - 1, by omega⟩
          have e108 := V108 (ro := ro) (d := d) n t hn σ h.1 i (by omega) h.2.2.1
          have hw := h.2.2.2.1
          have hp := h.2.2.1
          have p1 := MO_place (i + 1) h
          have s1 := MS_of hn hact h p1
          obtain ⟨σ2, e115, x2⟩ := hm1 d (by omega) _ _ (by simp; omega) s1 (by rw [MO_9 p1]; exact h9)
          have x12 := MO_seq hact (by simp; omega) p1 x2
          have s2 := MS_of hn hact h x12
          have e113 := V113 (ro := ro) (d := d) n act t σ2 i1 _ (-3) hact (by simp; omega) s2
          have x3 := MO_seq hact (by simp; omega) x12 (MO_step (8, 0, 0) hact (by simp; omega) s2)
          have s3 := MS_of hn hact h x3
          obtain ⟨σ', e, x4⟩ := lm (d + 1) (by omega) _ _ (by simp; omega) s3 (by rw [MO_9 x3]; exact h9)
          refine ⟨σ', ?_, MO_seq hact (by simp; omega) x3 x4⟩
          rw [← e, Sh116_4]
          simp (disch := first | assumption | omega | exact zb_fit | exact hbf .. | (simp (disch := omega) only [up_no, up_nk, up_at, u_cp_no] <;> (first | assumption | omega)) | (simp only [hkF] <;> omega) | decide) only [S116, hw, e108, hc, hp, e115, e113, z_eq, Nat.reduceEqDiff, hkF, z_add, z_mul, up_at, up_no, up_nk, u_cp_no, ma_bd, ↓reduceIte, if_true, if_false, Option.toList, List.nil_append, List.cons_append]
          rfl
        · cases o2 with
          | inl f => exact ge
          | inr p =>
            obtain ⟨i', ts⟩ := p
            obtain ⟨j1, j2, j3, j4, j5⟩ := ge
            refine ⟨by omega, j2, by rw [List.length_append, List.length_append, List.length_singleton]; omega, fun x hx => ?_, fun k hk1 hk2 => ?_⟩
            · rw [List.mem_append, List.mem_append, List.mem_singleton] at hx
              rcases hx with (hx | rfl) | hx
              · exact g4 x hx
              · exact ⟨by decide, by decide, by decide⟩
              · exact j4 x hx
            · rw [List.foldl_append, List.foldl_append, g5 k hk2, show List.foldl dpT (some (k + 1)) [(8, 0, 0)] = some k by
                show dpT (some (k + 1)) (8, 0, 0) = some k
                unfold dpT
                dsimp only
                rw [if_neg (by decide), if_neg (by decide), if_pos (by omega)]; rfl]
              exact j5 k hk1 hk2
    · exact STOP i hi hc
theorem SS (ro : ma_RO) (n act : Nat) (t : Nat → Nat) (hn : n ≤ 100) (hact : act < 5) (r : Nat) (hr : r ≤ 5) (hF : ∀ i, i ≤ n → ∃ o, FX ro n t r i o ∧ FM ro n t act r i o ∧ GO n i (1 + 2 * r) o) (i : Nat) (hi : i ≤ n) : ∃ o, SX ro n t r i o ∧ SM ro n t act r i o ∧ GO n i (3 + 2 * r) o := by
  obtain ⟨o1, hx, hm1, go⟩ := FE ro n act t hn hact r hr hF i hi
  cases o1 with
  | inl f =>
    have hf : f ≤ n := go
    refine ⟨.inl f, ?_, ?_, hf⟩
    · intro D hD σ sz hsz h
      obtain ⟨σ', e, x2⟩ := hx D (by omega) σ sz (nI 0) 0 hsz (Nat.zero_le _) h
      refine ⟨σ', ?_, x2⟩
      rw [← e]
      simp (disch := first | assumption | omega | exact zb_fit | exact hbf .. | (simp (disch := omega) only [up_no, up_nk, up_at, u_cp_no] <;> (first | assumption | omega)) | (simp only [hkF] <;> omega) | decide) only [E30, S30, hkF, z_add, z_mul, up_at, up_no, up_nk, u_cp_no, ma_bd, ↓reduceIte, if_true, if_false, Option.toList, List.nil_append, List.cons_append]
    · intro D hD σ ms hms h h9
      obtain ⟨d, rfl⟩ : ∃ d, D = d + 1 := ⟨D - 1, by omega⟩
      obtain ⟨σ2, e115, x2⟩ := hm1 d (by omega) σ ms hms h h9
      have hw2 := x2.2.1
      refine ⟨σ2, ?_, x2⟩
      simp (disch := first | assumption | omega | exact zb_fit | exact hbf .. | (simp (disch := omega) only [up_no, up_nk, up_at, u_cp_no] <;> (first | assumption | omega)) | (simp only [hkF] <;> omega) | decide) only [E116, S116, Sh116_4, e115, hw2, z_eq, Nat.reduceEqDiff, hkF, z_add, z_mul, up_at, up_no, up_nk, u_cp_no, ma_bd, ↓reduceIte, if_true, if_false, Option.toList, List.nil_append, List.cons_append]
  | inr p =>
    obtain ⟨i1, ts1⟩ := p
    obtain ⟨g1, g2, g3, g4, g5⟩ := go
    obtain ⟨o2, lx, lm, ge⟩ := LL ro n act t hn hact r hr hF (n - i1) i1 (Nat.le_refl _) g2
    refine ⟨preO ts1 o2, ?_, ?_, ?_⟩
    · intro D hD σ sz hsz h
      obtain ⟨σ2, ctr2, c2, e, x2⟩ := hx D (by omega) σ sz (nI 0) 0 hsz (Nat.zero_le _) h
      have s2 := XS_of h x2
      obtain ⟨σ', e', x4⟩ := lx D (by omega) σ2 _ (nI 0) ctr2 (by omega) c2 s2
      refine ⟨σ', ?_, XO_seq x2 x4⟩
      rw [← e']
      refine Eq.trans (?_ : _ = ma_rn ro D 30 (7, [some (.ref 69), some (.int (nI (5 - r))), some (.int (nI 0)), some (.int (nI 0)), some (.int (nI 0))], [], SH, σ)) (e.trans ?_)
      · simp (disch := first | assumption | omega | exact zb_fit | exact hbf .. | (simp (disch := omega) only [up_no, up_nk, up_at, u_cp_no] <;> (first | assumption | omega)) | (simp only [hkF] <;> omega) | decide) only [E30, S30, hkF, z_add, z_mul, up_at, up_no, up_nk, u_cp_no, ma_bd, ↓reduceIte, if_true, if_false, Option.toList, List.nil_append, List.cons_append]
      · simp (disch := first | assumption | omega | exact zb_fit | exact hbf .. | (simp (disch := omega) only [up_no, up_nk, up_at, u_cp_no] <;> (first | assumption | omega)) | (simp only [hkF] <;> omega) | decide) only [S30, z_eq, Nat.reduceEqDiff, hkF, z_add, z_mul, up_at, up_no, up_nk, u_cp_no, ma_bd, ↓reduceIte, if_true, if_false, Option.toList, List.nil_append, List.cons_append]
    · intro D hD σ ms hms h h9
      obtain ⟨d, rfl⟩ : ∃ d, D = d + 1 := ⟨D - 1, by omega⟩
      obtain ⟨σ2, e115, x2⟩ := hm1 d (by omega) σ ms hms h h9
      have s2 := MS_of hn hact h x2
      obtain ⟨σ', e, x4⟩ := lm (d + 1) (by omega) σ2 _ (by omega) s2 (by rw [MO_9 x2]; exact h9)
      refine ⟨σ', ?_, MO_seq hact (by omega) x2 x4⟩
      rw [← e]
      simp (disch := first | assumption | omega | exact zb_fit | exact hbf .. | (simp (disch := omega) only [up_no, up_nk, up_at, u_cp_no] <;> (first | assumption | omega)) | (simp only [hkF] <;> omega) | decide) only [E116, S116, e115, hkF, z_add, z_mul, up_at, up_no, up_nk, u_cp_no, ma_bd, ↓reduceIte, if_true, if_false, Option.toList, List.nil_append, List.cons_append]
    · cases o2 with
      | inl f => exact ge
      | inr p =>
        obtain ⟨i', ts⟩ := p
        obtain ⟨j1, j2, j3, j4, j5⟩ := ge
        refine ⟨by omega, j2, by rw [List.length_append]; omega, fun x hx => ?_, fun k hk => ?_⟩
        · rw [List.mem_append] at hx
          rcases hx with hx | hx
          · exact g4 x hx
          · exact j4 x hx
        · rw [List.foldl_append, g5 k (by omega)]
          exact j5 (k + 1) (by omega) (by omega)
/-- E, none open: both readers agree -/
theorem Eall (ro : ma_RO) (n act : Nat) (t : Nat → Nat) (hn : n ≤ 100) (hact : act < 5) (ht : ∀ i, i < n → t i ≤ 127) : ∀ i, i ≤ n → ∃ o, SX ro n t 5 i o ∧ SM ro n t act 5 i o ∧ GO n i 13 o := by
  have H : ∀ r, r ≤ 5 → ∀ i, i ≤ n → ∃ o, FX ro n t r i o ∧ FM ro n t act r i o ∧ GO n i (1 + 2 * r) o := by
    intro r
    induction r with
    | zero => intro _ i hi; exact FA0 ro n act t hn hact ht i hi
    | succ r ih =>
      intro hr i hi
      exact FS ro n act t hn hact ht r hr (ih (by omega)) (SS ro n act t hn hact r (by omega) (ih (by omega))) i hi
  exact SS ro n act t hn hact 5 (by decide) (H 5 (by decide))
