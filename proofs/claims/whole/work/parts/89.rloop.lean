/-! Reading a house: parts between & and |. -/
def EX (ro : ma_RO) (n : Nat) (t : Nat → Nat) (r i : Nat) (o : Out) : Prop := ∀ D, 3 * r + 5 ≤ D → ∀ (σ : ma_H) sz (b1 : Option Value) (b2 : Int32) ctr, sz ≤ i → ctr ≤ i → XS n t σ i sz → match o with
  | .inl f => ∃ σ', ma_rn ro D 30 (40, [some (.ref 69), some (.int (nI (5 - r))), b1, some (.int b2), some (.int (nI ctr))], [], SH, σ) = some (none, SH, σ') ∧ XO sz σ σ' (.inl f)
  | .inr (i', ts) => ∃ σ' ctr', ctr' ≤ i' ∧ ma_rn ro D 30 (40, [some (.ref 69), some (.int (nI (5 - r))), b1, some (.int b2), some (.int (nI ctr))], [], SH, σ) = ma_rn ro D 30 (59, [some (.ref 69), some (.int (nI (5 - r))), some (.int (nI 0)), some (.int b2), some (.int (nI ctr'))], [], SH, σ') ∧ XO sz σ σ' (.inr (i', ts))
def EM (ro : ma_RO) (n : Nat) (t : Nat → Nat) (act r i : Nat) (o : Out) : Prop := ∀ D, 3 * r + 5 ≤ D → ∀ (σ : ma_H) ms, ms ≤ i → MS n t act σ i ms → σ 90 9 = nI (5 - r) → ∃ σ', ma_rn ro D 115 (4, [some (.ref 90)], [], SH, σ) = some (none, SH, σ') ∧ MO act ms σ σ' o
def LX (ro : ma_RO) (n : Nat) (t : Nat → Nat) (r i : Nat) (o : Out) : Prop := ∀ D, 3 * r + 5 ≤ D → ∀ (σ : ma_H) sz (b2 : Int32) ctr, sz ≤ i → ctr ≤ i → XS n t σ i sz → ∃ σ', ma_rn ro D 30 (72, [some (.ref 69), some (.int (nI (5 - r))), some (.int (nI 0)), some (.int b2), some (.int (nI ctr))], [], SH, σ) = some (none, SH, σ') ∧ XO sz σ σ' o
def LM (ro : ma_RO) (n : Nat) (t : Nat → Nat) (act r i : Nat) (o : Out) : Prop := ∀ D, 3 * r + 6 ≤ D → ∀ (σ : ma_H) ms, ms ≤ i → MS n t act σ i ms → σ 90 9 = nI (5 - r) → ∃ σ', ma_rn ro D 116 (4, [some (.ref 90)], [], SH, σ) = some (none, SH, σ') ∧ MO act ms σ σ' o
theorem MO_9 {act ms : Nat} {σ σ' : ma_H} {o : Out} (h : MO act ms σ σ' o) : σ' 90 9 = σ 90 9 := by
  cases o with
  | inl f => exact h.2.2.1 9 (by decide) (by decide)
  | inr p => exact h.2.2.2.2.1 9 (by decide) (by decide)
theorem EL (ro : ma_RO) (n act : Nat) (t : Nat → Nat) (hn : n ≤ 100) (hact : act < 5) (r : Nat) (hr : r ≤ 5) (hF : ∀ i, i ≤ n → ∃ o, FX ro n t r i o ∧ FM ro n t act r i o ∧ GO n i (1 + 2 * r) o) : ∀ m i, n - i ≤ m → i ≤ n → ∃ o, EX ro n t r i o ∧ EM ro n t act r i o ∧ GE n i (1 + 2 * r) o := by
  intro m
  induction m with
  | zero =>
    intro i hm hi
    have hc : ¬ pkc n t i = nI 38 := fun h => by have := pkc_lt (by decide) h; omega
    refine ⟨.inr (i, []), ?_, ?_, Nat.le_refl _, hi, Nat.zero_le _, fun x hx => (nomatch hx), fun k _ _ => rfl⟩
    · intro D hD σ sz b1 b2 ctr hsz hctr h
      obtain ⟨d, rfl⟩ : ∃ d, D = d + 2 := ⟨D - 2, by omega⟩
      have e36 := V36 (ro := ro) (d := d) n t hn σ h.1 i (by omega) h.2.1
      refine ⟨σ, ctr, hctr, ?_, XO_refl h⟩
      simp (disch := first | assumption | omega | exact zb_fit | exact hbf .. | (simp (disch := omega) only [up_no, up_nk, up_at, u_cp_no] <;> (first | assumption | omega)) | (simp only [hkF] <;> omega) | decide) only [S30, e36, hc, z_eq, Nat.reduceEqDiff, hkF, z_add, z_mul, up_at, up_no, up_nk, u_cp_no, ma_bd, ↓reduceIte, if_true, if_false, Option.toList, List.nil_append, List.cons_append]
    · intro D hD σ ms hms h h9
      obtain ⟨d, rfl⟩ : ∃ d, D = d + 1 := ⟨D - 1, by omega⟩
      have e108 := V108 (ro := ro) (d := d) n t hn σ h.1 i (by omega) h.2.2.1
      have hw := h.2.2.2.1
      refine ⟨σ, ?_, MO_refl h⟩
      rw [Sh115_4]
      simp (disch := first | assumption | omega | exact zb_fit | exact hbf .. | (simp (disch := omega) only [up_no, up_nk, up_at, u_cp_no] <;> (first | assumption | omega)) | (simp only [hkF] <;> omega) | decide) only [S115, hw, e108, hc, z_eq, Nat.reduceEqDiff, hkF, z_add, z_mul, up_at, up_no, up_nk, u_cp_no, ma_bd, ↓reduceIte, if_true, if_false, Option.toList, List.nil_append, List.cons_append]
  | succ m ih =>
    intro i hm hi
    by_cases hc : pkc n t i = nI 38
    · have hin := pkc_lt (by decide) hc
      obtain ⟨o1, fx, fm, go⟩ := hF (i + 1) hin
      cases o1 with
      | inl f =>
        have hf : f ≤ n := go
        refine ⟨.inl f, ?_, ?_, hf⟩
        · intro D hD σ sz b1 b2 ctr hsz hctr h
          obtain ⟨d, rfl⟩ : ∃ d, D = d + 2 := ⟨D - 2, by omega⟩
          have e36 := V36 (ro := ro) (d := d) n t hn σ h.1 i (by omega) h.2.1
          have hp := h.2.1
          have p1 := XO_place (i + 1) h
          have s1 := XS_of h p1
          obtain ⟨σ2, e31, o2⟩ := fx (d + 1) (by omega) _ _ (by simp; omega) s1
          have o12 := XO_seq p1 o2
          have hf3 := o12.1
          have hct : ¬ 100 < ctr + 1 := by omega
          refine ⟨σ2, ?_, o12⟩
          simp (disch := first | assumption | omega | exact zb_fit | exact hbf .. | (simp (disch := omega) only [up_no, up_nk, up_at, u_cp_no] <;> (first | assumption | omega)) | (simp only [hkF] <;> omega) | decide) only [S30, Sh30_7, e36, hc, hp, hct, e31, hf3, z_lt, Nat.not_lt_zero, z_eq, Nat.reduceEqDiff, hkF, z_add, z_mul, up_at, up_no, up_nk, u_cp_no, ma_bd, ↓reduceIte, if_true, if_false, Option.toList, List.nil_append, List.cons_append]
        · intro D hD σ ms hms h h9
          obtain ⟨d, rfl⟩ : ∃ d, D = d + 1 := ⟨D - 1, by omega⟩
          have e108 := V108 (ro := ro) (d := d) n t hn σ h.1 i (by omega) h.2.2.1
          have hw := h.2.2.2.1
          have hp := h.2.2.1
          have p1 := MO_place (i + 1) h
          have s1 := MS_of hn hact h p1
          obtain ⟨σ2, e114, o2⟩ := fm d (by omega) _ _ (by simp; omega) s1 (by rw [MO_9 p1]; exact h9)
          have o12 := MO_seq hact (by simp; omega) p1 o2
          have w113 := W113 (ro := ro) (d := d) σ2 (-2) o12.2.1
          have hw2 := o12.2.1
          refine ⟨σ2, ?_, o12⟩
          rw [Sh115_4]
          simp (disch := first | assumption | omega | exact zb_fit | exact hbf .. | (simp (disch := omega) only [up_no, up_nk, up_at, u_cp_no] <;> (first | assumption | omega)) | (simp only [hkF] <;> omega) | decide) only [S115, hw, e108, hc, hp, e114, w113, z_eq, Nat.reduceEqDiff, hkF, z_add, z_mul, up_at, up_no, up_nk, u_cp_no, ma_bd, ↓reduceIte, if_true, if_false, Option.toList, List.nil_append, List.cons_append]
          rw [Sh115_4]
          simp (disch := first | assumption | omega | exact zb_fit | exact hbf .. | (simp (disch := omega) only [up_no, up_nk, up_at, u_cp_no] <;> (first | assumption | omega)) | (simp only [hkF] <;> omega) | decide) only [S115, hw2, z_eq, Nat.reduceEqDiff, hkF, z_add, z_mul, up_at, up_no, up_nk, u_cp_no, ma_bd, ↓reduceIte, if_true, if_false, Option.toList, List.nil_append, List.cons_append]
      | inr p =>
        obtain ⟨i1, ts1⟩ := p
        obtain ⟨g1, g2, g3, g4, g5⟩ := go
        obtain ⟨o2, ex, em, ge⟩ := ih i1 (by omega) g2
        refine ⟨preO (ts1 ++ [(7, 0, 0)]) o2, ?_, ?_, ?_⟩
        · intro D hD σ sz b1 b2 ctr hsz hctr h
          obtain ⟨d, rfl⟩ : ∃ d, D = d + 2 := ⟨D - 2, by omega⟩
          have e36 := V36 (ro := ro) (d := d) n t hn σ h.1 i (by omega) h.2.1
          have hp := h.2.1
          have p1 := XO_place (i + 1) h
          have s1 := XS_of h p1
          obtain ⟨σ2, e31, x2⟩ := fx (d + 1) (by omega) _ _ (by simp; omega) s1
          have x12 := XO_seq p1 x2
          have s2 := XS_of h x12
          have hf3 := x12.2.1
          have hct : ¬ 100 < ctr + 1 := by omega
          have e19 := V19 (ro := ro) (d := d + 1) σ2 _ (nI 7) s2.2.2.2 (by simp; omega)
          have x3 := XO_seq x12 (XO_step (7, 0, 0) s2)
          have s3 := XS_of h x3
          have E := ex (d + 2) (by omega) _ _ (some (.int (nI 1))) b2 (ctr + 1) (by simp; omega) (by omega) s3
          have hgo : ∀ R, ma_rn ro (d + 2) 30 (40, [some (.ref 69), some (.int (nI (5 - r))), some (.int (nI 1)), some (.int b2), some (.int (nI (ctr + 1)))], [], SH, ma_up (ma_up σ2 68 (sz + ([] ++ ts1).length) (xc (7, 0, 0))) 65 5 (nI (sz + ([] ++ ts1).length + 1))) = R → ma_rn ro (d + 2) 30 (40, [some (.ref 69), some (.int (nI (5 - r))), b1, some (.int b2), some (.int (nI ctr))], [], SH, σ) = R := by
            intro R hR
            rw [← hR]
            simp (disch := first | assumption | omega | exact zb_fit | exact hbf .. | (simp (disch := omega) only [up_no, up_nk, up_at, u_cp_no] <;> (first | assumption | omega)) | (simp only [hkF] <;> omega) | decide) only [S30, Sh30_7, e36, hc, hp, hct, e31, hf3, m1_neg, e19, z_lt, z_eq, Nat.reduceEqDiff, hkF, z_add, z_mul, up_at, up_no, up_nk, u_cp_no, ma_bd, ↓reduceIte, if_true, if_false, Option.toList, List.nil_append, List.cons_append]
            rfl
          cases o2 with
          | inl f =>
            obtain ⟨σ', e, x4⟩ := E
            refine ⟨σ', hgo _ e, XO_seq x3 x4⟩
          | inr p =>
            obtain ⟨i', ts⟩ := p
            obtain ⟨σ', ctr', c1, e, x4⟩ := E
            exact ⟨σ', ctr', c1, hgo _ e, XO_seq x3 x4⟩
        · intro D hD σ ms hms h h9
          obtain ⟨d, rfl⟩ : ∃ d, D = d + 1 := ⟨D - 1, by omega⟩
          have e108 := V108 (ro := ro) (d := d) n t hn σ h.1 i (by omega) h.2.2.1
          have hw := h.2.2.2.1
          have hp := h.2.2.1
          have p1 := MO_place (i + 1) h
          have s1 := MS_of hn hact h p1
          obtain ⟨σ2, e114, x2⟩ := fm d (by omega) _ _ (by simp; omega) s1 (by rw [MO_9 p1]; exact h9)
          have x12 := MO_seq hact (by simp; omega) p1 x2
          have s2 := MS_of hn hact h x12
          have e113 := V113 (ro := ro) (d := d) n act t σ2 i1 _ (-2) hact (by simp; omega) s2
          have x3 := MO_seq hact (by simp; omega) x12 (MO_step (7, 0, 0) hact (by simp; omega) s2)
          have s3 := MS_of hn hact h x3
          obtain ⟨σ', e, x4⟩ := em (d + 1) (by omega) _ _ (by simp; omega) s3 (by rw [MO_9 x3]; exact h9)
          refine ⟨σ', ?_, MO_seq hact (by simp; omega) x3 x4⟩
          rw [← e, Sh115_4]
          simp (disch := first | assumption | omega | exact zb_fit | exact hbf .. | (simp (disch := omega) only [up_no, up_nk, up_at, u_cp_no] <;> (first | assumption | omega)) | (simp only [hkF] <;> omega) | decide) only [S115, hw, e108, hc, hp, e114, e113, z_eq, Nat.reduceEqDiff, hkF, z_add, z_mul, up_at, up_no, up_nk, u_cp_no, ma_bd, ↓reduceIte, if_true, if_false, Option.toList, List.nil_append, List.cons_append]
          rfl
        · cases o2 with
          | inl f => exact ge
          | inr p =>
            obtain ⟨i', ts⟩ := p
            obtain ⟨j1, j2, j3, j4, j5⟩ := ge
            refine ⟨by omega, j2, by rw [List.length_append, List.length_append, List.length_singleton]; omega, fun x hx => ?_, fun k hk1 hk2 => ?_⟩
            · rw [List.mem_append, List.mem_append, List.mem_singleton] at hx
              rcases hx with (hx | rfl) | hx
              · exact g4 x hx
              · exact ⟨by decide, by decide, by decide⟩
              · exact j4 x hx
            · rw [List.foldl_append, List.foldl_append, g5 k hk2, show List.foldl dpT (some (k + 1)) [(7, 0, 0)] = some k by
                show dpT (some (k + 1)) (7, 0, 0) = some k
                unfold dpT
                dsimp only
                rw [if_neg (by decide), if_neg (by decide), if_pos (by omega)]; rfl]
              exact j5 k hk1 hk2
    · refine ⟨.inr (i, []), ?_, ?_, Nat.le_refl _, hi, Nat.zero_le _, fun x hx => (nomatch hx), fun k _ _ => rfl⟩
      · intro D hD σ sz b1 b2 ctr hsz hctr h
        obtain ⟨d, rfl⟩ : ∃ d, D = d + 2 := ⟨D - 2, by omega⟩
        have e36 := V36 (ro := ro) (d := d) n t hn σ h.1 i (by omega) h.2.1
        refine ⟨σ, ctr, hctr, ?_, XO_refl h⟩
        simp (disch := first | assumption | omega | exact zb_fit | exact hbf .. | (simp (disch := omega) only [up_no, up_nk, up_at, u_cp_no] <;> (first | assumption | omega)) | (simp only [hkF] <;> omega) | decide) only [S30, e36, hc, z_eq, Nat.reduceEqDiff, hkF, z_add, z_mul, up_at, up_no, up_nk, u_cp_no, ma_bd, ↓reduceIte, if_true, if_false, Option.toList, List.nil_append, List.cons_append]
      · intro D hD σ ms hms h h9
        obtain ⟨d, rfl⟩ : ∃ d, D = d + 1 := ⟨D - 1, by omega⟩
        have e108 := V108 (ro := ro) (d := d) n t hn σ h.1 i (by omega) h.2.2.1
        have hw := h.2.2.2.1
        refine ⟨σ, ?_, MO_refl h⟩
        rw [Sh115_4]
        simp (disch := first | assumption | omega | exact zb_fit | exact hbf .. | (simp (disch := omega) only [up_no, up_nk, up_at, u_cp_no] <;> (first | assumption | omega)) | (simp only [hkF] <;> omega) | decide) only [S115, hw, e108, hc, z_eq, Nat.reduceEqDiff, hkF, z_add, z_mul, up_at, up_no, up_nk, u_cp_no, ma_bd, ↓reduceIte, if_true, if_false, Option.toList, List.nil_append, List.cons_append]
