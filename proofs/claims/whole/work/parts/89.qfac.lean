/-! Reading a house: what a part of E is, open by open. -/
def GO (n i dep : Nat) : Out → Prop
  | .inl f => f ≤ n
  | .inr (i', ts) => i < i' ∧ i' ≤ n ∧ ts.length ≤ i' - i ∧ (∀ t ∈ ts, tkOk t) ∧ ∀ k, k + dep ≤ 20 → ts.foldl dpT (some k) = some (k + 1)
/-- behind a part: the stack stays as deep as it is -/
def GE (n i dep : Nat) : Out → Prop
  | .inl f => f ≤ n
  | .inr (i', ts) => i ≤ i' ∧ i' ≤ n ∧ ts.length ≤ i' - i ∧ (∀ t ∈ ts, tkOk t) ∧ ∀ k, 1 ≤ k → k + dep ≤ 20 → ts.foldl dpT (some k) = some k
def FX (ro : ma_RO) (n : Nat) (t : Nat → Nat) (r i : Nat) (o : Out) : Prop := ∀ D, 3 * r + 4 ≤ D → ∀ (σ : ma_H) sz, sz ≤ i → XS n t σ i sz → ∃ σ', ma_ev ro D 31 [.ref 69, .int (nI (5 - r))] SH σ = some (none, SH, σ') ∧ XO sz σ σ' o
def FM (ro : ma_RO) (n : Nat) (t : Nat → Nat) (act r i : Nat) (o : Out) : Prop := ∀ D, 3 * r + 4 ≤ D → ∀ (σ : ma_H) ms, ms ≤ i → MS n t act σ i ms → σ 90 9 = nI (5 - r) → ∃ σ', ma_ev ro D 114 [.ref 90] SH σ = some (none, SH, σ') ∧ MO act ms σ σ' o
def SX (ro : ma_RO) (n : Nat) (t : Nat → Nat) (r i : Nat) (o : Out) : Prop := ∀ D, 3 * r + 5 ≤ D → ∀ (σ : ma_H) sz, sz ≤ i → XS n t σ i sz → ∃ σ', ma_ev ro D 30 [.ref 69, .int (nI (5 - r))] SH σ = some (none, SH, σ') ∧ XO sz σ σ' o
def SM (ro : ma_RO) (n : Nat) (t : Nat → Nat) (act r i : Nat) (o : Out) : Prop := ∀ D, 3 * r + 6 ≤ D → ∀ (σ : ma_H) ms, ms ≤ i → MS n t act σ i ms → σ 90 9 = nI (5 - r) → ∃ σ', ma_ev ro D 116 [.ref 90] SH σ = some (none, SH, σ') ∧ MO act ms σ σ' o
theorem tst_GO {n : Nat} {t : Nat → Nat} (i : Nat) (hi : i ≤ n) : GO n i 1 (tstF n t i) := by
  unfold tstF
  cases h4 : ixF (ma_chs 4) (pkc n t i) (ma_chs 4).length 0 with
  | none => exact hi
  | some w =>
    obtain ⟨hin, hw⟩ := ix_in (by decide) h4
    dsimp only
    cases h5 : ixF (ma_chs 5) (pkc n t (i + 1)) (ma_chs 5).length 0 with
    | none => exact hin
    | some h =>
      obtain ⟨hin2, hh⟩ := ix_in (by decide) h5
      dsimp only
      cases hN : numF n t (i + 2) with
      | inl f => have := numF_le hN; subst this; exact hin2
      | inr p =>
        obtain ⟨i', v⟩ := p
        obtain ⟨v1, v2, v3⟩ := numF_lt hN
        have hw6 : w < 6 := hw
        have hh3 : h < 3 := hh
        refine ⟨by omega, v3, by simp only [List.length_singleton]; omega, fun x hx => ?_, fun k hk => ?_⟩
        · rw [List.mem_singleton] at hx
          subst hx
          exact ⟨by show w < 9; omega, hh3, v1⟩
        · show dpT (some k) (w, h, v) = some (k + 1)
          unfold dpT
          dsimp only
          rw [if_pos hw6, if_pos (by omega)]
theorem MO_open {act ms r i' : Nat} {σ σ1 σ3 : ma_H} {o : Out} (h9 : σ 90 9 = nI r) (e : σ1 = ma_up (ma_up σ 90 9 (nI (r + 1))) 90 6 (nI i')) (h : MO act ms σ1 σ3 o) : MO act ms σ (ma_up σ3 90 9 (nI r)) o ∧ σ3 90 9 = nI (r + 1) := by
  have e90 : ∀ j, ¬ j = 6 → ¬ j = 9 → σ1 90 j = σ 90 j := fun j j1 j2 => by rw [e, up_nk j1, up_nk j2]
  have eo : ∀ o, ¬ o = 90 → σ1 o = σ o := fun o o1 => by rw [e, up_no o1, up_no o1]
  have e9 : σ1 90 9 = nI (r + 1) := by rw [e, up_nk (by decide), up_at]
  cases o with
  | inl f =>
    obtain ⟨b1, b2, b3, b4, b5⟩ := h
    refine ⟨⟨by rw [up_nk (by decide)]; exact b1, by rw [up_nk (by decide)]; exact b2, fun j j1 j2 => ?_, fun j j1 j2 => by rw [up_no (by decide), b4 j j1 j2, eo 91 (by decide)], fun o o1 o2 => by rw [up_no o1, b5 o o1 o2, eo o o1]⟩, by rw [b3 9 (by decide) (by decide)]; exact e9⟩
    by_cases j9 : j = 9
    · subst j9; rw [up_at]; exact h9.symm
    · rw [up_nk j9, b3 j j1 j2, e90 j j1 j9]
  | inr p =>
    obtain ⟨i2, ts⟩ := p
    obtain ⟨b1, b2, b3, b4, b5, b6, b7⟩ := h
    refine ⟨⟨by rw [up_nk (by decide)]; exact b1, by rw [up_nk (by decide)]; exact b2, by rw [up_no (by decide)]; exact b3, fun k hk => by rw [up_no (by decide)]; exact b4 k hk, fun j j1 j2 => ?_, fun j j1 j2 => by rw [up_no (by decide), b6 j j1 j2, eo 91 (by decide)], fun o o1 o2 => by rw [up_no o1, b7 o o1 o2, eo o o1]⟩, by rw [b5 9 (by decide) (by decide)]; exact e9⟩
    by_cases j9 : j = 9
    · subst j9; rw [up_at]; exact h9.symm
    · rw [up_nk j9, b5 j j1 j2, e90 j j1 j9]
theorem pkc_lt {n : Nat} {t : Nat → Nat} {i : Nat} {c : Nat} (hc : c < 2 ^ 31) (h : pkc n t i = nI c) : i < n := by
  by_cases hi : i < n
  · exact hi
  · rw [pkc_out hi] at h
    exact absurd h.symm (nI_m1 hc)
theorem FA0 (ro : ma_RO) (n act : Nat) (t : Nat → Nat) (hn : n ≤ 100) (hact : act < 5) (ht : ∀ i, i < n → t i ≤ 127) (i : Nat) (hi : i ≤ n) : ∃ o, FX ro n t 0 i o ∧ FM ro n t act 0 i o ∧ GO n i 1 o := by
  have f1 : ma_fitI .boolean (nI 1) = true := by decide
  by_cases hx : pkc n t i = nI 33 ∨ pkc n t i = nI 40
  · refine ⟨.inl i, ?_, ?_, hi⟩
    · intro D hD σ sz hsz h
      obtain ⟨d, rfl⟩ : ∃ d, D = d + 2 := ⟨D - 2, by omega⟩
      have e36 := V36 (ro := ro) (d := d) n t hn σ h.1 i (by omega) h.2.1
      have hp := h.2.1
      refine ⟨_, ?_, XO_err i (by omega) h⟩
      rcases hx with h33 | h40
      · simp (disch := first | assumption | omega | exact zb_fit | exact hbf .. | (simp (disch := omega) only [up_no, up_nk, up_at, u_cp_no] <;> (first | assumption | omega)) | (simp only [hkF] <;> omega) | decide) only [E31, S31, e36, h33, hp, z_eq, Nat.reduceEqDiff, z_lt, Nat.lt_irrefl, Nat.sub_zero, hkF, z_add, z_mul, up_at, up_no, up_nk, u_cp_no, ma_bd, ↓reduceIte, if_true, if_false, Option.toList, List.nil_append, List.cons_append]
      · simp (disch := first | assumption | omega | exact zb_fit | exact hbf .. | (simp (disch := omega) only [up_no, up_nk, up_at, u_cp_no] <;> (first | assumption | omega)) | (simp only [hkF] <;> omega) | decide) only [E31, S31, e36, h40, hp, z_eq, Nat.reduceEqDiff, z_lt, Nat.lt_irrefl, Nat.sub_zero, hkF, z_add, z_mul, up_at, up_no, up_nk, u_cp_no, ma_bd, ↓reduceIte, if_true, if_false, Option.toList, List.nil_append, List.cons_append]
    · intro D hD σ ms hms h h9
      obtain ⟨d, rfl⟩ : ∃ d, D = d + 3 := ⟨D - 3, by omega⟩
      have e108 := V108 (ro := ro) (d := d + 2) n t hn σ h.1 i (by omega) h.2.2.1
      have hp := h.2.2.1
      have hw := h.2.2.2.1
      have h9' : σ 90 9 = nI 5 := h9
      generalize hs : ma_up (ma_up (ma_up σ 90 8 (nI 1)) 90 9 (nI 6)) 90 6 (nI i) = s
      have s8 : s 90 8 = nI 1 := by rw [← hs]; simp (disch := first | assumption | omega | exact zb_fit | exact hbf .. | (simp (disch := omega) only [up_no, up_nk, up_at, u_cp_no] <;> (first | assumption | omega)) | (simp only [hkF] <;> omega) | decide) only [Nat.reduceEqDiff, hkF, z_add, z_mul, up_at, up_no, up_nk, u_cp_no, ma_bd, ↓reduceIte, if_true, if_false, Option.toList, List.nil_append, List.cons_append]
      have s9 : s 90 9 = nI 6 := by rw [← hs]; simp (disch := first | assumption | omega | exact zb_fit | exact hbf .. | (simp (disch := omega) only [up_no, up_nk, up_at, u_cp_no] <;> (first | assumption | omega)) | (simp only [hkF] <;> omega) | decide) only [Nat.reduceEqDiff, hkF, z_add, z_mul, up_at, up_no, up_nk, u_cp_no, ma_bd, ↓reduceIte, if_true, if_false, Option.toList, List.nil_append, List.cons_append]
      have w114 := W114 (ro := ro) (d := d + 2) s s8
      have w113 := fun x => W113 (ro := ro) (d := d + 2) s x s8
      have w116 := W116 (ro := ro) (d := d) s s8
      have w109 := fun x => W109 (ro := ro) (d := d + 1) s x s8
      have z56 : nI 6 - nI 1 = nI 5 := by decide
      refine ⟨ma_up s 90 9 (nI 5), ?_, by rw [up_nk (by decide), ← hs, up_at], by rw [up_nk (by decide)]; exact s8, fun j j1 j2 => ?_, fun j j1 j2 => by rw [up_no (by decide), ← hs, up_no (by decide), up_no (by decide), up_no (by decide)], fun o o1 o2 => by rw [up_no o1, ← hs, up_no o1, up_no o1, up_no o1]⟩
      · rcases hx with h33 | h40
        · simp (disch := first | assumption | omega | exact zb_fit | exact hbf .. | (simp (disch := omega) only [up_no, up_nk, up_at, u_cp_no] <;> (first | assumption | omega)) | (simp only [hkF] <;> omega) | decide) only [E114, S114, hw, e108, h33, h9', f1, hp, hs, s9, w114, w113, z56, z_eq, Nat.reduceEqDiff, Nat.reduceAdd, Nat.add_zero, hkF, z_add, z_mul, up_at, up_no, up_nk, u_cp_no, ma_bd, ↓reduceIte, if_true, if_false, Option.toList, List.nil_append, List.cons_append]
        · simp (disch := first | assumption | omega | exact zb_fit | exact hbf .. | (simp (disch := omega) only [up_no, up_nk, up_at, u_cp_no] <;> (first | assumption | omega)) | (simp only [hkF] <;> omega) | decide) only [E114, S114, hw, e108, h40, h9', f1, hp, hs, s9, w116, w109, z56, z_eq, Nat.reduceEqDiff, Nat.reduceAdd, Nat.add_zero, hkF, z_add, z_mul, up_at, up_no, up_nk, u_cp_no, ma_bd, ↓reduceIte, if_true, if_false, Option.toList, List.nil_append, List.cons_append]
      · by_cases j9 : j = 9
        · subst j9; rw [up_at]; exact h9'.symm
        · rw [up_nk j9, ← hs, up_nk j1, up_nk j9, up_nk j2]
  · have h33 : ¬ pkc n t i = nI 33 := fun h => hx (.inl h)
    have h40 : ¬ pkc n t i = nI 40 := fun h => hx (.inr h)
    refine ⟨tstF n t i, ?_, ?_, tst_GO i hi⟩
    · intro D hD σ sz hsz h
      obtain ⟨d, rfl⟩ : ∃ d, D = d + 3 := ⟨D - 3, by omega⟩
      exact X31t n t hn ht σ i sz _ hsz (by omega) h h33 h40
    · intro D hD σ ms hms h _
      obtain ⟨d, rfl⟩ : ∃ d, D = d + 2 := ⟨D - 2, by omega⟩
      exact M114t n act t hn hact ht σ i ms hms (by omega) h h33 h40
theorem FS (ro : ma_RO) (n act : Nat) (t : Nat → Nat) (hn : n ≤ 100) (hact : act < 5) (ht : ∀ i, i < n → t i ≤ 127) (r : Nat) (hr : r + 1 ≤ 5) (hF : ∀ i, i ≤ n → ∃ o, FX ro n t r i o ∧ FM ro n t act r i o ∧ GO n i (1 + 2 * r) o) (hS : ∀ i, i ≤ n → ∃ o, SX ro n t r i o ∧ SM ro n t act r i o ∧ GO n i (3 + 2 * r) o) (i : Nat) (hi : i ≤ n) : ∃ o, FX ro n t (r + 1) i o ∧ FM ro n t act (r + 1) i o ∧ GO n i (1 + 2 * (r + 1)) o := by
  have f0 : ma_fitI .boolean (nI 0) = true := by decide
  have ho1 : 5 - (r + 1) + 1 = 5 - r := by omega
  have ho5 : ¬ 5 - (r + 1) = 5 := by omega
  have hol : ¬ 5 ≤ 5 - (r + 1) := by omega
  have hol2 : 5 - (r + 1) < 5 := by omega
  have ne : ¬ (nI 40 = nI 33) := by decide
  have hsub : nI (5 - r) - nI 1 = nI (5 - (r + 1)) := by rw [z_sub (by omega)]; congr 1
  by_cases h33 : pkc n t i = nI 33
  · have hin := pkc_lt (by decide) h33
    obtain ⟨o, fx, fm, go⟩ := hF (i + 1) hin
    refine ⟨match o with | .inl f => .inl f | .inr (i', ts) => .inr (i', ts ++ [(6, 0, 0)]), ?_, ?_, ?_⟩
    · intro D hD σ sz hsz h
      obtain ⟨d, rfl⟩ : ∃ d, D = d + 2 := ⟨D - 2, by omega⟩
      have e36 := V36 (ro := ro) (d := d) n t hn σ h.1 i (by omega) h.2.1
      have hp := h.2.1
      have o1 := XO_place (i + 1) h
      have s1 := XS_of h o1
      obtain ⟨σ2, e31, o2⟩ := fx (d + 1) (by omega) _ _ (by simp; omega) s1
      have o12 := XO_seq o1 o2
      cases o with
      | inl f =>
        obtain ⟨σ3, e19, o3⟩ := XE_step (ro := ro) (d := d + 1) (nI 6) o12
        refine ⟨σ3, ?_, o3⟩
        simp (disch := first | assumption | omega | exact zb_fit | exact hbf .. | (simp (disch := omega) only [up_no, up_nk, up_at, u_cp_no] <;> (first | assumption | omega)) | (simp only [hkF] <;> omega) | decide) only [E31, S31, e36, h33, hp, z_lt, hol2, ho1, e31, e19, z_eq, Nat.reduceEqDiff, hkF, z_add, z_mul, up_at, up_no, up_nk, u_cp_no, ma_bd, ↓reduceIte, if_true, if_false, Option.toList, List.nil_append, List.cons_append]
      | inr p =>
        obtain ⟨i', ts⟩ := p
        obtain ⟨g1, g2, g3, g4, g5⟩ := go
        have s2 := XS_of h o12
        have e19 := V19 (ro := ro) (d := d + 1) σ2 _ (nI 6) s2.2.2.2 (by simp; omega)
        have o3 := XO_seq o12 (XO_step (6, 0, 0) s2)
        refine ⟨_, ?_, o3⟩
        simp (disch := first | assumption | omega | exact zb_fit | exact hbf .. | (simp (disch := omega) only [up_no, up_nk, up_at, u_cp_no] <;> (first | assumption | omega)) | (simp only [hkF] <;> omega) | decide) only [E31, S31, e36, h33, hp, z_lt, hol2, ho1, e31, e19, z_eq, Nat.reduceEqDiff, hkF, z_add, z_mul, up_at, up_no, up_nk, u_cp_no, ma_bd, ↓reduceIte, if_true, if_false, Option.toList, List.nil_append, List.cons_append]
        rfl
    · intro D hD σ ms hms h h9
      obtain ⟨d, rfl⟩ : ∃ d, D = d + 2 := ⟨D - 2, by omega⟩
      have e108 := V108 (ro := ro) (d := d + 1) n t hn σ h.1 i (by omega) h.2.2.1
      have hp := h.2.2.1
      have hw := h.2.2.2.1
      have u0 : ma_up σ 90 8 (nI 0) = σ := up_same hw
      generalize hs1 : ma_up (ma_up σ 90 9 (nI (5 - (r + 1) + 1))) 90 6 (nI (i + 1)) = s1
      have m1 : MS n t act s1 (i + 1) ms := by
        obtain ⟨q1, q2, q3, q4, q5⟩ := h
        refine ⟨⟨by rw [← hs1]; simp (disch := first | assumption | omega | exact zb_fit | exact hbf .. | (simp (disch := omega) only [up_no, up_nk, up_at, u_cp_no] <;> (first | assumption | omega)) | (simp only [hkF] <;> omega) | decide) only [Nat.reduceEqDiff, hkF, z_add, z_mul, up_at, up_no, up_nk, u_cp_no, ma_bd, ↓reduceIte, if_true, if_false, Option.toList, List.nil_append, List.cons_append]; exact q1.1, fun j hj => by rw [← hs1, up_no (by decide), up_no (by decide)]; exact q1.2 j hj⟩, by rw [← hs1]; simp (disch := first | assumption | omega | exact zb_fit | exact hbf .. | (simp (disch := omega) only [up_no, up_nk, up_at, u_cp_no] <;> (first | assumption | omega)) | (simp only [hkF] <;> omega) | decide) only [Nat.reduceEqDiff, hkF, z_add, z_mul, up_at, up_no, up_nk, u_cp_no, ma_bd, ↓reduceIte, if_true, if_false, Option.toList, List.nil_append, List.cons_append]; exact q2, by rw [← hs1]; simp (disch := first | assumption | omega | exact zb_fit | exact hbf .. | (simp (disch := omega) only [up_no, up_nk, up_at, u_cp_no] <;> (first | assumption | omega)) | (simp only [hkF] <;> omega) | decide) only [Nat.reduceEqDiff, hkF, z_add, z_mul, up_at, up_no, up_nk, u_cp_no, ma_bd, ↓reduceIte, if_true, if_false, Option.toList, List.nil_append, List.cons_append], by rw [← hs1]; simp (disch := first | assumption | omega | exact zb_fit | exact hbf .. | (simp (disch := omega) only [up_no, up_nk, up_at, u_cp_no] <;> (first | assumption | omega)) | (simp only [hkF] <;> omega) | decide) only [Nat.reduceEqDiff, hkF, z_add, z_mul, up_at, up_no, up_nk, u_cp_no, ma_bd, ↓reduceIte, if_true, if_false, Option.toList, List.nil_append, List.cons_append]; exact q4, by rw [← hs1, up_no (by decide), up_no (by decide)]; exact q5⟩
      have s19 : s1 90 9 = nI (5 - r) := by rw [← hs1, ho1]; simp (disch := first | assumption | omega | exact zb_fit | exact hbf .. | (simp (disch := omega) only [up_no, up_nk, up_at, u_cp_no] <;> (first | assumption | omega)) | (simp only [hkF] <;> omega) | decide) only [Nat.reduceEqDiff, hkF, z_add, z_mul, up_at, up_no, up_nk, u_cp_no, ma_bd, ↓reduceIte, if_true, if_false, Option.toList, List.nil_append, List.cons_append]
      have s18 : ma_up σ 90 9 (nI (5 - (r + 1) + 1)) 90 8 = nI 0 := by rw [up_nk (by decide)]; exact hw
      have s16 : ma_up σ 90 9 (nI (5 - (r + 1) + 1)) 90 6 = nI i := by rw [up_nk (by decide)]; exact hp
      obtain ⟨σ2, e114, o2⟩ := fm (d + 1) (by omega) s1 ms (by omega) m1 s19
      rw [ho1] at hs1 s18 s16
      cases o with
      | inl f =>
        obtain ⟨o3, q9⟩ := MO_open h9 (by rw [← hs1, ho1]) o2
        rw [ho1] at q9
        have w113 := W113 (ro := ro) (d := d + 1) σ2 (-1) o2.2.1
        refine ⟨_, ?_, o3⟩
        simp (disch := first | assumption | omega | exact zb_fit | exact hbf .. | (simp (disch := omega) only [up_no, up_nk, up_at, u_cp_no] <;> (first | assumption | omega)) | (simp only [hkF] <;> omega) | decide) only [E114, S114, hw, e108, h33, h9, ho5, f0, u0, ho1, s18, s16, hs1, e114, w113, q9, hsub, z_eq, Nat.reduceEqDiff, hkF, z_add, z_mul, up_at, up_no, up_nk, u_cp_no, ma_bd, ↓reduceIte, if_true, if_false, Option.toList, List.nil_append, List.cons_append]
      | inr p =>
        obtain ⟨i', ts⟩ := p
        obtain ⟨g1, g2, g3, g4, g5⟩ := go
        have s2 := MS_of hn hact m1 o2
        have e113 := V113 (ro := ro) (d := d + 1) n act t σ2 i' _ (-1) hact (by omega) s2
        have o23 := MO_seq hact (by omega) o2 (MO_step (6, 0, 0) hact (by omega) s2)
        obtain ⟨o3, q9⟩ := MO_open h9 (by rw [← hs1, ho1]) o23
        rw [ho1] at q9
        have hmc : mc (6, 0, 0) = -1 := rfl
        rw [hmc] at o3 q9
        refine ⟨_, ?_, o3⟩
        simp (disch := first | assumption | omega | exact zb_fit | exact hbf .. | (simp (disch := omega) only [up_no, up_nk, up_at, u_cp_no] <;> (first | assumption | omega)) | (simp only [hkF] <;> omega) | decide) only [E114, S114, hw, e108, h33, h9, ho5, f0, u0, ho1, s18, s16, hs1, e114, e113, q9, hsub, z_eq, Nat.reduceEqDiff, hkF, z_add, z_mul, up_at, up_no, up_nk, u_cp_no, ma_bd, ↓reduceIte, if_true, if_false, Option.toList, List.nil_append, List.cons_append]
    · cases o with
      | inl f => exact go
      | inr p =>
        obtain ⟨i', ts⟩ := p
        obtain ⟨g1, g2, g3, g4, g5⟩ := go
        refine ⟨by omega, g2, by rw [List.length_append, List.length_singleton]; omega, fun x hx => ?_, fun k hk => ?_⟩
        · rw [List.mem_append, List.mem_singleton] at hx
          rcases hx with hx | rfl
          · exact g4 x hx
          · exact ⟨by decide, by decide, by decide⟩
        · rw [List.foldl_append, g5 k (by omega)]
          show dpT (some (k + 1)) (6, 0, 0) = some (k + 1)
          unfold dpT
          dsimp only
          rw [if_neg (by decide), if_pos rfl, if_pos (by omega)]
  · by_cases h40 : pkc n t i = nI 40
    · have hin := pkc_lt (by decide) h40
      obtain ⟨o, sx, sm, go⟩ := hS (i + 1) hin
      refine ⟨match o with | .inl f => .inl f | .inr (i', ts) => if pkc n t i' = nI 41 then .inr (i' + 1, ts) else .inl i', ?_, ?_, ?_⟩
      · intro D hD σ sz hsz h
        obtain ⟨d, rfl⟩ : ∃ d, D = d + 3 := ⟨D - 3, by omega⟩
        have e36 := V36 (ro := ro) (d := d + 1) n t hn σ h.1 i (by omega) h.2.1
        have hp := h.2.1
        have o1 := XO_place (i + 1) h
        have s1 := XS_of h o1
        obtain ⟨σ2, e30, o2⟩ := sx (d + 2) (by omega) _ _ (by simp; omega) s1
        have o12 := XO_seq o1 o2
        cases o with
        | inl f =>
          have w35 := V35w (ro := ro) (d := d + 2) σ2 f 6 (by decide) (by have : f ≤ n := go; omega) o12.1
          refine ⟨σ2, ?_, o12⟩
          simp (disch := first | assumption | omega | exact zb_fit | exact hbf .. | (simp (disch := omega) only [up_no, up_nk, up_at, u_cp_no] <;> (first | assumption | omega)) | (simp only [hkF] <;> omega) | decide) only [E31, S31, e36, h40, ne, hp, z_lt, hol2, ho1, e30, w35, z_eq, Nat.reduceEqDiff, hkF, z_add, z_mul, up_at, up_no, up_nk, u_cp_no, ma_bd, ↓reduceIte, if_true, if_false, Option.toList, List.nil_append, List.cons_append]
        | inr p =>
          obtain ⟨i', ts⟩ := p
          obtain ⟨g1, g2, g3, g4, g5⟩ := go
          have s2 := XS_of h o12
          obtain ⟨σ3, e35, o3⟩ := V35 (ro := ro) (d := d) n t hn 6 _ (by decide) (by simp; omega) σ2 i' (by omega) s2
          have o123 := XO_seq o12 o3
          refine ⟨σ3, ?_, ?_⟩
          · simp (disch := first | assumption | omega | exact zb_fit | exact hbf .. | (simp (disch := omega) only [up_no, up_nk, up_at, u_cp_no] <;> (first | assumption | omega)) | (simp only [hkF] <;> omega) | decide) only [E31, S31, e36, h40, ne, hp, z_lt, hol2, ho1, e30, e35, z_eq, Nat.reduceEqDiff, hkF, z_add, z_mul, up_at, up_no, up_nk, u_cp_no, ma_bd, ↓reduceIte, if_true, if_false, Option.toList, List.nil_append, List.cons_append]
          · have hsp : spF n t (ma_chs 6) (ma_chs 6).length 0 i' = if pkc n t i' = nI 41 then .inr (i' + 1) else .inl i' := rfl
            rw [hsp] at o123
            dsimp only
            by_cases h41 : pkc n t i' = nI 41
            · rw [if_pos h41] at o123 ⊢
              have e : preO ([] ++ ts) (spO (.inr (i' + 1))) = .inr (i' + 1, ts) := by show Sum.inr (i' + 1, [] ++ ts ++ []) = _; rw [List.append_nil]; rfl
              rw [e] at o123; exact o123
            · rw [if_neg h41] at o123 ⊢
              exact o123
      · intro D hD σ ms hms h h9
        obtain ⟨d, rfl⟩ : ∃ d, D = d + 2 := ⟨D - 2, by omega⟩
        have e108 := V108 (ro := ro) (d := d + 1) n t hn σ h.1 i (by omega) h.2.2.1
        have hp := h.2.2.1
        have hw := h.2.2.2.1
        have u0 : ma_up σ 90 8 (nI 0) = σ := up_same hw
        generalize hs1 : ma_up (ma_up σ 90 9 (nI (5 - (r + 1) + 1))) 90 6 (nI (i + 1)) = s1
        have m1 : MS n t act s1 (i + 1) ms := by
          obtain ⟨q1, q2, q3, q4, q5⟩ := h
          refine ⟨⟨by rw [← hs1]; simp (disch := first | assumption | omega | exact zb_fit | exact hbf .. | (simp (disch := omega) only [up_no, up_nk, up_at, u_cp_no] <;> (first | assumption | omega)) | (simp only [hkF] <;> omega) | decide) only [Nat.reduceEqDiff, hkF, z_add, z_mul, up_at, up_no, up_nk, u_cp_no, ma_bd, ↓reduceIte, if_true, if_false, Option.toList, List.nil_append, List.cons_append]; exact q1.1, fun j hj => by rw [← hs1, up_no (by decide), up_no (by decide)]; exact q1.2 j hj⟩, by rw [← hs1]; simp (disch := first | assumption | omega | exact zb_fit | exact hbf .. | (simp (disch := omega) only [up_no, up_nk, up_at, u_cp_no] <;> (first | assumption | omega)) | (simp only [hkF] <;> omega) | decide) only [Nat.reduceEqDiff, hkF, z_add, z_mul, up_at, up_no, up_nk, u_cp_no, ma_bd, ↓reduceIte, if_true, if_false, Option.toList, List.nil_append, List.cons_append]; exact q2, by rw [← hs1]; simp (disch := first | assumption | omega | exact zb_fit | exact hbf .. | (simp (disch := omega) only [up_no, up_nk, up_at, u_cp_no] <;> (first | assumption | omega)) | (simp only [hkF] <;> omega) | decide) only [Nat.reduceEqDiff, hkF, z_add, z_mul, up_at, up_no, up_nk, u_cp_no, ma_bd, ↓reduceIte, if_true, if_false, Option.toList, List.nil_append, List.cons_append], by rw [← hs1]; simp (disch := first | assumption | omega | exact zb_fit | exact hbf .. | (simp (disch := omega) only [up_no, up_nk, up_at, u_cp_no] <;> (first | assumption | omega)) | (simp only [hkF] <;> omega) | decide) only [Nat.reduceEqDiff, hkF, z_add, z_mul, up_at, up_no, up_nk, u_cp_no, ma_bd, ↓reduceIte, if_true, if_false, Option.toList, List.nil_append, List.cons_append]; exact q4, by rw [← hs1, up_no (by decide), up_no (by decide)]; exact q5⟩
        have s19 : s1 90 9 = nI (5 - r) := by rw [← hs1, ho1]; simp (disch := first | assumption | omega | exact zb_fit | exact hbf .. | (simp (disch := omega) only [up_no, up_nk, up_at, u_cp_no] <;> (first | assumption | omega)) | (simp only [hkF] <;> omega) | decide) only [Nat.reduceEqDiff, hkF, z_add, z_mul, up_at, up_no, up_nk, u_cp_no, ma_bd, ↓reduceIte, if_true, if_false, Option.toList, List.nil_append, List.cons_append]
        have s18 : ma_up σ 90 9 (nI (5 - (r + 1) + 1)) 90 8 = nI 0 := by rw [up_nk (by decide)]; exact hw
        have s16 : ma_up σ 90 9 (nI (5 - (r + 1) + 1)) 90 6 = nI i := by rw [up_nk (by decide)]; exact hp
        obtain ⟨σ2, e116, o2⟩ := sm (d + 1) (by omega) s1 ms (by omega) m1 s19
        rw [ho1] at hs1 s18 s16
        cases o with
        | inl f =>
          obtain ⟨o3, q9⟩ := MO_open h9 (by rw [← hs1, ho1]) o2
          rw [ho1] at q9
          have w109 := W109 (ro := ro) (d := d) σ2 (nI 41) o2.2.1
          refine ⟨_, ?_, o3⟩
          simp (disch := first | assumption | omega | exact zb_fit | exact hbf .. | (simp (disch := omega) only [up_no, up_nk, up_at, u_cp_no] <;> (first | assumption | omega)) | (simp only [hkF] <;> omega) | decide) only [E114, S114, hw, e108, h40, ne, h9, ho5, f0, u0, ho1, s18, s16, hs1, e116, w109, q9, hsub, z_eq, Nat.reduceEqDiff, hkF, z_add, z_mul, up_at, up_no, up_nk, u_cp_no, ma_bd, ↓reduceIte, if_true, if_false, Option.toList, List.nil_append, List.cons_append]
        | inr p =>
          obtain ⟨i', ts⟩ := p
          obtain ⟨g1, g2, g3, g4, g5⟩ := go
          have s2 := MS_of hn hact m1 o2
          have e109 := V109 (ro := ro) (d := d) n act t hn σ2 i' _ (nI 41) (by omega) s2
          dsimp only
          by_cases h41 : pkc n t i' = nI 41
          · rw [if_pos h41] at e109 ⊢
            have o23 := MO_seq hact (by omega) o2 (MO_place (i' + 1) s2)
            obtain ⟨o3, q9⟩ := MO_open h9 (by rw [← hs1, ho1]) o23
            rw [ho1] at q9
            have e : preO ts (.inr (i' + 1, [])) = .inr (i' + 1, ts) := by show Sum.inr (i' + 1, ts ++ []) = _; rw [List.append_nil]
            rw [e] at o3
            refine ⟨_, ?_, o3⟩
            simp (disch := first | assumption | omega | exact zb_fit | exact hbf .. | (simp (disch := omega) only [up_no, up_nk, up_at, u_cp_no] <;> (first | assumption | omega)) | (simp only [hkF] <;> omega) | decide) only [E114, S114, hw, e108, h40, ne, h9, ho5, f0, u0, ho1, s18, s16, hs1, e116, e109, q9, hsub, z_eq, Nat.reduceEqDiff, hkF, z_add, z_mul, up_at, up_no, up_nk, u_cp_no, ma_bd, ↓reduceIte, if_true, if_false, Option.toList, List.nil_append, List.cons_append]
          · rw [if_neg h41] at e109 ⊢
            have o23 := MO_seq hact (by omega) o2 (MO_err s2)
            obtain ⟨o3, q9⟩ := MO_open h9 (by rw [← hs1, ho1]) o23
            rw [ho1] at q9
            refine ⟨_, ?_, o3⟩
            simp (disch := first | assumption | omega | exact zb_fit | exact hbf .. | (simp (disch := omega) only [up_no, up_nk, up_at, u_cp_no] <;> (first | assumption | omega)) | (simp only [hkF] <;> omega) | decide) only [E114, S114, hw, e108, h40, ne, h9, ho5, f0, u0, ho1, s18, s16, hs1, e116, e109, q9, hsub, z_eq, Nat.reduceEqDiff, hkF, z_add, z_mul, up_at, up_no, up_nk, u_cp_no, ma_bd, ↓reduceIte, if_true, if_false, Option.toList, List.nil_append, List.cons_append]
      · cases o with
        | inl f => exact go
        | inr p =>
          obtain ⟨i', ts⟩ := p
          obtain ⟨g1, g2, g3, g4, g5⟩ := go
          dsimp only
          by_cases h41 : pkc n t i' = nI 41
          · rw [if_pos h41]
            have := pkc_lt (by decide) h41
            exact ⟨by omega, this, by omega, g4, fun k hk => g5 k (by omega)⟩
          · rw [if_neg h41]; exact g2
    · refine ⟨tstF n t i, ?_, ?_, ?_⟩
      · intro D hD σ sz hsz h
        obtain ⟨d, rfl⟩ : ∃ d, D = d + 3 := ⟨D - 3, by omega⟩
        exact X31t n t hn ht σ i sz _ hsz (by omega) h h33 h40
      · intro D hD σ ms hms h _
        obtain ⟨d, rfl⟩ : ∃ d, D = d + 2 := ⟨D - 2, by omega⟩
        exact M114t n act t hn hact ht σ i ms hms (by omega) h h33 h40
      · have := tst_GO (t := t) i hi
        revert this
        cases tstF n t i with
        | inl f => exact id
        | inr p => exact fun ⟨g1, g2, g3, g4, g5⟩ => ⟨g1, g2, g3, g4, fun k hk => g5 k (by omega)⟩
