/-! Reading a house: what both readers keep between them. -/
abbrev Tok := Nat × Nat × Nat
abbrev Out := Sum Nat (Nat × List Tok)
def pkc (n : Nat) (t : Nat → Nat) (i : Nat) : Int32 := if i < n then nI (t i) else -1
def XT (n : Nat) (t : Nat → Nat) (σ : ma_H) : Prop := σ 1 4 = nI n ∧ ∀ i, i < n → σ 20 i = nI (t i)
def MT (n : Nat) (t : Nat → Nat) (σ : ma_H) : Prop := σ 90 7 = nI n ∧ ∀ i, i < n → σ 91 (123 + i) = nI (t i)
def XS (n : Nat) (t : Nat → Nat) (σ : ma_H) (i sz : Nat) : Prop := XT n t σ ∧ σ 69 2 = nI i ∧ σ 69 3 = -1 ∧ σ 65 5 = nI sz
def MS (n : Nat) (t : Nat → Nat) (act : Nat) (σ : ma_H) (i ms : Nat) : Prop := MT n t σ ∧ σ 90 5 = nI act ∧ σ 90 6 = nI i ∧ σ 90 8 = nI 0 ∧ σ 91 (228 + act) = nI ms
def XO (sz : Nat) (σ σ' : ma_H) : Out → Prop
  | .inl f => σ' 69 3 = nI f ∧ (∃ z, z ≤ 100 ∧ σ' 65 5 = nI z) ∧ (∀ j, ¬ j = 5 → σ' 65 j = σ 65 j) ∧ ∀ o, ¬ o = 65 → ¬ o = 68 → ¬ o = 69 → σ' o = σ o
  | .inr (i', ts) => σ' 69 2 = nI i' ∧ σ' 69 3 = -1 ∧ σ' 65 5 = nI (sz + ts.length) ∧ (∀ k (hk : k < ts.length), σ' 68 (sz + k) = xc ts[k]) ∧ (∀ k, k < sz → σ' 68 k = σ 68 k) ∧ (∀ j, ¬ j = 5 → σ' 65 j = σ 65 j) ∧ ∀ o, ¬ o = 65 → ¬ o = 68 → ¬ o = 69 → σ' o = σ o
def MO (act ms : Nat) (σ σ' : ma_H) : Out → Prop
  | .inl f => σ' 90 6 = nI f ∧ σ' 90 8 = nI 1 ∧ (∀ j, ¬ j = 6 → ¬ j = 8 → σ' 90 j = σ 90 j) ∧ (∀ j, ¬ j = 228 + act → ¬ (233 + 140 * act + ms ≤ j ∧ j < 373 + 140 * act) → σ' 91 j = σ 91 j) ∧ ∀ o, ¬ o = 90 → ¬ o = 91 → σ' o = σ o
  | .inr (i', ts) => σ' 90 6 = nI i' ∧ σ' 90 8 = nI 0 ∧ σ' 91 (228 + act) = nI (ms + ts.length) ∧ (∀ k (hk : k < ts.length), σ' 91 (233 + 140 * act + ms + k) = mc ts[k]) ∧ (∀ j, ¬ j = 6 → ¬ j = 8 → σ' 90 j = σ 90 j) ∧ (∀ j, ¬ j = 228 + act → ¬ (233 + 140 * act + ms ≤ j ∧ j < 373 + 140 * act) → σ' 91 j = σ 91 j) ∧ ∀ o, ¬ o = 90 → ¬ o = 91 → σ' o = σ o
def preO (a : List Tok) : Out → Out
  | .inl f => .inl f
  | .inr (i, ts) => .inr (i, a ++ ts)
theorem XT_c {n : Nat} {t : Nat → Nat} {σ σ' : ma_H} (h1 : σ' 1 = σ 1) (h20 : σ' 20 = σ 20) (h : XT n t σ) : XT n t σ' := by
  unfold XT; rw [h1, h20]; exact h
theorem XO_refl {n : Nat} {t : Nat → Nat} {σ : ma_H} {i sz : Nat} (h : XS n t σ i sz) : XO sz σ σ (.inr (i, [])) :=
  ⟨h.2.1, h.2.2.1, h.2.2.2, fun k hk => absurd hk (Nat.not_lt_zero k), fun _ _ => rfl, fun _ _ => rfl, fun _ _ _ _ => rfl⟩
theorem XO_place {n : Nat} {t : Nat → Nat} {σ : ma_H} {i sz : Nat} (i' : Nat) (h : XS n t σ i sz) : XO sz σ (ma_up σ 69 2 (nI i')) (.inr (i', [])) :=
  ⟨up_at _ _ _ _, by rw [up_nk (by decide)]; exact h.2.2.1, by rw [up_no (by decide)]; exact h.2.2.2, fun k hk => absurd hk (Nat.not_lt_zero k), fun k _ => by rw [up_no (by decide)], fun j _ => by rw [up_no (by decide)], fun o _ _ o3 => up_no o3⟩
theorem XO_err {n : Nat} {t : Nat → Nat} {σ : ma_H} {i sz : Nat} (f : Nat) (hsz : sz ≤ 100) (h : XS n t σ i sz) : XO sz σ (ma_up σ 69 3 (nI f)) (.inl f) :=
  ⟨up_at _ _ _ _, ⟨sz, hsz, by rw [up_no (by decide)]; exact h.2.2.2⟩, fun j _ => by rw [up_no (by decide)], fun o _ _ o3 => up_no o3⟩
theorem XO_step {n : Nat} {t : Nat → Nat} {σ : ma_H} {i sz : Nat} (tok : Tok) (h : XS n t σ i sz) : XO sz σ (ma_up (ma_up σ 68 sz (xc tok)) 65 5 (nI (sz + 1))) (.inr (i, [tok])) := by
  refine ⟨by rw [up_no (by decide), up_no (by decide)]; exact h.2.1, by rw [up_no (by decide), up_no (by decide)]; exact h.2.2.1, up_at _ _ _ _, fun k hk => ?_, fun k hk => by rw [up_no (by decide), up_nk (by omega)], fun j hj => by rw [up_nk hj, up_no (by decide)], fun o o1 o2 _ => by rw [up_no o1, up_no o2]⟩
  have : k = 0 := by simp only [List.length_singleton] at hk; omega
  subst this
  rw [up_no (by decide), Nat.add_zero, up_at]
  rfl
theorem XS_of {n : Nat} {t : Nat → Nat} {σ σ' : ma_H} {i sz i' : Nat} {a : List Tok} (h : XS n t σ i sz) (o : XO sz σ σ' (.inr (i', a))) : XS n t σ' i' (sz + a.length) :=
  ⟨XT_c (o.2.2.2.2.2.2 1 (by decide) (by decide) (by decide)) (o.2.2.2.2.2.2 20 (by decide) (by decide) (by decide)) h.1, o.1, o.2.1, o.2.2.1⟩
theorem getElem_app {a b : List Tok} {k : Nat} (hk : k < (a ++ b).length) : (a ++ b)[k] = if h : k < a.length then a[k] else b[k - a.length]'(by rw [List.length_append] at hk; omega) := by
  rw [List.getElem_append]
theorem XO_seq {sz : Nat} {σ σ1 σ2 : ma_H} {i : Nat} {a : List Tok} {o : Out} (h1 : XO sz σ σ1 (.inr (i, a))) (h2 : XO (sz + a.length) σ1 σ2 o) : XO sz σ σ2 (preO a o) := by
  obtain ⟨a1, a2, a3, a4, a5, a6, a7⟩ := h1
  cases o with
  | inl f =>
    obtain ⟨b1, b2, b3, b4⟩ := h2
    exact ⟨b1, b2, fun j hj => (b3 j hj).trans (a6 j hj), fun o o1 o2 o3 => (b4 o o1 o2 o3).trans (a7 o o1 o2 o3)⟩
  | inr p =>
    obtain ⟨i', ts⟩ := p
    obtain ⟨b1, b2, b3, b4, b5, b6, b7⟩ := h2
    refine ⟨b1, b2, by rw [b3, List.length_append, Nat.add_assoc], fun k hk => ?_, fun k hk => (b5 k (by omega)).trans (a5 k hk), fun j hj => (b6 j hj).trans (a6 j hj), fun o o1 o2 o3 => (b7 o o1 o2 o3).trans (a7 o o1 o2 o3)⟩
    rw [getElem_app hk]
    by_cases h : k < a.length
    · rw [dif_pos h, b5 _ (by omega)]; exact a4 k h
    · rw [dif_neg h]
      have hk' : k - a.length < ts.length := by rw [List.length_append] at hk; omega
      have := b4 (k - a.length) hk'
      rw [show sz + a.length + (k - a.length) = sz + k by omega] at this
      exact this
theorem MT_c {n act ms : Nat} {t : Nat → Nat} {σ σ' : ma_H} (hn : n ≤ 100) (ha : act < 5) (h7 : σ' 90 7 = σ 90 7) (e : ∀ j, ¬ j = 228 + act → ¬ (233 + 140 * act + ms ≤ j ∧ j < 373 + 140 * act) → σ' 91 j = σ 91 j) (h : MT n t σ) : MT n t σ' :=
  ⟨by rw [h7]; exact h.1, fun i hi => by rw [e _ (by omega) (by omega)]; exact h.2 i hi⟩
theorem MO_refl {n act : Nat} {t : Nat → Nat} {σ : ma_H} {i ms : Nat} (h : MS n t act σ i ms) : MO act ms σ σ (.inr (i, [])) :=
  ⟨h.2.2.1, h.2.2.2.1, h.2.2.2.2, fun k hk => absurd hk (Nat.not_lt_zero k), fun _ _ _ => rfl, fun _ _ _ => rfl, fun _ _ _ => rfl⟩
theorem MO_place {n act : Nat} {t : Nat → Nat} {σ : ma_H} {i ms : Nat} (i' : Nat) (h : MS n t act σ i ms) : MO act ms σ (ma_up σ 90 6 (nI i')) (.inr (i', [])) :=
  ⟨up_at _ _ _ _, by rw [up_nk (by decide)]; exact h.2.2.2.1, by rw [up_no (by decide)]; exact h.2.2.2.2, fun k hk => absurd hk (Nat.not_lt_zero k), fun j j1 _ => by rw [up_nk j1], fun j _ _ => by rw [up_no (by decide)], fun o o1 _ => up_no o1⟩
theorem MO_err {n act : Nat} {t : Nat → Nat} {σ : ma_H} {i ms : Nat} (h : MS n t act σ i ms) : MO act ms σ (ma_up σ 90 8 (nI 1)) (.inl i) :=
  ⟨by rw [up_nk (by decide)]; exact h.2.2.1, up_at _ _ _ _, fun j _ j2 => by rw [up_nk j2], fun j _ _ => by rw [up_no (by decide)], fun o o1 _ => up_no o1⟩
theorem MO_step {n act : Nat} {t : Nat → Nat} {σ : ma_H} {i ms : Nat} (tok : Tok) (ha : act < 5) (hm : ms < 140) (h : MS n t act σ i ms) : MO act ms σ (ma_up (ma_up σ 91 (233 + 140 * act + ms) (mc tok)) 91 (228 + act) (nI (ms + 1))) (.inr (i, [tok])) := by
  refine ⟨by rw [up_no (by decide), up_no (by decide)]; exact h.2.2.1, by rw [up_no (by decide), up_no (by decide)]; exact h.2.2.2.1, up_at _ _ _ _, fun k hk => ?_, fun j _ _ => by rw [up_no (by decide), up_no (by decide)], fun j j1 j2 => by rw [up_nk j1, up_nk (by omega)], fun o _ o2 => by rw [up_no o2, up_no o2]⟩
  have : k = 0 := by simp only [List.length_singleton] at hk; omega
  subst this
  show ma_up (ma_up σ 91 (233 + 140 * act + ms) (mc tok)) 91 (228 + act) (nI (ms + 1)) 91 (233 + 140 * act + ms) = mc tok
  rw [up_nk (by omega), up_at]
theorem MS_of {n act : Nat} {t : Nat → Nat} {σ σ' : ma_H} {i ms i' : Nat} {a : List Tok} (hn : n ≤ 100) (ha : act < 5) (h : MS n t act σ i ms) (o : MO act ms σ σ' (.inr (i', a))) : MS n t act σ' i' (ms + a.length) :=
  ⟨MT_c hn ha (o.2.2.2.2.1 7 (by decide) (by decide)) o.2.2.2.2.2.1 h.1, by rw [o.2.2.2.2.1 5 (by decide) (by decide)]; exact h.2.1, o.1, o.2.1, o.2.2.1⟩
theorem MO_seq {act ms : Nat} {σ σ1 σ2 : ma_H} {i : Nat} {a : List Tok} {o : Out} (ha : act < 5) (hl : ms + a.length ≤ 140) (h1 : MO act ms σ σ1 (.inr (i, a))) (h2 : MO act (ms + a.length) σ1 σ2 o) : MO act ms σ σ2 (preO a o) := by
  obtain ⟨a1, a2, a3, a4, a5, a6, a7⟩ := h1
  cases o with
  | inl f =>
    obtain ⟨b1, b2, b3, b4, b5⟩ := h2
    exact ⟨b1, b2, fun j j1 j2 => (b3 j j1 j2).trans (a5 j j1 j2), fun j j1 j2 => (b4 j j1 (by omega)).trans (a6 j j1 j2), fun o o1 o2 => (b5 o o1 o2).trans (a7 o o1 o2)⟩
  | inr p =>
    obtain ⟨i', ts⟩ := p
    obtain ⟨b1, b2, b3, b4, b5, b6, b7⟩ := h2
    refine ⟨b1, b2, by rw [b3, List.length_append, Nat.add_assoc], fun k hk => ?_, fun j j1 j2 => (b5 j j1 j2).trans (a5 j j1 j2), fun j j1 j2 => (b6 j j1 (by omega)).trans (a6 j j1 j2), fun o o1 o2 => (b7 o o1 o2).trans (a7 o o1 o2)⟩
    rw [getElem_app hk]
    by_cases h : k < a.length
    · rw [dif_pos h, b6 _ (by omega) (by omega)]; exact a4 k h
    · rw [dif_neg h]
      have hk' : k - a.length < ts.length := by rw [List.length_append] at hk; omega
      have := b4 (k - a.length) hk'
      rw [show 233 + 140 * act + (ms + a.length) + (k - a.length) = 233 + 140 * act + ms + k by omega] at this
      exact this
/-- in the wrong state nothing more is written -/
theorem up_same {σ : ma_H} {o k : Nat} {v : Int32} (h : σ o k = v) : ma_up σ o k v = σ := by
  funext o' k'
  unfold ma_up
  by_cases e : o' = o ∧ k' = k
  · rw [if_pos e, e.1, e.2, h]
  · rw [if_neg e]
theorem pkc_in {n : Nat} {t : Nat → Nat} {i : Nat} (h : i < n) : pkc n t i = nI (t i) := if_pos h
theorem pkc_out {n : Nat} {t : Nat → Nat} {i : Nat} (h : ¬ i < n) : pkc n t i = -1 := if_neg h
theorem V47 {ro : ma_RO} {d : Nat} (n : Nat) (t : Nat → Nat) (hn : n ≤ 100) (σ : ma_H) (h : XT n t σ) (i : Nat) (hi : i < 2 ^ 30) : ma_ev ro d 47 [.ref 1, .int (nI i)] SH σ = some (some (.int (pkc n t i)), SH, σ) := by
  obtain ⟨h1, h2⟩ := h
  have ha : hk_alen (1 + 19) = 100 := rfl
  by_cases hin : i < n
  · have hl : i < hk_len (1 + 19) := Nat.lt_of_lt_of_le hin hn
    have h100 : i < 100 := by omega
    have hv := h2 i hin
    rw [pkc_in hin]
    simp (disch := first | assumption | omega | exact zb_fit | exact hbf .. | (simp (disch := omega) only [up_no, up_nk, up_at, u_cp_no] <;> (first | assumption | omega)) | (simp only [hkF] <;> omega) | decide) only [E47, S47, h1, z_lt, Nat.not_lt_zero, hin, ha, h100, hv, hkF, z_add, z_mul, up_at, up_no, up_nk, u_cp_no, ma_bd, ↓reduceIte, if_true, if_false, Option.toList, List.nil_append, List.cons_append]
  · rw [pkc_out hin]
    simp (disch := first | assumption | omega | exact zb_fit | exact hbf .. | (simp (disch := omega) only [up_no, up_nk, up_at, u_cp_no] <;> (first | assumption | omega)) | (simp only [hkF] <;> omega) | decide) only [E47, S47, h1, z_lt, Nat.not_lt_zero, hin, ha, hkF, z_add, z_mul, up_at, up_no, up_nk, u_cp_no, ma_bd, ↓reduceIte, if_true, if_false, Option.toList, List.nil_append, List.cons_append]
theorem V36 {ro : ma_RO} {d : Nat} (n : Nat) (t : Nat → Nat) (hn : n ≤ 100) (σ : ma_H) (h : XT n t σ) (i : Nat) (hi : i < 2 ^ 30) (hp : σ 69 2 = nI i) : ma_ev ro (d + 1) 36 [.ref 69] SH σ = some (some (.int (pkc n t i)), SH, σ) := by
  have e := V47 (ro := ro) (d := d) n t hn σ h i hi
  simp (disch := first | assumption | omega | exact zb_fit | exact hbf .. | (simp (disch := omega) only [up_no, up_nk, up_at, u_cp_no] <;> (first | assumption | omega)) | (simp only [hkF] <;> omega) | decide) only [E36, S36, hp, e, hkF, z_add, z_mul, up_at, up_no, up_nk, u_cp_no, ma_bd, ↓reduceIte, if_true, if_false, Option.toList, List.nil_append, List.cons_append]
theorem V108 {ro : ma_RO} {d : Nat} (n : Nat) (t : Nat → Nat) (hn : n ≤ 100) (σ : ma_H) (h : MT n t σ) (i : Nat) (hi : i < 2 ^ 30) (hp : σ 90 6 = nI i) : ma_ev ro d 108 [.ref 90] SH σ = some (some (.int (pkc n t i)), SH, σ) := by
  obtain ⟨h1, h2⟩ := h
  by_cases hin : i < n
  · have hl : 123 + i < 933 := by omega
    have hv := h2 i hin
    rw [pkc_in hin]
    simp (disch := first | assumption | omega | exact zb_fit | exact hbf .. | (simp (disch := omega) only [up_no, up_nk, up_at, u_cp_no] <;> (first | assumption | omega)) | (simp only [hkF] <;> omega) | decide) only [E108, S108, h1, hp, z_lt, hin, hv, hkF, z_add, z_mul, up_at, up_no, up_nk, u_cp_no, ma_bd, ↓reduceIte, if_true, if_false, Option.toList, List.nil_append, List.cons_append]
  · rw [pkc_out hin]
    simp (disch := first | assumption | omega | exact zb_fit | exact hbf .. | (simp (disch := omega) only [up_no, up_nk, up_at, u_cp_no] <;> (first | assumption | omega)) | (simp only [hkF] <;> omega) | decide) only [E108, S108, h1, hp, z_lt, hin, hkF, z_add, z_mul, up_at, up_no, up_nk, u_cp_no, ma_bd, ↓reduceIte, if_true, if_false, Option.toList, List.nil_append, List.cons_append]
theorem V19 {ro : ma_RO} {d : Nat} (σ : ma_H) (sz : Nat) (x : Int32) (hs : σ 65 5 = nI sz) (hsz : sz < 100) : ma_ev ro d 19 [.ref 65, .int x] SH σ = some (none, SH, ma_up (ma_up σ 68 sz x) 65 5 (nI (sz + 1))) := by
  have ha : hk_alen (65 + 3) = 100 := rfl
  have hl : sz < hk_len (65 + 3) := hsz
  simp (disch := first | assumption | omega | exact zb_fit | exact hbf .. | (simp (disch := omega) only [up_no, up_nk, up_at, u_cp_no] <;> (first | assumption | omega)) | (simp only [hkF] <;> omega) | decide) only [E19, S19, hs, z_lt, Nat.not_lt_zero, ha, hsz, hkF, z_add, z_mul, up_at, up_no, up_nk, u_cp_no, ma_bd, ↓reduceIte, if_true, if_false, Option.toList, List.nil_append, List.cons_append]
theorem V19f {ro : ma_RO} {d : Nat} (σ : ma_H) (x : Int32) (hs : σ 65 5 = nI 100) : ma_ev ro d 19 [.ref 65, .int x] SH σ = some (none, SH, σ) := by
  have ha : hk_alen (65 + 3) = 100 := rfl
  simp (disch := first | assumption | omega | exact zb_fit | exact hbf .. | (simp (disch := omega) only [up_no, up_nk, up_at, u_cp_no] <;> (first | assumption | omega)) | (simp only [hkF] <;> omega) | decide) only [E19, S19, hs, z_lt, Nat.not_lt_zero, ha, Nat.lt_irrefl, hkF, z_add, z_mul, up_at, up_no, up_nk, u_cp_no, ma_bd, ↓reduceIte, if_true, if_false, Option.toList, List.nil_append, List.cons_append]
/-- a step behind a fault changes nothing that counts -/
theorem XE_step {ro : ma_RO} {d : Nat} {sz f : Nat} {σ σ' : ma_H} (x : Int32) (h : XO sz σ σ' (.inl f)) : ∃ σ'', ma_ev ro d 19 [.ref 65, .int x] SH σ' = some (none, SH, σ'') ∧ XO sz σ σ'' (.inl f) := by
  obtain ⟨a1, ⟨z, hz, hz'⟩, a3, a4⟩ := h
  by_cases h100 : z = 100
  · subst h100
    exact ⟨σ', V19f σ' x hz', a1, ⟨100, hz, hz'⟩, a3, a4⟩
  · refine ⟨_, V19 σ' z x hz' (by omega), ?_, ⟨z + 1, by omega, up_at _ _ _ _⟩, fun j hj => ?_, fun o o1 o2 o3 => ?_⟩
    · rw [up_no (by decide), up_no (by decide)]; exact a1
    · rw [up_nk hj, up_no (by decide)]; exact a3 j hj
    · rw [up_no o1, up_no o2]; exact a4 o o1 o2 o3
theorem V113 {ro : ma_RO} {d : Nat} (n act : Nat) (t : Nat → Nat) (σ : ma_H) (i ms : Nat) (x : Int32) (ha : act < 5) (hm : ms < 140) (h : MS n t act σ i ms) : ma_ev ro d 113 [.ref 90, .int x] SH σ = some (none, SH, ma_up (ma_up σ 91 (233 + 140 * act + ms) x) 91 (228 + act) (nI (ms + 1))) := by
  obtain ⟨-, h5, -, h8, hms⟩ := h
  have p1 : 228 + act < 933 := by omega
  have p2 : 233 + 140 * act + ms < 933 := by omega
  simp (disch := first | assumption | omega | exact zb_fit | exact hbf .. | (simp (disch := omega) only [up_no, up_nk, up_at, u_cp_no] <;> (first | assumption | omega)) | (simp only [hkF] <;> omega) | decide) only [E113, S113, h5, h8, hms, z_eq, Nat.reduceEqDiff, hkF, z_add, z_mul, up_at, up_no, up_nk, u_cp_no, ma_bd, ↓reduceIte, if_true, if_false, Option.toList, List.nil_append, List.cons_append]
theorem W113 {ro : ma_RO} {d : Nat} (σ : ma_H) (x : Int32) (h : σ 90 8 = nI 1) : ma_ev ro d 113 [.ref 90, .int x] SH σ = some (none, SH, σ) := by
  simp (disch := first | assumption | omega | exact zb_fit | exact hbf .. | (simp (disch := omega) only [up_no, up_nk, up_at, u_cp_no] <;> (first | assumption | omega)) | (simp only [hkF] <;> omega) | decide) only [E113, S113, h, z_eq, Nat.reduceEqDiff, hkF, z_add, z_mul, up_at, up_no, up_nk, u_cp_no, ma_bd, ↓reduceIte, if_true, if_false, Option.toList, List.nil_append, List.cons_append]
theorem W114 {ro : ma_RO} {d : Nat} (σ : ma_H) (h : σ 90 8 = nI 1) : ma_ev ro d 114 [.ref 90] SH σ = some (none, SH, σ) := by
  simp (disch := first | assumption | omega | exact zb_fit | exact hbf .. | (simp (disch := omega) only [up_no, up_nk, up_at, u_cp_no] <;> (first | assumption | omega)) | (simp only [hkF] <;> omega) | decide) only [E114, S114, h, z_eq, Nat.reduceEqDiff, hkF, z_add, z_mul, up_at, up_no, up_nk, u_cp_no, ma_bd, ↓reduceIte, if_true, if_false, Option.toList, List.nil_append, List.cons_append]
theorem W115 {ro : ma_RO} {d : Nat} (σ : ma_H) (h : σ 90 8 = nI 1) : ma_ev ro (d + 1) 115 [.ref 90] SH σ = some (none, SH, σ) := by
  have e := W114 (ro := ro) (d := d) σ h
  simp (disch := first | assumption | omega | exact zb_fit | exact hbf .. | (simp (disch := omega) only [up_no, up_nk, up_at, u_cp_no] <;> (first | assumption | omega)) | (simp only [hkF] <;> omega) | decide) only [E115, S115, Sh115_4, e, h, z_eq, Nat.reduceEqDiff, hkF, z_add, z_mul, up_at, up_no, up_nk, u_cp_no, ma_bd, ↓reduceIte, if_true, if_false, Option.toList, List.nil_append, List.cons_append]
theorem W116 {ro : ma_RO} {d : Nat} (σ : ma_H) (h : σ 90 8 = nI 1) : ma_ev ro (d + 2) 116 [.ref 90] SH σ = some (none, SH, σ) := by
  have e := W115 (ro := ro) (d := d) σ h
  simp (disch := first | assumption | omega | exact zb_fit | exact hbf .. | (simp (disch := omega) only [up_no, up_nk, up_at, u_cp_no] <;> (first | assumption | omega)) | (simp only [hkF] <;> omega) | decide) only [E116, S116, Sh116_4, e, h, z_eq, Nat.reduceEqDiff, hkF, z_add, z_mul, up_at, up_no, up_nk, u_cp_no, ma_bd, ↓reduceIte, if_true, if_false, Option.toList, List.nil_append, List.cons_append]
theorem W109 {ro : ma_RO} {d : Nat} (σ : ma_H) (x : Int32) (h : σ 90 8 = nI 1) : ma_ev ro (d + 1) 109 [.ref 90, .int x] SH σ = some (none, SH, σ) := by
  have f1 : ma_fitI .boolean (nI 1) = true := by decide
  have e1 := @up_same σ 90 8 (nI 1) h
  have e2 : ma_up σ 90 6 (σ 90 6) = σ := up_same rfl
  simp (disch := first | assumption | omega | exact zb_fit | exact hbf .. | (simp (disch := omega) only [up_no, up_nk, up_at, u_cp_no] <;> (first | assumption | omega)) | (simp only [hkF] <;> omega) | decide) only [E109, S109, h, z_eq, Nat.reduceEqDiff, f1, e1, z_a0, e2, hkF, z_add, z_mul, up_at, up_no, up_nk, u_cp_no, ma_bd, ↓reduceIte, if_true, if_false, Option.toList, List.nil_append, List.cons_append]
