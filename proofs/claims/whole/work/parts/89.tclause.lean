/-! Reading a house: a clause. -/
abbrev CO := Sum Nat (Nat × Sum Nat (Bool × Nat × List Tok))
def XC (sz c : Nat) (σ σ' : ma_H) : CO → Prop
  | .inl f => σ' 69 3 = nI f ∧ ∀ o, (o < 65 ∨ 69 < o) → σ' o = σ o
  | .inr (i', .inl w) => σ' 69 2 = nI i' ∧ σ' 69 3 = -1 ∧ σ' 65 0 = nI w ∧ (∀ j, ¬ j = 0 → σ' 65 j = σ 65 j) ∧ σ' 66 = σ 66 ∧ σ' 67 = σ 67 ∧ (∀ k, k < sz → σ' 68 k = σ 68 k) ∧ σ' 65 5 = nI sz ∧ ∀ o, (o < 65 ∨ 69 < o) → σ' o = σ o
  | .inr (i', .inr l) => σ' 69 2 = nI i' ∧ σ' 69 3 = -1 ∧ σ' 65 3 = nI (c + 1) ∧ σ' 65 5 = nI (sz + l.2.2.length) ∧ σ' 65 0 = σ 65 0 ∧ σ' 66 c = wX l ∧ (∀ k, ¬ k = c → σ' 66 k = σ 66 k) ∧ σ' 67 c = nI (sz + l.2.2.length) ∧ (∀ k, ¬ k = c → σ' 67 k = σ 67 k) ∧ (∀ k (hk : k < l.2.2.length), σ' 68 (sz + k) = xc l.2.2[k]) ∧ (∀ k, k < sz → σ' 68 k = σ 68 k) ∧ ∀ o, (o < 65 ∨ 69 < o) → σ' o = σ o
def MC (act ms : Nat) (σ σ' : ma_H) : CO → Prop
  | .inl f => σ' 90 6 = nI f ∧ σ' 90 8 = nI 1 ∧ (∀ j, ¬ j = 6 → ¬ j = 8 → σ' 90 j = σ 90 j) ∧ (∀ j, ¬ j = 223 + act → ¬ j = 228 + act → ¬ (233 + 140 * act ≤ j ∧ j < 373 + 140 * act) → σ' 91 j = σ 91 j) ∧ ∀ o, ¬ o = 90 → ¬ o = 91 → σ' o = σ o
  | .inr (i', .inl w) => σ' 90 6 = nI i' ∧ σ' 90 8 = nI 0 ∧ (∀ j, ¬ j = 6 → ¬ j = 8 → σ' 90 j = σ 90 j) ∧ σ' 91 (223 + act) = nI w ∧ σ' 91 (228 + act) = nI ms ∧ (∀ j, ¬ j = 223 + act → ¬ j = 228 + act → ¬ (233 + 140 * act + ms ≤ j ∧ j < 373 + 140 * act) → σ' 91 j = σ 91 j) ∧ ∀ o, ¬ o = 90 → ¬ o = 91 → σ' o = σ o
  | .inr (i', .inr l) => σ' 90 6 = nI i' ∧ σ' 90 8 = nI 0 ∧ (∀ j, ¬ j = 6 → ¬ j = 8 → σ' 90 j = σ 90 j) ∧ σ' 91 (228 + act) = nI (ms + l.2.2.length + 1) ∧ (∀ k (hk : k < l.2.2.length), σ' 91 (233 + 140 * act + ms + k) = mc l.2.2[k]) ∧ σ' 91 (233 + 140 * act + ms + l.2.2.length) = wM l ∧ (∀ j, ¬ j = 228 + act → ¬ (233 + 140 * act + ms ≤ j ∧ j < 373 + 140 * act) → σ' 91 j = σ 91 j) ∧ ∀ o, ¬ o = 90 → ¬ o = 91 → σ' o = σ o
def GC (n i : Nat) : CO → Prop
  | .inl f => f ≤ n
  | .inr (i', .inl w) => i < i' ∧ i' ≤ n ∧ w < 100
  | .inr (i', .inr l) => i < i' ∧ i' ≤ n ∧ l.2.2.length + 1 ≤ i' - i ∧ clOk l
def CX (ro : ma_RO) (n : Nat) (t : Nat → Nat) (i : Nat) (o : CO) : Prop := ∀ D, 22 ≤ D → ∀ (σ : ma_H) sz c, sz ≤ i → c < 10 → XS n t σ i sz → σ 65 3 = nI c → ∃ σ', ma_ev ro D 28 [.ref 69] SH σ = some (none, SH, σ') ∧ XC sz c σ σ' o
def CM (ro : ma_RO) (n : Nat) (t : Nat → Nat) (act i : Nat) (o : CO) : Prop := ∀ D, 24 ≤ D → ∀ (σ : ma_H) ms, ms ≤ i → MS n t act σ i ms → σ 90 9 = nI 0 → ∃ σ', ma_ev ro D 120 [.ref 90] SH σ = some (none, SH, σ') ∧ MC act ms σ σ' o
theorem V21 {ro : ma_RO} {d : Nat} (σ : ma_H) (c : Nat) (w y : Int32) (h3 : σ 65 3 = nI c) (hc : c < 10) (h5 : σ 65 5 = y) : ma_ev ro d 21 [.ref 65, .int w] SH σ = some (none, SH, ma_up (ma_up (ma_up σ 66 c w) 67 c y) 65 3 (nI (c + 1))) := by
  have ha1 : hk_alen (65 + 1) = 10 := rfl
  have ha2 : hk_alen (65 + 2) = 10 := rfl
  have hl1 : c < hk_len (65 + 1) := hc
  have hl2 : c < hk_len (65 + 2) := hc
  simp (disch := first | assumption | omega | exact zb_fit | exact hbf .. | (simp (disch := omega) only [up_no, up_nk, up_at, u_cp_no] <;> (first | assumption | omega)) | (simp only [hkF] <;> omega) | decide) only [E21, S21, h3, h5, z_lt, Nat.not_lt_zero, ha1, ha2, hc, hkF, z_add, z_mul, up_at, up_no, up_nk, u_cp_no, ma_bd, ↓reduceIte, if_true, if_false, Option.toList, List.nil_append, List.cons_append]
theorem V119 {ro : ma_RO} {d : Nat} (n : Nat) (t : Nat → Nat) (hn : n ≤ 100) (σ : ma_H) (h : MT n t σ) (i : Nat) (hi : i < 2 ^ 30) (hp : σ 90 6 = nI i) : ma_ev ro d 119 [.ref 90] SH σ = some (some (.int (pkc n t (i + 1))), SH, σ) := by
  obtain ⟨h1, h2⟩ := h
  by_cases hin : i + 1 < n
  · have hl : 123 + i + 1 < 933 := by omega
    have hv : σ 91 (123 + i + 1) = nI (t (i + 1)) := by rw [show 123 + i + 1 = 123 + (i + 1) by omega]; exact h2 (i + 1) hin
    rw [pkc_in hin]
    simp (disch := first | assumption | omega | exact zb_fit | exact hbf .. | (simp (disch := omega) only [up_no, up_nk, up_at, u_cp_no] <;> (first | assumption | omega)) | (simp only [hkF] <;> omega) | decide) only [E119, S119, h1, hp, z_lt, hin, hv, hkF, z_add, z_mul, up_at, up_no, up_nk, u_cp_no, ma_bd, ↓reduceIte, if_true, if_false, Option.toList, List.nil_append, List.cons_append]
  · rw [pkc_out hin]
    simp (disch := first | assumption | omega | exact zb_fit | exact hbf .. | (simp (disch := omega) only [up_no, up_nk, up_at, u_cp_no] <;> (first | assumption | omega)) | (simp only [hkF] <;> omega) | decide) only [E119, S119, h1, hp, z_lt, hin, hkF, z_add, z_mul, up_at, up_no, up_nk, u_cp_no, ma_bd, ↓reduceIte, if_true, if_false, Option.toList, List.nil_append, List.cons_append]
/-- word ahead, then a number -/
def wnF (n : Nat) (t : Nat → Nat) (s i : Nat) : Sum Nat (Nat × Nat) := match spF n t (ma_chs s) (ma_chs s).length 0 i with
  | .inl f => .inl f
  | .inr i1 => numF n t i1
theorem spF_le (n : Nat) (t : Nat → Nat) (s : Nat) (hs : s < 7) : ∀ m k i, k + m = (ma_chs s).length → i ≤ n → (∀ f, spF n t (ma_chs s) m k i = .inl f → f ≤ n) ∧ (∀ j, spF n t (ma_chs s) m k i = .inr j → j = i + m ∧ j ≤ n) := by
  intro m
  induction m with
  | zero => intro k i _ hi; exact ⟨fun f h => (by cases h), fun j h => (by cases h; exact ⟨rfl, hi⟩)⟩
  | succ m ih =>
    intro k i hk hi
    by_cases hc : pkc n t i = (ma_chs s).getD k 0
    · have hin : i < n := by
        by_cases h : i < n
        · exact h
        · rw [pkc_out h] at hc; exact absurd hc (chs_pos s hs k (by omega))
      obtain ⟨i1, i2⟩ := ih (k + 1) (i + 1) (by omega) hin
      rw [show spF n t (ma_chs s) (m + 1) k i = spF n t (ma_chs s) m (k + 1) (i + 1) from if_pos hc]
      exact ⟨i1, fun j h => by obtain ⟨a, b⟩ := i2 j h; exact ⟨by omega, b⟩⟩
    · rw [show spF n t (ma_chs s) (m + 1) k i = .inl i from if_neg hc]
      exact ⟨fun f h => (by cases h; exact hi), fun j h => (by cases h)⟩
theorem wn_X {ro : ma_RO} {d : Nat} (n : Nat) (t : Nat → Nat) (hn : n ≤ 100) (ht : ∀ i, i < n → t i ≤ 127) (s : Nat) (hs : s < 7) (σ : ma_H) (i sz : Nat) (hsz : sz ≤ 100) (hi : i ≤ n) (h : XS n t σ i sz) : ∃ σ1 σ2, ma_ev ro (d + 2) 35 [.ref 69, .ref (1000000 + s)] SH σ = some (none, SH, σ1) ∧ ma_ev ro (d + 2) 33 [.ref 69] SH σ1 = some (some (.int (nI (numV (wnF n t s i)))), SH, σ2) ∧ XO sz σ σ2 (numO (wnF n t s i)) := by
  obtain ⟨σ1, e1, o1⟩ := V35 (ro := ro) (d := d) n t hn s sz hs hsz σ i (by omega) h
  obtain ⟨l1, l2⟩ := spF_le n t s hs (ma_chs s).length 0 i (by omega) hi
  unfold wnF
  cases hsp : spF n t (ma_chs s) (ma_chs s).length 0 i with
  | inl f =>
    rw [hsp] at o1
    exact ⟨σ1, σ1, e1, V33w σ1 f (by have := l1 f hsp; omega) o1.1, o1⟩
  | inr i1 =>
    rw [hsp] at o1
    obtain ⟨-, l3⟩ := l2 i1 hsp
    have s1 := XS_of h o1
    obtain ⟨σ2, e2, o2⟩ := V33 (ro := ro) (d := d) n t hn ht σ1 i1 _ (by simpa using hsz) (by omega) s1
    refine ⟨σ1, σ2, e1, e2, ?_⟩
    have := XO_seq o1 o2
    dsimp only
    revert this
    cases numF n t i1 <;> exact id
theorem wn_M {ro : ma_RO} {d : Nat} (n act : Nat) (t : Nat → Nat) (hn : n ≤ 100) (hact : act < 5) (ht : ∀ i, i < n → t i ≤ 127) (s : Nat) (hs : s < 7) (σ : ma_H) (i ms : Nat) (hms : ms ≤ 140) (hi : i ≤ n) (h : MS n t act σ i ms) : ∃ σ1 σ2, ma_ev ro (d + 2) 110 [.ref 90, .ref (1000000 + s)] SH σ = some (none, SH, σ1) ∧ ma_ev ro (d + 2) 111 [.ref 90] SH σ1 = some (some (.int (nI (numV (wnF n t s i)))), SH, σ2) ∧ MO act ms σ σ2 (numO (wnF n t s i)) := by
  obtain ⟨σ1, e1, o1⟩ := V110 (ro := ro) (d := d) n act t hn hact s ms hs hms σ i (by omega) h
  obtain ⟨l1, l2⟩ := spF_le n t s hs (ma_chs s).length 0 i (by omega) hi
  unfold wnF
  cases hsp : spF n t (ma_chs s) (ma_chs s).length 0 i with
  | inl f =>
    rw [hsp] at o1
    exact ⟨σ1, σ1, e1, W111 σ1 o1.2.1, o1⟩
  | inr i1 =>
    rw [hsp] at o1
    obtain ⟨-, l3⟩ := l2 i1 hsp
    have s1 := MS_of hn hact h o1
    obtain ⟨σ2, e2, o2⟩ := V111 (ro := ro) (d := d + 1) n act t hn hact ht σ1 i1 _ (by simpa using hms) (by omega) s1
    refine ⟨σ1, σ2, e1, e2, ?_⟩
    have := MO_seq hact (by simpa using hms) o1 o2
    dsimp only
    revert this
    cases numF n t i1 <;> exact id
theorem wnF_lt {n : Nat} {t : Nat → Nat} {s i i' v : Nat} (hs : s < 7) (hi : i ≤ n) (h : wnF n t s i = .inr (i', v)) : v < 100 ∧ i + 1 < i' ∧ i' ≤ n := by
  unfold wnF at h
  obtain ⟨l1, l2⟩ := spF_le n t s hs (ma_chs s).length 0 i (by omega) hi
  have hl := chs_len s hs
  cases hsp : spF n t (ma_chs s) (ma_chs s).length 0 i with
  | inl f => rw [hsp] at h; cases h
  | inr i1 =>
    rw [hsp] at h
    have := l2 i1 hsp
    have := numF_lt h
    omega
theorem wnF_le {n : Nat} {t : Nat → Nat} {s i f : Nat} (hs : s < 7) (hi : i ≤ n) (h : wnF n t s i = .inl f) : f ≤ n := by
  unfold wnF at h
  obtain ⟨l1, l2⟩ := spF_le n t s hs (ma_chs s).length 0 i (by omega) hi
  cases hsp : spF n t (ma_chs s) (ma_chs s).length 0 i with
  | inl f' => rw [hsp] at h; cases h; exact l1 f hsp
  | inr i1 =>
    rw [hsp] at h
    have := l2 i1 hsp
    have := numF_le h
    omega
/-- a clause with an E: the word s, heed or not -/
def clF (n : Nat) (t : Nat → Nat) (s i : Nat) (b : Bool) (oE : Nat → Out) : CO := match wnF n t s i with
  | .inl f => .inl f
  | .inr (i2, v) => if pkc n t i2 = nI 32 then (match oE (i2 + 1) with | .inl f => .inl f | .inr (i4, ts) => .inr (i4, .inr (b, v, ts))) else .inl i2
theorem XC_err {sz c : Nat} {σ σ' : ma_H} {f : Nat} (h : XO sz σ σ' (.inl f)) (w y : Int32) (c' : Nat) : XC sz c σ (ma_up (ma_up (ma_up σ' 66 c w) 67 c y) 65 3 (nI c')) (.inl f) :=
  ⟨by rw [up_no (by decide), up_no (by decide), up_no (by decide)]; exact h.1, fun o ho => by rw [up_no (by omega), up_no (by omega), up_no (by omega)]; exact h.2.2.2 o (by omega) (by omega) (by omega)⟩
theorem V28c {ro : ma_RO} (n act : Nat) (t : Nat → Nat) (hn : n ≤ 100) (ht : ∀ i, i < n → t i ≤ 127) (oE : Nat → Out) (hE : ∀ i, i ≤ n → SX ro n t 5 i (oE i) ∧ SM ro n t act 5 i (oE i) ∧ GO n i 13 (oE i)) (i s : Nat) (b : Bool) (hs : (s = 1 ∧ b = true) ∨ (s = 2 ∧ b = false)) (hi : i ≤ n) (hh : pkc n t i = nI 104) (ha : (s = 2) ↔ pkc n t (i + 1) = nI 97) : CX ro n t i (clF n t s i b oE) := by
  intro D hD σ sz c hsz hc h h3
  obtain ⟨d, rfl⟩ : ∃ d, D = d + 3 := ⟨D - 3, by omega⟩
  have hs7 : s < 7 := by omega
  have e36 := V36 (ro := ro) (d := d) n t hn σ h.1 i (by omega) h.2.1
  have e47 := V47 (ro := ro) (d := d + 1) n t hn σ h.1 (i + 1) (by omega)
  have hp := h.2.1
  have e29 : ma_ev ro (d + 2) 29 [.ref 69] SH σ = some (some (.int (nI s)), SH, σ) := by
    rcases hs with ⟨rfl, -⟩ | ⟨rfl, -⟩
    · have hna : ¬ pkc n t (i + 1) = nI 97 := fun h => absurd (ha.mpr h) (by decide)
      simp (disch := first | assumption | omega | exact zb_fit | exact hbf .. | (simp (disch := omega) only [up_no, up_nk, up_at, u_cp_no] <;> (first | assumption | omega)) | (simp only [hkF] <;> omega) | decide) only [E29, S29, e36, hh, hp, e47, hna, hkF, z_add, z_mul, up_at, up_no, up_nk, u_cp_no, ma_bd, ↓reduceIte, if_true, if_false, Option.toList, List.nil_append, List.cons_append]
    · have hya := ha.mp rfl
      simp (disch := first | assumption | omega | exact zb_fit | exact hbf .. | (simp (disch := omega) only [up_no, up_nk, up_at, u_cp_no] <;> (first | assumption | omega)) | (simp only [hkF] <;> omega) | decide) only [E29, S29, e36, hh, hp, e47, hya, hkF, z_add, z_mul, up_at, up_no, up_nk, u_cp_no, ma_bd, ↓reduceIte, if_true, if_false, Option.toList, List.nil_append, List.cons_append]
  obtain ⟨σ1, σ2, e35, e33, o2⟩ := wn_X (ro := ro) (d := d) n t hn ht s hs7 σ i sz (by omega) hi h
  have RUN : ∀ (σ' σ4 : ma_H) (y : Int32), ma_ev ro (d + 2) 35 [.ref 69, .ref (1000000 + 3)] SH σ2 = some (none, SH, σ4) → σ4 69 3 = -1 → ma_ev ro (d + 2) 30 [.ref 69, .int (nI 0)] SH σ4 = some (none, SH, σ') → ma_ev ro (d + 2) 21 [.ref 65, .int (if b = true then nI (numV (wnF n t s i)) else -nI (numV (wnF n t s i)))] SH σ' = some (none, SH, ma_up (ma_up (ma_up σ' 66 c (if b = true then nI (numV (wnF n t s i)) else -nI (numV (wnF n t s i)))) 67 c y) 65 3 (nI (c + 1))) → ma_ev ro (d + 3) 28 [.ref 69] SH σ = some (none, SH, ma_up (ma_up (ma_up σ' 66 c (if b = true then nI (numV (wnF n t s i)) else -nI (numV (wnF n t s i)))) 67 c y) 65 3 (nI (c + 1))) := by
    intro σ' σ4 y f35 f3 f30 f21
    rcases hs with ⟨rfl, rfl⟩ | ⟨rfl, rfl⟩
    · rw [if_pos rfl] at f21 ⊢
      simp (disch := first | assumption | omega | exact zb_fit | exact hbf .. | (simp (disch := omega) only [up_no, up_nk, up_at, u_cp_no] <;> (first | assumption | omega)) | (simp only [hkF] <;> omega) | decide) only [E28, S28, e29, e35, e33, f35, f3, m1_neg, f30, f21, z_eq, Nat.reduceEqDiff, hkF, z_add, z_mul, up_at, up_no, up_nk, u_cp_no, ma_bd, ↓reduceIte, if_true, if_false, Option.toList, List.nil_append, List.cons_append]
    · rw [if_neg (by decide)] at f21 ⊢
      simp (disch := first | assumption | omega | exact zb_fit | exact hbf .. | (simp (disch := omega) only [up_no, up_nk, up_at, u_cp_no] <;> (first | assumption | omega)) | (simp only [hkF] <;> omega) | decide) only [E28, S28, e29, e35, e33, f35, f3, m1_neg, f30, f21, z_eq, Nat.reduceEqDiff, hkF, z_add, z_mul, up_at, up_no, up_nk, u_cp_no, ma_bd, ↓reduceIte, if_true, if_false, Option.toList, List.nil_append, List.cons_append]
  have RUNf : ∀ (σ' : ma_H) (y : Int32) (f : Nat), f ≤ n → ma_ev ro (d + 2) 35 [.ref 69, .ref (1000000 + 3)] SH σ2 = some (none, SH, σ') → σ' 69 3 = nI f → ma_ev ro (d + 2) 21 [.ref 65, .int (if b = true then nI (numV (wnF n t s i)) else -nI (numV (wnF n t s i)))] SH σ' = some (none, SH, ma_up (ma_up (ma_up σ' 66 c (if b = true then nI (numV (wnF n t s i)) else -nI (numV (wnF n t s i)))) 67 c y) 65 3 (nI (c + 1))) → ma_ev ro (d + 3) 28 [.ref 69] SH σ = some (none, SH, ma_up (ma_up (ma_up σ' 66 c (if b = true then nI (numV (wnF n t s i)) else -nI (numV (wnF n t s i)))) 67 c y) 65 3 (nI (c + 1))) := by
    intro σ' y f hf f35 f3 f21
    rcases hs with ⟨rfl, rfl⟩ | ⟨rfl, rfl⟩
    · rw [if_pos rfl] at f21 ⊢
      simp (disch := first | assumption | omega | exact zb_fit | exact hbf .. | (simp (disch := omega) only [up_no, up_nk, up_at, u_cp_no] <;> (first | assumption | omega)) | (simp only [hkF] <;> omega) | decide) only [E28, S28, e29, e35, e33, f35, f3, z_lt, Nat.not_lt_zero, f21, z_eq, Nat.reduceEqDiff, hkF, z_add, z_mul, up_at, up_no, up_nk, u_cp_no, ma_bd, ↓reduceIte, if_true, if_false, Option.toList, List.nil_append, List.cons_append]
    · rw [if_neg (by decide)] at f21 ⊢
      simp (disch := first | assumption | omega | exact zb_fit | exact hbf .. | (simp (disch := omega) only [up_no, up_nk, up_at, u_cp_no] <;> (first | assumption | omega)) | (simp only [hkF] <;> omega) | decide) only [E28, S28, e29, e35, e33, f35, f3, z_lt, Nat.not_lt_zero, f21, z_eq, Nat.reduceEqDiff, hkF, z_add, z_mul, up_at, up_no, up_nk, u_cp_no, ma_bd, ↓reduceIte, if_true, if_false, Option.toList, List.nil_append, List.cons_append]
  unfold clF
  cases hwn : wnF n t s i with
  | inl f =>
    have hf := wnF_le hs7 hi hwn
    rw [hwn] at o2
    have w35 := V35w (ro := ro) (d := d + 2) σ2 f 3 (by decide) (by omega) o2.1
    have e21 := V21 (ro := ro) (d := d + 2) σ2 c (if b = true then nI (numV (wnF n t s i)) else -nI (numV (wnF n t s i))) (σ2 65 5) (by rw [o2.2.2.1 3 (by decide)]; exact h3) hc rfl
    exact ⟨_, RUNf σ2 (σ2 65 5) f hf w35 o2.1 e21, XC_err o2 _ _ _⟩
  | inr p =>
    obtain ⟨i2, v⟩ := p
    obtain ⟨v1, v2, v3⟩ := wnF_lt hs7 hi hwn
    rw [hwn] at o2
    have s2 := XS_of h o2
    obtain ⟨σ4, e35', o4⟩ := V35 (ro := ro) (d := d) n t hn 3 _ (by decide) (by simp; omega) σ2 i2 (by omega) s2
    have hsp : spF n t (ma_chs 3) (ma_chs 3).length 0 i2 = if pkc n t i2 = nI 32 then .inr (i2 + 1) else .inl i2 := rfl
    rw [hsp] at o4
    dsimp only
    by_cases h32 : pkc n t i2 = nI 32
    · rw [if_pos h32] at o4 ⊢
      have hin := pkc_lt (by decide) h32
      have x4 := XO_seq o2 o4
      have s4 := XS_of h x4
      obtain ⟨sx, -, go⟩ := hE (i2 + 1) hin
      obtain ⟨σ5, e30, o5⟩ := sx (d + 2) (by omega) σ4 _ (by simp; omega) s4
      have x5 := XO_seq x4 o5
      cases hoE : oE (i2 + 1) with
      | inl f =>
        rw [hoE] at x5 o5
        have e21 := V21 (ro := ro) (d := d + 2) σ5 c (if b = true then nI (numV (wnF n t s i)) else -nI (numV (wnF n t s i))) (σ5 65 5) (by rw [x5.2.2.1 3 (by decide)]; exact h3) hc rfl
        exact ⟨_, RUN σ5 σ4 (σ5 65 5) e35' s4.2.2.1 e30 e21, XC_err x5 _ _ _⟩
      | inr p =>
        obtain ⟨i4, ts⟩ := p
        rw [hoE] at x5 o5
        have e21 := V21 (ro := ro) (d := d + 2) σ5 c (if b = true then nI (numV (wnF n t s i)) else -nI (numV (wnF n t s i))) (nI (sz + ts.length)) (by rw [x5.2.2.2.2.2.1 3 (by decide)]; exact h3) hc x5.2.2.1
        refine ⟨_, RUN σ5 σ4 _ e35' s4.2.2.1 e30 e21, ?_⟩
        obtain ⟨y1, y2, y3, y4, y5, y6, y7⟩ := x5
        rw [hwn]
        refine ⟨by rw [up_no (by decide), up_no (by decide), up_no (by decide)]; exact y1, by rw [up_no (by decide), up_no (by decide), up_no (by decide)]; exact y2, up_at _ _ _ _, by rw [up_nk (by decide), up_no (by decide), up_no (by decide)]; exact y3, by rw [up_nk (by decide), up_no (by decide), up_no (by decide)]; exact y6 0 (by decide), ?_, fun k hk => ?_, ?_, fun k hk => ?_, fun k hk => by rw [up_no (by decide), up_no (by decide), up_no (by decide)]; exact y4 k hk, fun k hk => by rw [up_no (by decide), up_no (by decide), up_no (by decide)]; exact y5 k hk, fun o ho => by rw [up_no (by omega), up_no (by omega), up_no (by omega)]; exact y7 o (by omega) (by omega) (by omega)⟩
        · rw [up_no (by decide), up_no (by decide), up_at]; rfl
        · rw [up_no (by decide), up_no (by decide), up_nk hk, y7 66 (by decide) (by decide) (by decide)]
        · rw [up_no (by decide), up_at]
        · rw [up_no (by decide), up_nk hk, up_no (by decide), y7 67 (by decide) (by decide) (by decide)]
    · rw [if_neg h32] at o4 ⊢
      have x4 := XO_seq o2 o4
      have e21 := V21 (ro := ro) (d := d + 2) σ4 c (if b = true then nI (numV (wnF n t s i)) else -nI (numV (wnF n t s i))) (σ4 65 5) (by rw [x4.2.2.1 3 (by decide)]; exact h3) hc rfl
      exact ⟨_, RUNf σ4 (σ4 65 5) i2 v3 e35' x4.1 e21, XC_err x4 _ _ _⟩
