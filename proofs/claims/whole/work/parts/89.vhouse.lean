/-! The call house. -/
abbrev Cl := Bool × Nat × List Tok
theorem hX_snoc {σ σ' : ma_H} {h C F : Nat} {l : Cl} (e1 : ∀ k, k < C → σ' (h + 1) k = σ (h + 1) k) (e2 : ∀ k, k < C → σ' (h + 2) k = σ (h + 2) k) (e3 : ∀ k, k < F → σ' (h + 3) k = σ (h + 3) k) (w1 : σ' (h + 1) C = wX l) (w2 : σ' (h + 2) C = nI (F + l.2.2.length)) (w3 : ∀ k (hk : k < l.2.2.length), σ' (h + 3) (F + k) = xc l.2.2[k]) (cs : List Cl) : ∀ f c, f + lnC cs = F → c + cs.length = C → hX σ h f c cs → hX σ' h f c (cs ++ [l]) := by
  induction cs with
  | nil =>
    intro f c hf hc _
    have hf' : f = F := by simpa [lnC] using hf
    have hc' : c = C := by simpa using hc
    subst hf'; subst hc'
    exact ⟨w1, w2, fun i hi => w3 i hi, trivial⟩
  | cons a r ih =>
    intro f c hf hc hx
    obtain ⟨g1, g2, g3, g4⟩ := hx
    have hl : lnC (a :: r) = a.2.2.length + lnC r := rfl
    rw [List.length_cons] at hc
    exact ⟨by rw [e1 _ (by omega)]; exact g1, by rw [e2 _ (by omega)]; exact g2, fun i hi => by rw [e3 _ (by omega)]; exact g3 i hi, ih _ _ (by omega) (by omega) g4⟩
theorem hM_snoc {S S' : Nat → Int32} {F : Nat} {l : Cl} {f0 : Nat} (e : ∀ k, f0 ≤ k → k < F → S' k = S k) (w1 : ∀ k (hk : k < l.2.2.length), S' (F + k) = mc l.2.2[k]) (w2 : S' (F + l.2.2.length) = wM l) (cs : List Cl) : ∀ f, f0 ≤ f → f + lnM cs = F → hM S f cs → hM S' f (cs ++ [l]) := by
  induction cs with
  | nil =>
    intro f h0 hf _
    have hf' : f = F := by simpa [lnM] using hf
    subst hf'
    exact ⟨fun i hi => w1 i hi, w2, trivial⟩
  | cons a r ih =>
    intro f h0 hf hx
    obtain ⟨g1, g2, g3⟩ := hx
    have hl : lnM (a :: r) = a.2.2.length + 1 + lnM r := rfl
    exact ⟨fun i hi => by rw [e _ (by omega) (by omega)]; exact g1 i hi, by rw [e _ (by omega) (by omega)]; exact g2, ih _ (by omega) (by omega) g3⟩
theorem lnM_snoc (cs : List Cl) (l : Cl) : lnM (cs ++ [l]) = lnM cs + l.2.2.length + 1 ∧ lnC (cs ++ [l]) = lnC cs + l.2.2.length := by
  induction cs with
  | nil => exact ⟨by simp [lnM], by simp [lnC]⟩
  | cons a r ih =>
    obtain ⟨i1, i2⟩ := ih
    exact ⟨by show a.2.2.length + 1 + lnM (r ++ [l]) = a.2.2.length + 1 + lnM r + l.2.2.length + 1; omega, by show a.2.2.length + lnC (r ++ [l]) = a.2.2.length + lnC r + l.2.2.length; omega⟩
def XH (n : Nat) (t : Nat → Nat) (σ0 σ : ma_H) (i : Nat) (cs : List Cl) (wo : Int32) : Prop := XS n t σ i (lnC cs) ∧ σ 65 3 = nI cs.length ∧ σ 65 0 = wo ∧ hX σ 65 0 0 cs ∧ ∀ o, (o < 65 ∨ 69 < o) → σ o = σ0 o
def MF (act : Nat) (σ0 σ : ma_H) : Prop := (∀ j, ¬ j = 6 → ¬ j = 8 → σ 90 j = σ0 90 j) ∧ (∀ j, ¬ j = 223 + act → ¬ j = 228 + act → ¬ (233 + 140 * act ≤ j ∧ j < 373 + 140 * act) → σ 91 j = σ0 91 j) ∧ ∀ o, ¬ o = 90 → ¬ o = 91 → σ o = σ0 o
def MH (n : Nat) (t : Nat → Nat) (act : Nat) (σ0 σ : ma_H) (i : Nat) (cs : List Cl) (wo : Int32) : Prop := MS n t act σ i (lnM cs) ∧ σ 91 (223 + act) = wo ∧ hM (σ 91) (233 + 140 * act) cs ∧ MF act σ0 σ
abbrev RO := Sum Nat (List Cl × Int32)
def XR (n : Nat) (t : Nat → Nat) (σ0 σ' : ma_H) : RO → Prop
  | .inl _ => ∀ o, (o < 65 ∨ 69 < o) → σ' o = σ0 o
  | .inr (cs, wo) => HXr σ' 65 cs wo ∧ ∀ o, (o < 65 ∨ 69 < o) → σ' o = σ0 o
def xrv : RO → Int32
  | .inl f => nI f
  | .inr _ => -1
def MR (n : Nat) (act : Nat) (σ0 σ' : ma_H) : RO → Prop
  | .inl f => σ' 90 6 = nI f ∧ MF act σ0 σ' ∧ (σ' 90 8 = nI 1 ∨ (σ' 90 8 = nI 0 ∧ ¬ f = n))
  | .inr (cs, wo) => σ' 90 6 = nI n ∧ σ' 90 8 = nI 0 ∧ MF act σ0 σ' ∧ σ' 91 (223 + act) = wo ∧ σ' 91 (228 + act) = nI (lnM cs) ∧ hM (σ' 91) (233 + 140 * act) cs
def GR (n : Nat) : RO → Prop
  | .inl f => f ≤ n
  | .inr (cs, _) => HOk cs
theorem MF_trans {act : Nat} {σ0 σ1 σ2 : ma_H} (h1 : MF act σ0 σ1) (h2 : MF act σ1 σ2) : MF act σ0 σ2 :=
  ⟨fun j j1 j2 => (h2.1 j j1 j2).trans (h1.1 j j1 j2), fun j j1 j2 j3 => (h2.2.1 j j1 j2 j3).trans (h1.2.1 j j1 j2 j3), fun o o1 o2 => (h2.2.2 o o1 o2).trans (h1.2.2 o o1 o2)⟩
/-- what a clause makes of what has been read -/
def nxC (cs : List Cl) (wo : Int32) : Nat × Sum Nat Cl → Nat × List Cl × Int32
  | (i', .inl w) => (i', cs, nI w)
  | (i', .inr l) => (i', cs ++ [l], wo)
theorem XH_next {n : Nat} {t : Nat → Nat} {σ0 σ σ' : ma_H} {i : Nat} {cs : List Cl} {wo : Int32} (p : Nat × Sum Nat Cl) (h : XH n t σ0 σ i cs wo) (hc : XC (lnC cs) cs.length σ σ' (.inr p)) : XH n t σ0 σ' (nxC cs wo p).1 (nxC cs wo p).2.1 (nxC cs wo p).2.2 := by
  obtain ⟨h1, h2, h3, h4, h5⟩ := h
  obtain ⟨i', c⟩ := p
  cases c with
  | inl w =>
    obtain ⟨q1, q2, q3, q4, q5, q6, q7, q8, q9⟩ := hc
    refine ⟨⟨XT_c (q9 1 (by omega)) (q9 20 (by omega)) h1.1, q1, q2, q8⟩, by rw [q4 3 (by decide)]; exact h2, q3, ?_, fun o ho => (q9 o ho).trans (h5 o ho)⟩
    have : ∀ (cs' : List Cl) f c, f + lnC cs' ≤ lnC cs → hX σ 65 f c cs' → hX σ' 65 f c cs' := by
      intro cs'
      induction cs' with
      | nil => intro f c _ _; trivial
      | cons a r ih =>
        intro f c hf hx
        obtain ⟨g1, g2, g3, g4⟩ := hx
        have hl : lnC (a :: r) = a.2.2.length + lnC r := rfl
        exact ⟨by show σ' 66 c = _; rw [q5]; exact g1, by show σ' 67 c = _; rw [q6]; exact g2, fun k hk => by show σ' 68 _ = _; rw [q7 _ (by omega)]; exact g3 k hk, ih _ _ (by omega) g4⟩
    exact this cs 0 0 (by omega) h4
  | inr l =>
    obtain ⟨q1, q2, q3, q4, q5, q6, q7, q8, q9, q10, q11, q12⟩ := hc
    obtain ⟨-, n2⟩ := lnM_snoc cs l
    refine ⟨⟨XT_c (q12 1 (by omega)) (q12 20 (by omega)) h1.1, q1, q2, by show σ' 65 5 = nI (lnC (cs ++ [l])); rw [n2]; exact q4⟩, by show σ' 65 3 = nI (cs ++ [l]).length; rw [List.length_append, List.length_singleton]; exact q3, q5.trans h3, ?_, fun o ho => (q12 o ho).trans (h5 o ho)⟩
    exact hX_snoc (fun k hk => q7 k (by omega)) (fun k hk => q9 k (by omega)) (fun k hk => q11 k hk) q6 q8 q10 cs 0 0 (by omega) (by omega) h4
theorem MH_next {n act : Nat} {t : Nat → Nat} {σ0 σ σ' : ma_H} {i : Nat} {cs : List Cl} {wo : Int32} (hn : n ≤ 100) (hact : act < 5) (hi : i ≤ 100) (hl : lnM cs ≤ i) (p : Nat × Sum Nat Cl) (hp : ∀ l, p.2 = .inr l → lnM cs + l.2.2.length + 1 ≤ 100) (h : MH n t act σ0 σ i cs wo) (hc : MC act (lnM cs) σ σ' (.inr p)) : MH n t act σ0 σ' (nxC cs wo p).1 (nxC cs wo p).2.1 (nxC cs wo p).2.2 := by
  obtain ⟨h1, h2, h3, h4⟩ := h
  obtain ⟨i', c⟩ := p
  cases c with
  | inl w =>
    obtain ⟨q1, q2, q3, q4, q5, q6, q7⟩ := hc
    refine ⟨⟨⟨by rw [q3 7 (by decide) (by decide)]; exact h1.1.1, fun j hj => by rw [q6 _ (by omega) (by omega) (by omega)]; exact h1.1.2 j hj⟩, by rw [q3 5 (by decide) (by decide)]; exact h1.2.1, q1, q2, q5⟩, q4, ?_, MF_trans h4 ⟨q3, fun j j1 j2 j3 => q6 j j1 j2 (by omega), q7⟩⟩
    have : ∀ (cs' : List Cl) f, 233 + 140 * act ≤ f → f + lnM cs' ≤ 233 + 140 * act + lnM cs → hM (σ 91) f cs' → hM (σ' 91) f cs' := by
      intro cs'
      induction cs' with
      | nil => intro f _ _ _; trivial
      | cons a r ih =>
        intro f h0 hf hx
        obtain ⟨g1, g2, g3⟩ := hx
        have hl : lnM (a :: r) = a.2.2.length + 1 + lnM r := rfl
        exact ⟨fun k hk => by rw [q6 _ (by omega) (by omega) (by omega)]; exact g1 k hk, by rw [q6 _ (by omega) (by omega) (by omega)]; exact g2, ih _ (by omega) (by omega) g3⟩
    exact this cs _ (Nat.le_refl _) (Nat.le_refl _) h3
  | inr l =>
    obtain ⟨q1, q2, q3, q4, q5, q6, q7, q8⟩ := hc
    have hp' := hp l rfl
    obtain ⟨n1, -⟩ := lnM_snoc cs l
    refine ⟨⟨⟨by rw [q3 7 (by decide) (by decide)]; exact h1.1.1, fun j hj => by rw [q7 _ (by omega) (by omega)]; exact h1.1.2 j hj⟩, by rw [q3 5 (by decide) (by decide)]; exact h1.2.1, q1, q2, by show σ' 91 (228 + act) = nI (lnM (cs ++ [l])); rw [n1]; exact q4⟩, by rw [q7 _ (by omega) (by omega)]; exact h2, ?_, MF_trans h4 ⟨q3, fun j j1 j2 j3 => q7 j j2 (by omega), q8⟩⟩
    exact hM_snoc (f0 := 233 + 140 * act) (fun k k1 k2 => q7 k (by omega) (by omega)) q5 q6 cs _ (Nat.le_refl _) rfl h3
def RGoal (ro : ma_RO) (n act : Nat) (t : Nat → Nat) (k i : Nat) (cs : List Cl) (wo : Int32) (o : RO) : Prop :=
    (∀ D, 23 ≤ D → ∀ (σ0 σ : ma_H), XH n t σ0 σ i cs wo → ∃ σ', ma_rn ro D 27 (29, [some (.ref 69), some (.int (nI k))], [], SH, σ) = some (some (.int (xrv o)), SH, σ') ∧ XR n t σ0 σ' o) ∧
    (∀ D, 25 ≤ D → ∀ (σ0 σ : ma_H), MH n t act σ0 σ i cs wo → σ 90 9 = nI 0 → ∃ σ' v, ma_rn ro D 121 (93, [some (.ref 90), some (.int (nI k))], [], SH, σ) = ma_rn ro D 121 (135, [some (.ref 90), v], [], SH, σ') ∧ MR n act σ0 σ' o) ∧ GR n o
theorem MF_9 {act : Nat} {σ0 σ : ma_H} (h : MF act σ0 σ) : σ 90 9 = σ0 90 9 := h.1 9 (by decide) (by decide)
theorem Rstop (ro : ma_RO) (n act : Nat) (t : Nat → Nat) (hn : n ≤ 100) (k i : Nat) (hk : k ≤ 10) (cs : List Cl) (wo : Int32) (hi : i ≤ n) (hl : lnM cs ≤ i) (hlen : cs.length ≤ k) (hok : ∀ l ∈ cs, clOk l) (hs : ¬ pkc n t i = nI 59 ∨ k = 10) : ∃ o, RGoal ro n act t k i cs wo o := by
  by_cases hin : i < n
  · refine ⟨.inl i, ?_, ?_, hi⟩
    · intro D hD σ0 σ h
      obtain ⟨d, rfl⟩ : ∃ d, D = d + 2 := ⟨D - 2, by omega⟩
      obtain ⟨h1, h2, h3, h4, h5⟩ := h
      have e36 := V36 (ro := ro) (d := d) n t hn σ h1.1 i (by omega) h1.2.1
      have hp := h1.2.1
      have hf := h1.2.2.1
      have ht := h1.1.1
      refine ⟨σ, ?_, h5⟩
      by_cases h59 : pkc n t i = nI 59
      · have hk10 : k = 10 := hs.elim (fun h => absurd h59 h) id
        subst hk10
        simp (disch := first | assumption | omega | exact zb_fit | exact hbf .. | (simp (disch := omega) only [up_no, up_nk, up_at, u_cp_no] <;> (first | assumption | omega)) | (simp only [hkF] <;> omega) | decide) only [S27, hf, m1_neg, hp, ht, z_lt, hin, e36, h59, z_eq, Nat.reduceEqDiff, hkF, z_add, z_mul, up_at, up_no, up_nk, u_cp_no, ma_bd, ↓reduceIte, if_true, if_false, Option.toList, List.nil_append, List.cons_append]
        rfl
      · simp (disch := first | assumption | omega | exact zb_fit | exact hbf .. | (simp (disch := omega) only [up_no, up_nk, up_at, u_cp_no] <;> (first | assumption | omega)) | (simp only [hkF] <;> omega) | decide) only [S27, hf, m1_neg, hp, ht, z_lt, hin, e36, h59, z_eq, Nat.reduceEqDiff, hkF, z_add, z_mul, up_at, up_no, up_nk, u_cp_no, ma_bd, ↓reduceIte, if_true, if_false, Option.toList, List.nil_append, List.cons_append]
        rfl
    · intro D hD σ0 σ h h9
      obtain ⟨d, rfl⟩ : ∃ d, D = d + 1 := ⟨D - 1, by omega⟩
      obtain ⟨h1, h2, h3, h4⟩ := h
      have e108 := V108 (ro := ro) (d := d) n t hn σ h1.1 i (by omega) h1.2.2.1
      have hw := h1.2.2.2.1
      refine ⟨σ, some (.int (nI k)), ?_, h1.2.2.1, h4, .inr ⟨hw, by omega⟩⟩
      rw [Sh121_93]
      by_cases hk10 : k < 10
      · have h59 : ¬ pkc n t i = nI 59 := hs.elim id (fun h => by omega)
        simp (disch := first | assumption | omega | exact zb_fit | exact hbf .. | (simp (disch := omega) only [up_no, up_nk, up_at, u_cp_no] <;> (first | assumption | omega)) | (simp only [hkF] <;> omega) | decide) only [S121, hw, z_lt, hk10, e108, h59, z_eq, Nat.reduceEqDiff, hkF, z_add, z_mul, up_at, up_no, up_nk, u_cp_no, ma_bd, ↓reduceIte, if_true, if_false, Option.toList, List.nil_append, List.cons_append]
      · simp (disch := first | assumption | omega | exact zb_fit | exact hbf .. | (simp (disch := omega) only [up_no, up_nk, up_at, u_cp_no] <;> (first | assumption | omega)) | (simp only [hkF] <;> omega) | decide) only [S121, hw, z_lt, hk10, z_eq, Nat.reduceEqDiff, hkF, z_add, z_mul, up_at, up_no, up_nk, u_cp_no, ma_bd, ↓reduceIte, if_true, if_false, Option.toList, List.nil_append, List.cons_append]
  · have hin' : i = n := by omega
    subst hin'
    have h59 : ¬ pkc i t i = nI 59 := by rw [pkc_out hin]; decide
    refine ⟨.inr (cs, wo), ?_, ?_, by omega, by have := lnM_le (cs := cs); omega, hok⟩
    · intro D hD σ0 σ h
      obtain ⟨h1, h2, h3, h4, h5⟩ := h
      have hp := h1.2.1
      have hf := h1.2.2.1
      have ht := h1.1.1
      refine ⟨σ, ?_, ⟨h3, h2, h4⟩, h5⟩
      simp (disch := first | assumption | omega | exact zb_fit | exact hbf .. | (simp (disch := omega) only [up_no, up_nk, up_at, u_cp_no] <;> (first | assumption | omega)) | (simp only [hkF] <;> omega) | decide) only [S27, hf, m1_neg, hp, ht, z_lt, Nat.lt_irrefl, z_eq, Nat.reduceEqDiff, hkF, z_add, z_mul, up_at, up_no, up_nk, u_cp_no, ma_bd, ↓reduceIte, if_true, if_false, Option.toList, List.nil_append, List.cons_append]
      rfl
    · intro D hD σ0 σ h h9
      obtain ⟨d, rfl⟩ : ∃ d, D = d + 1 := ⟨D - 1, by omega⟩
      obtain ⟨h1, h2, h3, h4⟩ := h
      have e108 := V108 (ro := ro) (d := d) i t hn σ h1.1 i (by omega) h1.2.2.1
      have hw := h1.2.2.2.1
      refine ⟨σ, some (.int (nI k)), ?_, h1.2.2.1, hw, h4, h2, h1.2.2.2.2, h3⟩
      rw [Sh121_93]
      by_cases hk10 : k < 10
      · simp (disch := first | assumption | omega | exact zb_fit | exact hbf .. | (simp (disch := omega) only [up_no, up_nk, up_at, u_cp_no] <;> (first | assumption | omega)) | (simp only [hkF] <;> omega) | decide) only [S121, hw, z_lt, hk10, e108, h59, z_eq, Nat.reduceEqDiff, hkF, z_add, z_mul, up_at, up_no, up_nk, u_cp_no, ma_bd, ↓reduceIte, if_true, if_false, Option.toList, List.nil_append, List.cons_append]
      · simp (disch := first | assumption | omega | exact zb_fit | exact hbf .. | (simp (disch := omega) only [up_no, up_nk, up_at, u_cp_no] <;> (first | assumption | omega)) | (simp only [hkF] <;> omega) | decide) only [S121, hw, z_lt, hk10, z_eq, Nat.reduceEqDiff, hkF, z_add, z_mul, up_at, up_no, up_nk, u_cp_no, ma_bd, ↓reduceIte, if_true, if_false, Option.toList, List.nil_append, List.cons_append]
theorem RLL (ro : ma_RO) (n act : Nat) (t : Nat → Nat) (hn : n ≤ 100) (hact : act < 5) (ht : ∀ i, i < n → t i ≤ 127) : ∀ m k, k + m = 10 → 1 ≤ k → ∀ i (cs : List Cl) (wo : Int32), i ≤ n → lnM cs ≤ i → cs.length ≤ k → (∀ l ∈ cs, clOk l) → ∃ o : RO, RGoal ro n act t k i cs wo o := by
  intro m
  induction m with
  | zero =>
    intro k hk hk1 i cs wo hi hl hlen hok
    exact Rstop ro n act t hn k i (by omega) cs wo hi hl hlen hok (.inr (by omega))
  | succ m ih =>
    intro k hk hk1 i cs wo hi hl hlen hok
    by_cases h59 : pkc n t i = nI 59
    · have hin := pkc_lt (by decide) h59
      obtain ⟨oc, cx, cm, gc⟩ := CL ro n act t hn hact ht (i + 1) hin
      have hk10 : k < 10 := by omega
      have hk10' : ¬ k = 10 := by omega
      have hlc : lnC cs ≤ i := by have := lnM_le (cs := cs); omega
      -- one clause on
      have XN : ∀ D, 23 ≤ D → ∀ (σ0 σ : ma_H), XH n t σ0 σ i cs wo → ∃ σ1 σ2, XH n t σ0 σ1 (i + 1) cs wo ∧ ma_rn ro D 27 (29, [some (.ref 69), some (.int (nI k))], [], SH, σ) = ma_rn ro D 27 (29, [some (.ref 69), some (.int (nI (k + 1)))], [], SH, σ2) ∧ XC (lnC cs) cs.length σ1 σ2 oc := by
        intro D hD σ0 σ h
        obtain ⟨d, rfl⟩ : ∃ d, D = d + 2 := ⟨D - 2, by omega⟩
        obtain ⟨h1, h2, h3, h4, h5⟩ := h
        have e36 := V36 (ro := ro) (d := d) n t hn σ h1.1 i (by omega) h1.2.1
        have hp := h1.2.1
        have hf := h1.2.2.1
        have htt := h1.1.1
        have hc10 : ¬ 10 < k + 1 := by omega
        have x1 : XH n t σ0 (ma_up σ 69 2 (nI (i + 1))) (i + 1) cs wo := by
          refine ⟨XS_of h1 (XO_place (i + 1) h1), by rw [up_no (by decide)]; exact h2, by rw [up_no (by decide)]; exact h3, hX_congr (fun o o1 o2 => up_no (by omega)) cs 0 0 h4, fun o ho => by rw [up_no (by omega)]; exact h5 o ho⟩
        obtain ⟨σ2, e28, xc⟩ := cx (d + 1) (by omega) _ (lnC cs) cs.length (by omega) (by omega) x1.1 x1.2.1
        refine ⟨_, σ2, x1, ?_, xc⟩
        simp (disch := first | assumption | omega | exact zb_fit | exact hbf .. | (simp (disch := omega) only [up_no, up_nk, up_at, u_cp_no] <;> (first | assumption | omega)) | (simp only [hkF] <;> omega) | decide) only [S27, Sh27_19, hf, m1_neg, hp, htt, z_lt, hin, e36, h59, hk10', hc10, e28, z_eq, Nat.reduceEqDiff, hkF, z_add, z_mul, up_at, up_no, up_nk, u_cp_no, ma_bd, ↓reduceIte, if_true, if_false, Option.toList, List.nil_append, List.cons_append]
      have MN : ∀ D, 25 ≤ D → ∀ (σ0 σ : ma_H), MH n t act σ0 σ i cs wo → σ 90 9 = nI 0 → ∃ σ1 σ2, MH n t act σ0 σ1 (i + 1) cs wo ∧ σ1 90 9 = nI 0 ∧ ma_rn ro D 121 (93, [some (.ref 90), some (.int (nI k))], [], SH, σ) = ma_rn ro D 121 (93, [some (.ref 90), some (.int (nI (k + 1)))], [], SH, σ2) ∧ MC act (lnM cs) σ1 σ2 oc := by
        intro D hD σ0 σ h h9
        obtain ⟨d, rfl⟩ : ∃ d, D = d + 1 := ⟨D - 1, by omega⟩
        obtain ⟨h1, h2, h3, h4⟩ := h
        have e108 := V108 (ro := ro) (d := d) n t hn σ h1.1 i (by omega) h1.2.2.1
        have hw := h1.2.2.2.1
        have hp := h1.2.2.1
        have p1 := MO_place (i + 1) h1
        have x1 : MH n t act σ0 (ma_up σ 90 6 (nI (i + 1))) (i + 1) cs wo := by
          refine ⟨MS_of hn hact h1 p1, by rw [up_no (by decide)]; exact h2, by rw [up_no (by decide)]; exact h3, MF_trans h4 ⟨fun j j1 _ => up_nk j1, fun j _ _ _ => by rw [up_no (by decide)], fun o o1 _ => up_no o1⟩⟩
        have x9 : ma_up σ 90 6 (nI (i + 1)) 90 9 = nI 0 := by rw [up_nk (by decide)]; exact h9
        obtain ⟨σ2, e120, mc⟩ := cm d (by omega) _ (lnM cs) (by omega) x1.1 x9
        refine ⟨_, σ2, x1, x9, ?_, mc⟩
        rw [Sh121_93]
        simp (disch := first | assumption | omega | exact zb_fit | exact hbf .. | (simp (disch := omega) only [up_no, up_nk, up_at, u_cp_no] <;> (first | assumption | omega)) | (simp only [hkF] <;> omega) | decide) only [S121, hw, z_lt, hk10, e108, h59, hp, e120, z_eq, Nat.reduceEqDiff, hkF, z_add, z_mul, up_at, up_no, up_nk, u_cp_no, ma_bd, ↓reduceIte, if_true, if_false, Option.toList, List.nil_append, List.cons_append]
      cases oc with
      | inl f =>
        have hf : f ≤ n := gc
        refine ⟨.inl f, ?_, ?_, hf⟩
        · intro D hD σ0 σ h
          obtain ⟨σ1, σ2, x1, e, xc⟩ := XN D hD σ0 σ h
          have hf3 := xc.1
          refine ⟨σ2, ?_, fun o ho => (xc.2 o ho).trans (x1.2.2.2.2 o ho)⟩
          rw [e]
          simp (disch := first | assumption | omega | exact zb_fit | exact hbf .. | (simp (disch := omega) only [up_no, up_nk, up_at, u_cp_no] <;> (first | assumption | omega)) | (simp only [hkF] <;> omega) | decide) only [S27, hf3, z_lt, Nat.not_lt_zero, hkF, z_add, z_mul, up_at, up_no, up_nk, u_cp_no, ma_bd, ↓reduceIte, if_true, if_false, Option.toList, List.nil_append, List.cons_append]
          rfl
        · intro D hD σ0 σ h h9
          obtain ⟨σ1, σ2, x1, x9, e, mc⟩ := MN D hD σ0 σ h h9
          have hw2 := mc.2.1
          refine ⟨σ2, some (.int (nI (k + 1))), ?_, mc.1, MF_trans x1.2.2.2 ⟨mc.2.2.1, mc.2.2.2.1, mc.2.2.2.2⟩, .inl hw2⟩
          rw [e, Sh121_93]
          simp (disch := first | assumption | omega | exact zb_fit | exact hbf .. | (simp (disch := omega) only [up_no, up_nk, up_at, u_cp_no] <;> (first | assumption | omega)) | (simp only [hkF] <;> omega) | decide) only [S121, hw2, z_eq, Nat.reduceEqDiff, hkF, z_add, z_mul, up_at, up_no, up_nk, u_cp_no, ma_bd, ↓reduceIte, if_true, if_false, Option.toList, List.nil_append, List.cons_append]
      | inr p =>
        have B : (nxC cs wo p).1 ≤ n ∧ lnM (nxC cs wo p).2.1 ≤ (nxC cs wo p).1 ∧ (nxC cs wo p).2.1.length ≤ k + 1 ∧ (∀ l ∈ (nxC cs wo p).2.1, clOk l) ∧ (∀ l, p.2 = .inr l → lnM cs + l.2.2.length + 1 ≤ 100) := by
          obtain ⟨i', c⟩ := p
          cases c with
          | inl w =>
            obtain ⟨g1, g2, g3⟩ := gc
            exact ⟨g2, by show lnM cs ≤ i'; omega, by show cs.length ≤ k + 1; omega, hok, fun l h => (by cases h)⟩
          | inr l =>
            obtain ⟨g1, g2, g3, g4⟩ := gc
            obtain ⟨n1, -⟩ := lnM_snoc cs l
            refine ⟨g2, by show lnM (cs ++ [l]) ≤ i'; omega, by show (cs ++ [l]).length ≤ k + 1; rw [List.length_append, List.length_singleton]; omega, fun x hx => ?_, fun l' h => (by cases h; omega)⟩
            rw [show (nxC cs wo (i', .inr l)).2.1 = cs ++ [l] from rfl, List.mem_append, List.mem_singleton] at hx
            rcases hx with hx | rfl
            · exact hok x hx
            · exact g4
        obtain ⟨B1, B2, B3, B4, B5⟩ := B
        obtain ⟨o, rx, rm, gr⟩ := ih (k + 1) (by omega) (by omega) _ _ (nxC cs wo p).2.2 B1 B2 B3 B4
        refine ⟨o, ?_, ?_, gr⟩
        · intro D hD σ0 σ h
          obtain ⟨σ1, σ2, x1, e, xc⟩ := XN D hD σ0 σ h
          rw [e]
          exact rx D hD σ0 σ2 (XH_next p x1 xc)
        · intro D hD σ0 σ h h9
          obtain ⟨σ1, σ2, x1, x9, e, mc⟩ := MN D hD σ0 σ h h9
          have m2 := MH_next hn hact (by omega) (by omega) p B5 x1 mc
          rw [e]
          refine rm D hD σ0 σ2 m2 ?_
          have a1 := MF_9 m2.2.2.2
          have a2 := MF_9 x1.2.2.2
          rw [a1, ← a2]; exact x9
    · exact Rstop ro n act t hn k i (by omega) cs wo hi hl hlen hok (.inl h59)
