/-! Reading a house: a test. -/
def numF (n : Nat) (t : Nat → Nat) (i : Nat) : Sum Nat (Nat × Nat) :=
  if dgP n t i then (if t i = 48 ∨ ¬ dgP n t (i + 1) then .inr (i + 1, t i - 48) else .inr (i + 2, 10 * (t i - 48) + (t (i + 1) - 48))) else .inl i
theorem numF_lt {n : Nat} {t : Nat → Nat} {i i' v : Nat} (h : numF n t i = .inr (i', v)) : v < 100 ∧ i < i' ∧ i' ≤ n := by
  unfold numF at h
  by_cases hd : dgP n t i
  · rw [if_pos hd] at h
    obtain ⟨d1, d2, d3⟩ := hd
    by_cases h2 : t i = 48 ∨ ¬ dgP n t (i + 1)
    · rw [if_pos h2] at h; cases h; omega
    · rw [if_neg h2] at h
      have hd2 : dgP n t (i + 1) := by
        by_cases hx : dgP n t (i + 1)
        · exact hx
        · exact absurd (.inr hx) h2
      obtain ⟨e1, e2, e3⟩ := hd2
      cases h; omega
  · rw [if_neg hd] at h; cases h
theorem numF_le {n : Nat} {t : Nat → Nat} {i f : Nat} (h : numF n t i = .inl f) : f = i := by
  unfold numF at h
  by_cases hd : dgP n t i
  · rw [if_pos hd] at h
    by_cases h2 : t i = 48 ∨ ¬ dgP n t (i + 1)
    · rw [if_pos h2] at h; cases h
    · rw [if_neg h2] at h; cases h
  · rw [if_neg hd] at h; cases h; rfl
def numO (r : Sum Nat (Nat × Nat)) : Out := match r with
  | .inl f => .inl f
  | .inr p => .inr (p.1, [])
def numV (r : Sum Nat (Nat × Nat)) : Nat := match r with
  | .inl _ => 0
  | .inr p => p.2
theorem V33 {ro : ma_RO} {d : Nat} (n : Nat) (t : Nat → Nat) (hn : n ≤ 100) (ht : ∀ i, i < n → t i ≤ 127) (σ : ma_H) (i sz : Nat) (hsz : sz ≤ 100) (hi : i < 2 ^ 29) (h : XS n t σ i sz) : ∃ σ', ma_ev ro (d + 2) 33 [.ref 69] SH σ = some (some (.int (nI (numV (numF n t i)))), SH, σ') ∧ XO sz σ σ' (numO (numF n t i)) := by
  by_cases hd : dgP n t i
  · by_cases h2 : t i = 48 ∨ ¬ dgP n t (i + 1)
    · rw [show numF n t i = .inr (i + 1, t i - 48) by unfold numF; rw [if_pos hd, if_pos h2]]
      exact ⟨_, V33b n t hn ht σ i sz hi h hd h2, XO_place (i + 1) h⟩
    · have hd2 : dgP n t (i + 1) := by
        by_cases hx : dgP n t (i + 1)
        · exact hx
        · exact absurd (.inr hx) h2
      rw [show numF n t i = .inr (i + 2, 10 * (t i - 48) + (t (i + 1) - 48)) by unfold numF; rw [if_pos hd, if_neg h2]]
      have o1 := XO_place (i + 1) h
      exact ⟨_, V33c n t hn ht σ i sz hi h hd (fun k => h2 (.inl k)) hd2, XO_seq o1 (XO_place (i + 2) (XS_of h o1))⟩
  · rw [show numF n t i = .inl i by unfold numF; rw [if_neg hd]]
    exact ⟨_, V33a n t hn ht σ i sz (by omega) h hd, XO_err i hsz h⟩
theorem V111 {ro : ma_RO} {d : Nat} (n act : Nat) (t : Nat → Nat) (hn : n ≤ 100) (hact : act < 5) (ht : ∀ i, i < n → t i ≤ 127) (σ : ma_H) (i ms : Nat) (hms : ms ≤ 140) (hi : i < 2 ^ 29) (h : MS n t act σ i ms) : ∃ σ', ma_ev ro (d + 1) 111 [.ref 90] SH σ = some (some (.int (nI (numV (numF n t i)))), SH, σ') ∧ MO act ms σ σ' (numO (numF n t i)) := by
  by_cases hd : dgP n t i
  · by_cases h2 : t i = 48 ∨ ¬ dgP n t (i + 1)
    · rw [show numF n t i = .inr (i + 1, t i - 48) by unfold numF; rw [if_pos hd, if_pos h2]]
      exact ⟨_, M111b n act t hn ht σ i ms hi h hd h2, MO_place (i + 1) h⟩
    · have hd2 : dgP n t (i + 1) := by
        by_cases hx : dgP n t (i + 1)
        · exact hx
        · exact absurd (.inr hx) h2
      rw [show numF n t i = .inr (i + 2, 10 * (t i - 48) + (t (i + 1) - 48)) by unfold numF; rw [if_pos hd, if_neg h2]]
      have o1 := MO_place (i + 1) h
      exact ⟨_, M111c n act t hn ht σ i ms hi h hd (fun k => h2 (.inl k)) hd2, MO_seq hact (by simpa using hms) o1 (MO_place (i + 2) (MS_of hn hact h o1))⟩
  · rw [show numF n t i = .inl i by unfold numF; rw [if_neg hd]]
    exact ⟨_, M111a n act t hn ht σ i ms (by omega) h hd, MO_err h⟩
def tstF (n : Nat) (t : Nat → Nat) (i : Nat) : Out :=
  match ixF (ma_chs 4) (pkc n t i) (ma_chs 4).length 0 with
  | none => .inl i
  | some w => match ixF (ma_chs 5) (pkc n t (i + 1)) (ma_chs 5).length 0 with
    | none => .inl (i + 1)
    | some h => match numF n t (i + 2) with
      | .inl f => .inl f
      | .inr (i', v) => .inr (i', [(w, h, v)])
theorem chs_pos : ∀ s, s < 7 → ∀ j, j < (ma_chs s).length → ¬ (-1 : Int32) = (ma_chs s).getD j 0 := by decide
theorem ix_in {n : Nat} {t : Nat → Nat} {i s k : Nat} (hs : s < 7) (h : ixF (ma_chs s) (pkc n t i) (ma_chs s).length 0 = some k) : i < n ∧ k < (ma_chs s).length := by
  obtain ⟨-, h2, h3⟩ := ixF_spec _ _ _ _ _ h
  rw [Nat.zero_add] at h2
  refine ⟨?_, h2⟩
  by_cases hi : i < n
  · exact hi
  · rw [pkc_out hi] at h3
    exact absurd h3 (chs_pos s hs k h2)
theorem tok_or : ∀ w, w < 6 → ∀ h, h < 3 → ∀ v, v < 100 → w ||| h * 2 ^ 4 ||| v * 2 ^ 8 = w + 16 * h + 256 * v := by decide +kernel
theorem V20 {ro : ma_RO} {d : Nat} (σ : ma_H) (sz w h v : Nat) (hw : w < 6) (hh : h < 3) (hv : v < 100) (hs : σ 65 5 = nI sz) (hsz : sz < 100) : ma_ev ro (d + 1) 20 [.ref 65, .int (nI w), .int (nI h), .int (nI v)] SH σ = some (none, SH, ma_up (ma_up σ 68 sz (xc (w, h, v))) 65 5 (nI (sz + 1))) := by
  have hx : nI w ||| nI h <<< (nI 4 &&& 31) ||| nI v <<< (nI 8 &&& 31) = xc (w, h, v) := by
    rw [z_shl (by decide), z_shl (by decide), z_or, z_or, tok_or w hw h hh v hv]
    exact (if_pos hw).symm
  have e19 := V19 (ro := ro) (d := d) σ sz (xc (w, h, v)) hs hsz
  simp (disch := first | assumption | omega | exact zb_fit | exact hbf .. | (simp (disch := omega) only [up_no, up_nk, up_at, u_cp_no] <;> (first | assumption | omega)) | (simp only [hkF] <;> omega) | decide) only [E20, S20, hx, e19, hkF, z_add, z_mul, up_at, up_no, up_nk, u_cp_no, ma_bd, ↓reduceIte, if_true, if_false, Option.toList, List.nil_append, List.cons_append]
theorem V20w {ro : ma_RO} {d : Nat} {sz f : Nat} {σ σ' : ma_H} (x y z : Int32) (h : XO sz σ σ' (.inl f)) : ∃ σ'', ma_ev ro (d + 1) 20 [.ref 65, .int x, .int y, .int z] SH σ' = some (none, SH, σ'') ∧ XO sz σ σ'' (.inl f) := by
  obtain ⟨σ'', e, o⟩ := XE_step (ro := ro) (d := d) (x ||| y <<< (nI 4 &&& 31) ||| z <<< (nI 8 &&& 31)) h
  refine ⟨σ'', ?_, o⟩
  simp (disch := first | assumption | omega | exact zb_fit | exact hbf .. | (simp (disch := omega) only [up_no, up_nk, up_at, u_cp_no] <;> (first | assumption | omega)) | (simp only [hkF] <;> omega) | decide) only [E20, S20, e, hkF, z_add, z_mul, up_at, up_no, up_nk, u_cp_no, ma_bd, ↓reduceIte, if_true, if_false, Option.toList, List.nil_append, List.cons_append]
theorem X31t {ro : ma_RO} {d : Nat} (n : Nat) (t : Nat → Nat) (hn : n ≤ 100) (ht : ∀ i, i < n → t i ≤ 127) (σ : ma_H) (i sz : Nat) (o : Int32) (hsz : sz ≤ i) (hi : i ≤ 100) (h : XS n t σ i sz) (h33 : ¬ pkc n t i = nI 33) (h40 : ¬ pkc n t i = nI 40) : ∃ σ', ma_ev ro (d + 3) 31 [.ref 69, .int o] SH σ = some (none, SH, σ') ∧ XO sz σ σ' (tstF n t i) := by
  have e36 := V36 (ro := ro) (d := d + 1) n t hn σ h.1 i (by omega) h.2.1
  have e32 := V32 (ro := ro) (d := d) n t hn σ i sz 4 (by decide) (by omega) h
  cases h4 : ixF (ma_chs 4) (pkc n t i) (ma_chs 4).length 0 with
  | none =>
    rw [h4] at e32
    dsimp only at e32
    have o1 := XO_err i (by omega : sz ≤ 100) h
    have w32 := V32w (ro := ro) (d := d + 2) (ma_up σ 69 3 (nI i)) i 5 (by omega) (up_at _ _ _ _)
    have w33 := V33w (ro := ro) (d := d + 2) (ma_up σ 69 3 (nI i)) i (by omega) (up_at _ _ _ _)
    obtain ⟨σ', e20, o2⟩ := V20w (ro := ro) (d := d + 1) (nI 0) (nI 0) (nI 0) o1
    refine ⟨σ', ?_, by unfold tstF; rw [h4]; exact o2⟩
    simp (disch := first | assumption | omega | exact zb_fit | exact hbf .. | (simp (disch := omega) only [up_no, up_nk, up_at, u_cp_no] <;> (first | assumption | omega)) | (simp only [hkF] <;> omega) | decide) only [E31, S31, e36, h33, h40, e32, w32, w33, e20, hkF, z_add, z_mul, up_at, up_no, up_nk, u_cp_no, ma_bd, ↓reduceIte, if_true, if_false, Option.toList, List.nil_append, List.cons_append]
  | some w =>
    rw [h4] at e32
    dsimp only at e32
    obtain ⟨hin, hw⟩ := ix_in (by decide) h4
    have o1 := XO_place (i + 1) h
    have s1 := XS_of h o1
    have e32' := V32 (ro := ro) (d := d) n t hn _ (i + 1) _ 5 (by decide) (by omega) s1
    cases h5 : ixF (ma_chs 5) (pkc n t (i + 1)) (ma_chs 5).length 0 with
    | none =>
      rw [h5] at e32'
      dsimp only at e32'
      have o2 := XO_seq o1 (XO_err (i + 1) (by simp; omega) s1)
      have w33 := V33w (ro := ro) (d := d + 2) (ma_up (ma_up σ 69 2 (nI (i + 1))) 69 3 (nI (i + 1))) (i + 1) (by omega) (up_at _ _ _ _)
      obtain ⟨σ', e20, o3⟩ := V20w (ro := ro) (d := d + 1) (nI w) (nI 0) (nI 0) o2
      refine ⟨σ', ?_, by unfold tstF; rw [h4]; dsimp only; rw [h5]; exact o3⟩
      simp (disch := first | assumption | omega | exact zb_fit | exact hbf .. | (simp (disch := omega) only [up_no, up_nk, up_at, u_cp_no] <;> (first | assumption | omega)) | (simp only [hkF] <;> omega) | decide) only [E31, S31, e36, h33, h40, e32, e32', w33, e20, hkF, z_add, z_mul, up_at, up_no, up_nk, u_cp_no, ma_bd, ↓reduceIte, if_true, if_false, Option.toList, List.nil_append, List.cons_append]
    | some hh =>
      rw [h5] at e32'
      dsimp only at e32'
      obtain ⟨hin2, hh3⟩ := ix_in (by decide) h5
      have o2 := XO_seq o1 (XO_place (i + 1 + 1) s1)
      have s2 := XS_of h o2
      obtain ⟨σ3, e33, o3⟩ := V33 (ro := ro) (d := d) n t hn ht _ (i + 1 + 1) _ (by simp; omega) (by omega) s2
      have o4 := XO_seq o2 o3
      cases hN : numF n t (i + 2) with
      | inl f =>
        rw [show i + 1 + 1 = i + 2 from rfl, hN] at e33 o4
        obtain ⟨σ', e20, o5⟩ := V20w (ro := ro) (d := d + 1) (nI w) (nI hh) (nI 0) o4
        refine ⟨σ', ?_, by unfold tstF; rw [h4]; dsimp only; rw [h5]; dsimp only; rw [hN]; exact o5⟩
        simp (disch := first | assumption | omega | exact zb_fit | exact hbf .. | (simp (disch := omega) only [up_no, up_nk, up_at, u_cp_no] <;> (first | assumption | omega)) | (simp only [hkF] <;> omega) | decide) only [E31, S31, e36, h33, h40, e32, e32', e33, numV, e20, hkF, z_add, z_mul, up_at, up_no, up_nk, u_cp_no, ma_bd, ↓reduceIte, if_true, if_false, Option.toList, List.nil_append, List.cons_append]
      | inr p =>
        obtain ⟨i', v⟩ := p
        obtain ⟨v1, v2, v3⟩ := numF_lt hN
        rw [show i + 1 + 1 = i + 2 from rfl, hN] at e33 o4
        have s4 : XS n t σ3 i' sz := XS_of h o4
        have e20 := V20 (ro := ro) (d := d + 1) σ3 sz w hh v hw hh3 v1 s4.2.2.2 (by omega)
        have o5 := XO_seq o4 (XO_step (w, hh, v) s4)
        refine ⟨_, ?_, by unfold tstF; rw [h4]; dsimp only; rw [h5]; dsimp only; rw [hN]; exact o5⟩
        simp (disch := first | assumption | omega | exact zb_fit | exact hbf .. | (simp (disch := omega) only [up_no, up_nk, up_at, u_cp_no] <;> (first | assumption | omega)) | (simp only [hkF] <;> omega) | decide) only [E31, S31, e36, h33, h40, e32, e32', e33, numV, e20, hkF, z_add, z_mul, up_at, up_no, up_nk, u_cp_no, ma_bd, ↓reduceIte, if_true, if_false, Option.toList, List.nil_append, List.cons_append]
        rfl
theorem M114t {ro : ma_RO} {d : Nat} (n act : Nat) (t : Nat → Nat) (hn : n ≤ 100) (hact : act < 5) (ht : ∀ i, i < n → t i ≤ 127) (σ : ma_H) (i ms : Nat) (hms : ms ≤ i) (hi : i ≤ 100) (h : MS n t act σ i ms) (h33 : ¬ pkc n t i = nI 33) (h40 : ¬ pkc n t i = nI 40) : ∃ σ', ma_ev ro (d + 2) 114 [.ref 90] SH σ = some (none, SH, σ') ∧ MO act ms σ σ' (tstF n t i) := by
  have f0 : ma_fitI .boolean (nI 0) = true := by decide
  have f1 : ma_fitI .boolean (nI 1) = true := by decide
  have hw0 := h.2.2.2.1
  have e108 := V108 (ro := ro) (d := d + 1) n t hn σ h.1 i (by omega) h.2.2.1
  have e112 := V112 (ro := ro) (d := d) n act t hn σ i ms 4 (by decide) (by omega) h
  cases h4 : ixF (ma_chs 4) (pkc n t i) (ma_chs 4).length 0 with
  | none =>
    rw [h4] at e112
    dsimp only at e112
    have o1 := MO_err h
    have u1 : ma_up (ma_up σ 90 8 (nI 1)) 90 8 (nI 1) = ma_up σ 90 8 (nI 1) := up_same (up_at _ _ _ _)
    have w111 := W111 (ro := ro) (d := d) (ma_up σ 90 8 (nI 1)) (up_at _ _ _ _)
    have w113 := fun x => W113 (ro := ro) (d := d + 1) (ma_up σ 90 8 (nI 1)) x (up_at _ _ _ _)
    refine ⟨_, ?_, by unfold tstF; rw [h4]; exact o1⟩
    simp (disch := first | assumption | omega | exact zb_fit | exact hbf .. | (simp (disch := omega) only [up_no, up_nk, up_at, u_cp_no] <;> (first | assumption | omega)) | (simp only [hkF] <;> omega) | decide) only [E114, S114, hw0, e108, h33, h40, e112, f1, u1, w111, w113, z_eq, Nat.reduceEqDiff, hkF, z_add, z_mul, up_at, up_no, up_nk, u_cp_no, ma_bd, ↓reduceIte, if_true, if_false, Option.toList, List.nil_append, List.cons_append]
  | some w =>
    rw [h4] at e112
    dsimp only at e112
    obtain ⟨hin, hw⟩ := ix_in (by decide) h4
    have hw6 : w < 6 := hw
    have o1 := MO_place (i + 1) h
    have s1 := MS_of hn hact h o1
    have nw := @nI_m1 w (by omega)
    have u0 : ma_up (ma_up σ 90 6 (nI (i + 1))) 90 8 (nI 0) = ma_up σ 90 6 (nI (i + 1)) := up_same s1.2.2.2.1
    have e112' := V112 (ro := ro) (d := d) n act t hn _ (i + 1) _ 5 (by decide) (by omega) s1
    have hw1 := s1.2.2.2.1
    cases h5 : ixF (ma_chs 5) (pkc n t (i + 1)) (ma_chs 5).length 0 with
    | none =>
      rw [h5] at e112'
      dsimp only at e112'
      have o2 := MO_seq hact (by simp; omega) o1 (MO_err s1)
      have w111 := W111 (ro := ro) (d := d) (ma_up (ma_up σ 90 6 (nI (i + 1))) 90 8 (nI 1)) (up_at _ _ _ _)
      have w113 := fun x => W113 (ro := ro) (d := d + 1) (ma_up (ma_up σ 90 6 (nI (i + 1))) 90 8 (nI 1)) x (up_at _ _ _ _)
      refine ⟨_, ?_, by unfold tstF; rw [h4]; dsimp only; rw [h5]; exact o2⟩
      simp (disch := first | assumption | omega | exact zb_fit | exact hbf .. | (simp (disch := omega) only [up_no, up_nk, up_at, u_cp_no] <;> (first | assumption | omega)) | (simp only [hkF] <;> omega) | decide) only [E114, S114, hw0, e108, h33, h40, e112, f0, f1, nw, u0, hw1, e112', w111, w113, z_eq, Nat.reduceEqDiff, hkF, z_add, z_mul, up_at, up_no, up_nk, u_cp_no, ma_bd, ↓reduceIte, if_true, if_false, Option.toList, List.nil_append, List.cons_append]
    | some hh =>
      rw [h5] at e112'
      dsimp only at e112'
      obtain ⟨hin2, hh3⟩ := ix_in (by decide) h5
      have hh3' : hh < 3 := hh3
      have nh := @nI_m1 hh (by omega)
      have o2 := MO_seq hact (by simp; omega) o1 (MO_place (i + 1 + 1) s1)
      have s2 := MS_of hn hact h o2
      have hw2 := s2.2.2.2.1
      have u2 : ma_up (ma_up (ma_up σ 90 6 (nI (i + 1))) 90 6 (nI (i + 1 + 1))) 90 8 (nI 0) = ma_up (ma_up σ 90 6 (nI (i + 1))) 90 6 (nI (i + 1 + 1)) := up_same hw2
      obtain ⟨σ3, e111, o3⟩ := V111 (ro := ro) (d := d) n act t hn hact ht _ (i + 1 + 1) _ (by simp; omega) (by omega) s2
      have o4 := MO_seq hact (by simp; omega) o2 o3
      cases hN : numF n t (i + 2) with
      | inl f =>
        rw [show i + 1 + 1 = i + 2 from rfl, hN] at e111 o4
        have w113 := fun x => W113 (ro := ro) (d := d + 1) σ3 x o4.2.1
        refine ⟨σ3, ?_, by unfold tstF; rw [h4]; dsimp only; rw [h5]; dsimp only; rw [hN]; exact o4⟩
        simp (disch := first | assumption | omega | exact zb_fit | exact hbf .. | (simp (disch := omega) only [up_no, up_nk, up_at, u_cp_no] <;> (first | assumption | omega)) | (simp only [hkF] <;> omega) | decide) only [E114, S114, hw0, e108, h33, h40, e112, f0, f1, nw, u0, hw1, e112', nh, hw2, u2, e111, w113, z_eq, Nat.reduceEqDiff, hkF, z_add, z_mul, up_at, up_no, up_nk, u_cp_no, ma_bd, ↓reduceIte, if_true, if_false, Option.toList, List.nil_append, List.cons_append]
      | inr p =>
        obtain ⟨i', v⟩ := p
        obtain ⟨v1, v2, v3⟩ := numF_lt hN
        rw [show i + 1 + 1 = i + 2 from rfl, hN] at e111 o4
        have s4 : MS n t act σ3 i' ms := MS_of hn hact h o4
        have hx : nI (w + hh * 8 + v * 32) = mc (w, hh, v) := by
          rw [show w + hh * 8 + v * 32 = w + 8 * hh + 32 * v by omega]
          exact (if_pos hw6).symm
        have hx2 : nI (w + 8 * hh + 32 * v) = mc (w, hh, v) := (if_pos hw6).symm
        have e113 := V113 (ro := ro) (d := d + 1) n act t σ3 i' ms (mc (w, hh, v)) hact (by omega) s4
        have o5 := MO_seq hact (by simp; omega) o4 (MO_step (w, hh, v) hact (by simp; omega) s4)
        refine ⟨_, ?_, by unfold tstF; rw [h4]; dsimp only; rw [h5]; dsimp only; rw [hN]; exact o5⟩
        simp (disch := first | assumption | omega | exact zb_fit | exact hbf .. | (simp (disch := omega) only [up_no, up_nk, up_at, u_cp_no] <;> (first | assumption | omega)) | (simp only [hkF] <;> omega) | decide) only [E114, S114, hw0, e108, h33, h40, e112, f0, f1, nw, u0, hw1, e112', nh, hw2, u2, e111, numV, hx2, e113, z_eq, Nat.reduceEqDiff, hkF, z_add, z_mul, up_at, up_no, up_nk, u_cp_no, ma_bd, ↓reduceIte, if_true, if_false, Option.toList, List.nil_append, List.cons_append]
        rfl
