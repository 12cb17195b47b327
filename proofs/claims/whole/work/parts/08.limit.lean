/-! The machine's runs: more steps change nothing; the limit ma_rn; its three equations. -/
theorem ma_run_mono {ro : ma_RO} : ∀ (n d m : Nat) (c : ma_C) (r : ma_R), ma_run ro n d m c = some r → ma_run ro (n + 1) d m c = some r := by
  intro n
  induction n with
  | zero => intro d m c r h; simp [ma_run] at h
  | succ n ih =>
    intro d m c r h
    rw [ma_run] at h ⊢
    cases hs : ma_step ro m c with
    | none => rw [hs] at h; cases h
    | some o =>
      rw [hs] at h
      rcases o with c' | ⟨m', as, rest⟩ | v
      · exact ih _ _ _ _ h
      · cases d with
        | zero => cases h
        | succ d' =>
          dsimp only at h ⊢
          cases hr : ma_run ro n d' m' (0, ma_ent m' as, [], c.2.2.2.1, c.2.2.2.2) with
          | none => rw [hr] at h; cases h
          | some q =>
            rw [hr] at h
            rw [ih _ _ _ _ hr]
            exact ih _ _ _ _ h
      · exact h
theorem ma_run_le {ro : ma_RO} {n k d m : Nat} {c : ma_C} {r : ma_R} (h : ma_run ro n d m c = some r) (hk : n ≤ k) : ma_run ro k d m c = some r := by
  obtain ⟨j, rfl⟩ := Nat.exists_eq_add_of_le hk
  induction j with
  | zero => exact h
  | succ j ih => exact ma_run_mono _ _ _ _ _ (ih (by omega))
theorem ma_run_deep {ro : ma_RO} : ∀ (n d m : Nat) (c : ma_C) (r : ma_R), ma_run ro n d m c = some r → ma_run ro n (d + 1) m c = some r := by
  intro n
  induction n with
  | zero => intro d m c r h; simp [ma_run] at h
  | succ n ih =>
    intro d m c r h
    rw [ma_run] at h ⊢
    cases hs : ma_step ro m c with
    | none => rw [hs] at h; cases h
    | some o =>
      rw [hs] at h
      rcases o with c' | ⟨m', as, rest⟩ | v
      · exact ih _ _ _ _ h
      · cases d with
        | zero => cases h
        | succ d' =>
          dsimp only at h ⊢
          cases hr : ma_run ro n d' m' (0, ma_ent m' as, [], c.2.2.2.1, c.2.2.2.2) with
          | none => rw [hr] at h; cases h
          | some q =>
            rw [hr] at h
            rw [ih _ _ _ _ hr]
            exact ih _ _ _ _ h
      · exact h
theorem ma_run_det {ro : ma_RO} {n k d m : Nat} {c : ma_C} {r q : ma_R} (h : ma_run ro n d m c = some r) (h' : ma_run ro k d m c = some q) : r = q := by
  have h1 := ma_run_le h (Nat.le_max_left n k)
  have h2 := ma_run_le h' (Nat.le_max_right n k)
  exact Option.some.inj (h1.symm.trans h2)
noncomputable def ma_rn (ro : ma_RO) (d m : Nat) (c : ma_C) : Option ma_R :=
  @dite (Option ma_R) (∃ (n : Nat) (r : ma_R), ma_run ro n d m c = some r) (Classical.propDecidable _) (fun h => some (Classical.choose (Classical.choose_spec h))) (fun _ => none)
theorem ma_rn_iff {ro : ma_RO} {d m : Nat} {c : ma_C} {r : ma_R} : ma_rn ro d m c = some r ↔ ∃ n, ma_run ro n d m c = some r := by
  unfold ma_rn
  by_cases h : ∃ (n : Nat) (r : ma_R), ma_run ro n d m c = some r
  · rw [dif_pos h]
    have hs := Classical.choose_spec (Classical.choose_spec h)
    constructor
    · intro e
      have e := Option.some.inj e
      exact ⟨_, e ▸ hs⟩
    · rintro ⟨n, hn⟩
      rw [ma_run_det hs hn]
  · rw [dif_neg h]
    constructor
    · intro e; cases e
    · rintro ⟨n, hn⟩; exact absurd ⟨n, r, hn⟩ h
/-- a method's answer, and the heap behind it -/
noncomputable def ma_ev (ro : ma_RO) (d m : Nat) (as : List Value) (sh : List ma_Sh) (σ : ma_H) : Option ma_R := ma_rn ro d m (0, ma_ent m as, [], sh, σ)
theorem ma_rn_next {ro : ma_RO} {d m : Nat} {c c' : ma_C} (h : ma_step ro m c = some (.inl c')) : ma_rn ro d m c = ma_rn ro d m c' := by
  apply Option.ext
  intro r
  rw [ma_rn_iff, ma_rn_iff]
  constructor
  · rintro ⟨n, hn⟩
    cases n with
    | zero => simp [ma_run] at hn
    | succ n => rw [ma_run, h] at hn; exact ⟨n, hn⟩
  · rintro ⟨n, hn⟩
    exact ⟨n + 1, by rw [ma_run, h]; exact hn⟩
theorem ma_rn_call {ro : ma_RO} {d m m' pc : Nat} {L : ma_L} {st as rest : List Value} {sh : List ma_Sh} {σ : ma_H} (h : ma_step ro m (pc, L, st, sh, σ) = some (.inr (.inl (m', as, rest)))) :
    ma_rn ro (d + 1) m (pc, L, st, sh, σ) = (ma_ev ro d m' as sh σ).bind (fun q => ma_rn ro (d + 1) m (pc + 3, L, q.1.toList ++ rest, q.2.1, q.2.2)) := by
  apply Option.ext
  intro r
  rw [ma_rn_iff]
  constructor
  · rintro ⟨n, hn⟩
    cases n with
    | zero => simp [ma_run] at hn
    | succ n =>
      rw [ma_run, h] at hn
      dsimp only at hn
      cases hr : ma_run ro n d m' (0, ma_ent m' as, [], sh, σ) with
      | none => rw [hr] at hn; cases hn
      | some q =>
        rw [hr] at hn
        rw [show ma_ev ro d m' as sh σ = some q from ma_rn_iff.mpr ⟨n, hr⟩]
        exact ma_rn_iff.mpr ⟨n, hn⟩
  · intro e
    cases hv : ma_ev ro d m' as sh σ with
    | none => rw [hv] at e; cases e
    | some q =>
      rw [hv] at e
      obtain ⟨n1, h1⟩ := ma_rn_iff.mp hv
      obtain ⟨n2, h2⟩ := ma_rn_iff.mp e
      refine ⟨max n1 n2 + 1, ?_⟩
      rw [ma_run, h]
      dsimp only
      rw [ma_run_le h1 (Nat.le_max_left _ _)]
      exact ma_run_le h2 (Nat.le_max_right _ _)
theorem ma_rn_ret {ro : ma_RO} {d m pc : Nat} {L : ma_L} {st : List Value} {sh : List ma_Sh} {σ : ma_H} {v : Option Value} (h : ma_step ro m (pc, L, st, sh, σ) = some (.inr (.inr v))) :
    ma_rn ro d m (pc, L, st, sh, σ) = some (v, sh, σ) := by
  rw [ma_rn_iff]
  exact ⟨1, by rw [ma_run, h]⟩
theorem ma_rn_deep {ro : ma_RO} {d m : Nat} {c : ma_C} {r : ma_R} (h : ma_rn ro d m c = some r) : ma_rn ro (d + 1) m c = some r := by
  obtain ⟨n, hn⟩ := ma_rn_iff.mp h
  exact ma_rn_iff.mpr ⟨n, ma_run_deep _ _ _ _ _ hn⟩
theorem ma_ev_deep {ro : ma_RO} {d k m : Nat} {as : List Value} {sh : List ma_Sh} {σ : ma_H} {r : ma_R} (h : ma_ev ro d m as sh σ = some r) (hk : d ≤ k) : ma_ev ro k m as sh σ = some r := by
  obtain ⟨j, rfl⟩ := Nat.exists_eq_add_of_le hk
  induction j with
  | zero => exact h
  | succ j ih => exact ma_rn_deep (ih (by omega))
