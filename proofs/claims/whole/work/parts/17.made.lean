/-! THE TWO OBJECTS MADE: the law's run up to its loop, by the kernel's own evaluation; SH is the list of all shapes from there on. -/
theorem ma_ex_ro {ro : ma_RO} {mid pc : Nat} {i : Instr} {L : ma_L} {st : List Value} {sh : List ma_Sh} {σ : ma_H} {r : ma_O} (h : ma_ex (fun _ => none) mid i pc L st sh σ = some r) : ma_ex ro mid i pc L st sh σ = some r := by
  cases i
  case arraylength =>
    simp only [ma_ex] at h ⊢
    split at h
    · rename_i o r
      simp only [ma_alen] at h ⊢
      cases hs : sh[o]? with
      | none => rw [hs] at h; simp at h
      | some e =>
        rw [hs] at h
        rcases e with ⟨c, fs⟩ | ⟨z, k⟩ | lr <;> exact h
    · cases h
  case newarray t => cases t <;> exact h
  case iaload =>
    have h : ma_iald (fun _ => none) pc L st sh σ = some r := h
    show ma_iald ro pc L st sh σ = some r
    unfold ma_iald at h ⊢
    split at h
    · rename_i j o rr
      dsimp only at h ⊢
      generalize sh[j]? = q at h ⊢
      cases q with
      | none => cases h
      | some e => rcases e with ⟨c, fs⟩ | ⟨_ | _, k⟩ | lr <;> exact h
    · cases h
  all_goals exact h
theorem ma_step_ro {ro : ma_RO} {mid : Nat} {c : ma_C} {r : ma_O} (h : ma_step (fun _ => none) mid c = some r) : ma_step ro mid c = some r := by
  obtain ⟨i, k, hd, hl, hex⟩ := ma_step_inv h
  unfold ma_step
  rw [hd]
  dsimp only
  rw [if_pos hl]
  exact ma_ex_ro hex
theorem ma_run_ro {ro : ma_RO} : ∀ (n d m : Nat) (c : ma_C) (r : ma_R), ma_run (fun _ => none) n d m c = some r → ma_run ro n d m c = some r := by
  intro n
  induction n with
  | zero => intro d m c r h; simp [ma_run] at h
  | succ n ih =>
    intro d m c r h
    rw [ma_run] at h ⊢
    cases hs : ma_step (fun _ => none) m c with
    | none => rw [hs] at h; cases h
    | some o =>
      rw [hs] at h
      rw [ma_step_ro hs]
      rcases o with c' | ⟨m', as, rest⟩ | v
      · exact ih _ _ _ _ h
      · cases d with
        | zero => cases h
        | succ d' =>
          dsimp only at h ⊢
          cases hr : ma_run (fun _ => none) n d' m' (0, ma_ent m' as, [], c.2.2.2.1, c.2.2.2.2) with
          | none => rw [hr] at h; cases h
          | some q =>
            rw [hr] at h
            rw [ih _ _ _ _ hr]
            exact ih _ _ _ _ h
      · exact h
/-- the run goes on until its own frame stands at a place -/
def ma_to (ro : ma_RO) : Nat → Nat → Nat → Nat → ma_C → Option ma_C
  | 0, _, _, _, _ => none
  | n + 1, d, m, stop, c => if c.1 = stop then some c else match ma_step ro m c with
    | none => none
    | some (.inl c') => ma_to ro n d m stop c'
    | some (.inr (.inl (m', as, rest))) => match d with
      | 0 => none
      | d' + 1 => match ma_run ro n d' m' (0, ma_ent m' as, [], c.2.2.2.1, c.2.2.2.2) with
        | none => none
        | some (v, sh, σ) => ma_to ro n (d' + 1) m stop (c.1 + 3, c.2.1, v.toList ++ rest, sh, σ)
    | some (.inr (.inr _)) => none
theorem ma_to_rn {ro : ma_RO} : ∀ (n d m stop : Nat) (c c' : ma_C), ma_to (fun _ => none) n d m stop c = some c' → ma_rn ro d m c = ma_rn ro d m c' := by
  intro n
  induction n with
  | zero => intro d m stop c c' h; simp [ma_to] at h
  | succ n ih =>
    intro d m stop c c' h
    rw [ma_to] at h
    split at h
    · cases h; rfl
    · cases hs : ma_step (fun _ => none) m c with
      | none => rw [hs] at h; cases h
      | some o =>
        rw [hs] at h
        have hs' := ma_step_ro (ro := ro) hs
        rcases o with c1 | ⟨m', as, rest⟩ | v
        · exact (ma_rn_next hs').trans (ih _ _ _ _ _ h)
        · cases d with
          | zero => cases h
          | succ d' =>
            dsimp only at h
            cases hr : ma_run (fun _ => none) n d' m' (0, ma_ent m' as, [], c.2.2.2.1, c.2.2.2.2) with
            | none => rw [hr] at h; cases h
            | some q =>
              rw [hr] at h
              obtain ⟨v, sh, σ⟩ := q
              have hev : ma_ev ro d' m' as c.2.2.2.1 c.2.2.2.2 = some (v, sh, σ) := ma_rn_iff.mpr ⟨n, ma_run_ro _ _ _ _ _ hr⟩
              obtain ⟨pc, L, st, sh0, σ0⟩ := c
              rw [ma_rn_call hs', hev]
              exact ih _ _ _ _ _ h
        · cases h
def SH : List ma_Sh := [.inl (7, [some (some 1), some (some 33), none, some (some 69), some (some 65), some (some 70), some (some 84), some (some 86), some (some 88), some (some 89)]), .inl (5, [some (some 2), some (some 16), none, some (some 20), none, some (some 21), some (some 25), some (some 29)]), .inl (6, [some (some 3), none, none, none, none]), .inr (.inr [some 4, some 6, some 8, some 10, some 12, some 14]), .inl (1, [none, none, none, none, none, none, none, none, some (some 5)]), .inr (.inl (false, 4)), .inl (1, [none, none, none, none, none, none, none, none, some (some 7)]), .inr (.inl (false, 4)), .inl (1, [none, none, none, none, none, none, none, none, some (some 9)]), .inr (.inl (false, 4)), .inl (1, [none, none, none, none, none, none, none, none, some (some 11)]), .inr (.inl (false, 4)), .inl (1, [none, none, none, none, none, none, none, none, some (some 13)]), .inr (.inl (false, 4)), .inl (1, [none, none, none, none, none, none, none, none, some (some 15)]), .inr (.inl (false, 4)), .inl (2, [none, some (some 17), some (some 18), none, some (some 19), none]), .inr (.inl (false, 10)), .inr (.inl (false, 10)), .inr (.inl (false, 100)), .inr (.inl (false, 100)), .inl (4, [some (some 22), some (some 23), some (some 24), none]), .inr (.inl (false, 5)), .inr (.inl (false, 5)), .inr (.inl (true, 5)), .inl (4, [some (some 26), some (some 27), some (some 28), none]), .inr (.inl (false, 8)), .inr (.inl (false, 8)), .inr (.inl (true, 8)), .inl (4, [some (some 30), some (some 31), some (some 32), none]), .inr (.inl (false, 8)), .inr (.inl (false, 8)), .inr (.inl (true, 8)), .inl (5, [some (some 34), some (some 48), none, some (some 52), none, some (some 53), some (some 57), some (some 61)]), .inl (6, [some (some 35), none, none, none, none]), .inr (.inr [some 36, some 38, some 40, some 42, some 44, some 46]), .inl (1, [none, none, none, none, none, none, none, none, some (some 37)]), .inr (.inl (false, 4)), .inl (1, [none, none, none, none, none, none, none, none, some (some 39)]), .inr (.inl (false, 4)), .inl (1, [none, none, none, none, none, none, none, none, some (some 41)]), .inr (.inl (false, 4)), .inl (1, [none, none, none, none, none, none, none, none, some (some 43)]), .inr (.inl (false, 4)), .inl (1, [none, none, none, none, none, none, none, none, some (some 45)]), .inr (.inl (false, 4)), .inl (1, [none, none, none, none, none, none, none, none, some (some 47)]), .inr (.inl (false, 4)), .inl (2, [none, some (some 49), some (some 50), none, some (some 51), none]), .inr (.inl (false, 10)), .inr (.inl (false, 10)), .inr (.inl (false, 100)), .inr (.inl (false, 100)), .inl (4, [some (some 54), some (some 55), some (some 56), none]), .inr (.inl (false, 5)), .inr (.inl (false, 5)), .inr (.inl (true, 5)), .inl (4, [some (some 58), some (some 59), some (some 60), none]), .inr (.inl (false, 8)), .inr (.inl (false, 8)), .inr (.inl (true, 8)), .inl (4, [some (some 62), some (some 63), some (some 64), none]), .inr (.inl (false, 8)), .inr (.inl (false, 8)), .inr (.inl (true, 8)), .inl (2, [none, some (some 66), some (some 67), none, some (some 68), none]), .inr (.inl (false, 10)), .inr (.inl (false, 10)), .inr (.inl (false, 100)), .inl (3, [some (some 1), some (some 65), none, none]), .inl (6, [some (some 71), none, none, none, none]), .inr (.inr [some 72, some 74, some 76, some 78, some 80, some 82]), .inl (1, [none, none, none, none, none, none, none, none, some (some 73)]), .inr (.inl (false, 4)), .inl (1, [none, none, none, none, none, none, none, none, some (some 75)]), .inr (.inl (false, 4)), .inl (1, [none, none, none, none, none, none, none, none, some (some 77)]), .inr (.inl (false, 4)), .inl (1, [none, none, none, none, none, none, none, none, some (some 79)]), .inr (.inl (false, 4)), .inl (1, [none, none, none, none, none, none, none, none, some (some 81)]), .inr (.inl (false, 4)), .inl (1, [none, none, none, none, none, none, none, none, some (some 83)]), .inr (.inl (false, 4)), .inl (1, [none, none, none, none, none, none, none, none, some (some 85)]), .inr (.inl (false, 4)), .inl (0, [some (some 87), none]), .inr (.inl (false, 20)), .inr (.inl (false, 10)), .inr (.inl (false, 10)), .inl (8, [none, some (some 91), some (some 92), some (some 93), none, none, none, none, none, none, some (some 94), some (some 95), some (some 96), none, none, none, none]), .inr (.inl (false, 933)), .inr (.inl (false, 933)), .inr (.inl (false, 33)), .inr (.inl (false, 6)), .inr (.inl (true, 64)), .inr (.inl (false, 20))]
def ma_ck (r : Option ma_C) (pc : Nat) (L : ma_L) (P : ma_H → Bool) : Bool := match r with
  | some (pc', L', st', sh', σ) => decide (pc' = pc ∧ L' = L ∧ st' = [] ∧ sh' = SH) && P σ
  | none => false
theorem ma_ck_spec {r : Option ma_C} {pc : Nat} {L : ma_L} {P : ma_H → Bool} (h : ma_ck r pc L P = true) : ∃ σ, r = some (pc, L, [], SH, σ) ∧ P σ = true := by
  unfold ma_ck at h
  split at h
  · rename_i pc' L' st' sh' σ
    obtain ⟨h1, h2⟩ := Bool.and_eq_true_iff.mp h
    obtain ⟨rfl, rfl, rfl, rfl⟩ := of_decide_eq_true h1
    exact ⟨σ, rfl, h2⟩
  · cases h
/-- what the ints are at first, as far as anyone looks -/
def ma_P0 (σ : ma_H) : Bool :=
  [(0, 2), (90, 4), (86, 1), (90, 13), (1, 2), (1, 4), (2, 1), (2, 3), (2, 4), (16, 3), (16, 5), (21, 3), (25, 3), (29, 3), (91, 0), (91, 2), (91, 33), (91, 34), (91, 35), (91, 36), (91, 37), (91, 38)].all (fun q => decide (σ q.1 q.2 = 0)) &&
  (decide (σ 2 2 = 5) && decide (σ 16 0 = 2) && decide (σ 91 1 = 5) && decide (σ 91 39 = -1)) &&
  (List.range 6).all (fun p => decide (σ (4 + 2 * p) 0 = Int32.ofNat p) && decide (σ (36 + 2 * p) 0 = Int32.ofNat p) && decide (σ (72 + 2 * p) 0 = Int32.ofNat p))
theorem ma_first_ck : ma_ck (ma_to (fun _ => none) 4000 100 178 18 (0, [some (.ref 2000000), none, none, none], [], [], fun _ _ => 0)) 18 [some (.ref 2000000), some (.ref 0), some (.ref 90), some (.int 0)] ma_P0 = true := by decide +kernel
theorem ma_first (ro : ma_RO) : ∃ σ, ma_P0 σ = true ∧ ma_rn ro 100 178 (0, [some (.ref 2000000), none, none, none], [], [], fun _ _ => 0) = ma_rn ro 100 178 (18, [some (.ref 2000000), some (.ref 0), some (.ref 90), some (.int 0)], [], SH, σ) := by
  obtain ⟨σ, h1, h2⟩ := ma_ck_spec ma_first_ck
  exact ⟨σ, h2, ma_to_rn _ _ _ _ _ _ h1⟩
theorem SH_len : SH.length = 97 := by decide +kernel
theorem SH_sz : ma_sz SH ≤ 7302250 := by decide +kernel
