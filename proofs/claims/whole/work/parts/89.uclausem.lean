def woF (n : Nat) (t : Nat → Nat) (i : Nat) : CO := match wnF n t 0 i with
  | .inl f => .inl f
  | .inr (i', w) => .inr (i', .inl w)
theorem V28w {ro : ma_RO} (n : Nat) (t : Nat → Nat) (hn : n ≤ 100) (ht : ∀ i, i < n → t i ≤ 127) (i : Nat) (hi : i ≤ n) (hh : ¬ pkc n t i = nI 104) : CX ro n t i (woF n t i) := by
  intro D hD σ sz c hsz hc h h3
  obtain ⟨d, rfl⟩ : ∃ d, D = d + 3 := ⟨D - 3, by omega⟩
  have e36 := V36 (ro := ro) (d := d) n t hn σ h.1 i (by omega) h.2.1
  have e29 : ma_ev ro (d + 2) 29 [.ref 69] SH σ = some (some (.int (nI 0)), SH, σ) := by
    simp (disch := first | assumption | omega | exact zb_fit | exact hbf .. | (simp (disch := omega) only [up_no, up_nk, up_at, u_cp_no] <;> (first | assumption | omega)) | (simp only [hkF] <;> omega) | decide) only [E29, S29, e36, hh, hkF, z_add, z_mul, up_at, up_no, up_nk, u_cp_no, ma_bd, ↓reduceIte, if_true, if_false, Option.toList, List.nil_append, List.cons_append]
  obtain ⟨σ1, σ2, e35, e33, o2⟩ := wn_X (ro := ro) (d := d) n t hn ht 0 (by decide) σ i sz (by omega) hi h
  refine ⟨ma_up σ2 65 0 (nI (numV (wnF n t 0 i))), ?_, ?_⟩
  · simp (disch := first | assumption | omega | exact zb_fit | exact hbf .. | (simp (disch := omega) only [up_no, up_nk, up_at, u_cp_no] <;> (first | assumption | omega)) | (simp only [hkF] <;> omega) | decide) only [E28, S28, e29, e35, e33, z_eq, Nat.reduceEqDiff, hkF, z_add, z_mul, up_at, up_no, up_nk, u_cp_no, ma_bd, ↓reduceIte, if_true, if_false, Option.toList, List.nil_append, List.cons_append]
  · unfold woF
    cases hwn : wnF n t 0 i with
    | inl f =>
      rw [hwn] at o2
      exact ⟨by rw [up_no (by decide)]; exact o2.1, fun o ho => by rw [up_no (by omega)]; exact o2.2.2.2 o (by omega) (by omega) (by omega)⟩
    | inr p =>
      obtain ⟨i2, v⟩ := p
      rw [hwn] at o2
      obtain ⟨y1, y2, y3, y4, y5, y6, y7⟩ := o2
      refine ⟨by rw [up_no (by decide)]; exact y1, by rw [up_no (by decide)]; exact y2, up_at _ _ _ _, fun j hj => ?_, by rw [up_no (by decide)]; exact y7 66 (by decide) (by decide) (by decide), by rw [up_no (by decide)]; exact y7 67 (by decide) (by decide) (by decide), fun k hk => by rw [up_no (by decide)]; exact y5 k hk, by rw [up_nk (by decide)]; exact y3, fun o ho => by rw [up_no (by omega)]; exact y7 o (by omega) (by omega) (by omega)⟩
      rw [up_nk hj]
      by_cases j5 : j = 5
      · subst j5; rw [h.2.2.2]; exact y3
      · exact y6 j j5
theorem MC_err {act ms : Nat} {σ σ' : ma_H} {f : Nat} (h : MO act ms σ σ' (.inl f)) : MC act ms σ σ' (.inl f) :=
  ⟨h.1, h.2.1, h.2.2.1, fun j j1 j2 j3 => h.2.2.2.1 j j2 (by omega), h.2.2.2.2⟩
theorem M118 {ro : ma_RO} {d : Nat} (n act : Nat) (t : Nat → Nat) (hn : n ≤ 100) (hact : act < 5) (ht : ∀ i, i < n → t i ≤ 127) (i : Nat) (hi : i ≤ n) (σ : ma_H) (ms : Nat) (hms : ms ≤ i) (h : MS n t act σ i ms) : ∃ σ', ma_ev ro (d + 3) 118 [.ref 90, .int (nI 223), .ref (1000000 + 0)] SH σ = some (none, SH, σ') ∧ MC act ms σ σ' (woF n t i) := by
  obtain ⟨σ1, σ2, e110, e111, o2⟩ := wn_M (ro := ro) (d := d) n act t hn hact ht 0 (by decide) σ i ms (by omega) hi h
  unfold woF
  cases hwn : wnF n t 0 i with
  | inl f =>
    rw [hwn] at o2 e111
    have hw2 := o2.2.1
    refine ⟨σ2, ?_, MC_err o2⟩
    simp (disch := first | assumption | omega | exact zb_fit | exact hbf .. | (simp (disch := omega) only [up_no, up_nk, up_at, u_cp_no] <;> (first | assumption | omega)) | (simp only [hkF] <;> omega) | decide) only [E118, S118, e110, e111, hw2, z_eq, Nat.reduceEqDiff, hkF, z_add, z_mul, up_at, up_no, up_nk, u_cp_no, ma_bd, ↓reduceIte, if_true, if_false, Option.toList, List.nil_append, List.cons_append]
  | inr p =>
    obtain ⟨i2, v⟩ := p
    rw [hwn] at o2 e111
    have s2 := MS_of hn hact h o2
    have hw2 := s2.2.2.2.1
    have h5 := s2.2.1
    have p1 : 223 + act < 933 := by omega
    obtain ⟨y1, y2, y3, y4, y5, y6, y7⟩ := o2
    refine ⟨ma_up σ2 91 (223 + act) (nI v), ?_, by rw [up_no (by decide)]; exact y1, by rw [up_no (by decide)]; exact y2, fun j j1 j2 => by rw [up_no (by decide)]; exact y5 j j1 j2, up_at _ _ _ _, by rw [up_nk (by omega)]; exact y3, fun j j1 j2 j3 => by rw [up_nk j1]; exact y6 j j2 j3, fun o o1 o2 => by rw [up_no o2]; exact y7 o o1 o2⟩
    simp (disch := first | assumption | omega | exact zb_fit | exact hbf .. | (simp (disch := omega) only [up_no, up_nk, up_at, u_cp_no] <;> (first | assumption | omega)) | (simp only [hkF] <;> omega) | decide) only [E118, S118, e110, e111, numV, hw2, h5, z_eq, Nat.reduceEqDiff, hkF, z_add, z_mul, up_at, up_no, up_nk, u_cp_no, ma_bd, ↓reduceIte, if_true, if_false, Option.toList, List.nil_append, List.cons_append]
theorem M117 {ro : ma_RO} (n act : Nat) (t : Nat → Nat) (hn : n ≤ 100) (hact : act < 5) (ht : ∀ i, i < n → t i ≤ 127) (oE : Nat → Out) (hE : ∀ i, i ≤ n → SX ro n t 5 i (oE i) ∧ SM ro n t act 5 i (oE i) ∧ GO n i 13 (oE i)) (i s : Nat) (b : Bool) (hs : s < 7) (hi : i ≤ n) (D : Nat) (hD : 23 ≤ D) (σ : ma_H) (ms : Nat) (hms : ms ≤ i) (h : MS n t act σ i ms) (h9 : σ 90 9 = nI 0) : ∃ σ', ma_ev ro D 117 [.ref 90, .int (if b = true then -10 else -200), .ref (1000000 + s)] SH σ = some (none, SH, σ') ∧ MC act ms σ σ' (clF n t s i b oE) := by
  obtain ⟨d, rfl⟩ : ∃ d, D = d + 3 := ⟨D - 3, by omega⟩
  obtain ⟨σ1, σ2, e110, e111, o2⟩ := wn_M (ro := ro) (d := d) n act t hn hact ht s hs σ i ms (by omega) hi h
  generalize hK : (if b = true then (-10 : Int32) else -200) = K
  unfold clF
  cases hwn : wnF n t s i with
  | inl f =>
    rw [hwn] at o2 e111
    have hw2 := o2.2.1
    have w109 := W109 (ro := ro) (d := d + 1) σ2 (nI 32) hw2
    have w116 := W116 (ro := ro) (d := d) σ2 hw2
    have w113 := fun x => W113 (ro := ro) (d := d + 2) σ2 x hw2
    refine ⟨σ2, ?_, MC_err o2⟩
    simp (disch := first | assumption | omega | exact zb_fit | exact hbf .. | (simp (disch := omega) only [up_no, up_nk, up_at, u_cp_no] <;> (first | assumption | omega)) | (simp only [hkF] <;> omega) | decide) only [E117, S117, e110, e111, w109, w116, w113, hkF, z_add, z_mul, up_at, up_no, up_nk, u_cp_no, ma_bd, ↓reduceIte, if_true, if_false, Option.toList, List.nil_append, List.cons_append]
  | inr p =>
    obtain ⟨i2, v⟩ := p
    obtain ⟨v1, v2, v3⟩ := wnF_lt hs hi hwn
    rw [hwn] at o2 e111
    have s2 := MS_of hn hact h o2
    have e109 := V109 (ro := ro) (d := d + 1) n act t hn σ2 i2 _ (nI 32) (by omega) s2
    dsimp only
    by_cases h32 : pkc n t i2 = nI 32
    · rw [if_pos h32] at e109 ⊢
      have hin := pkc_lt (by decide) h32
      have x4 := MO_seq hact (by simp; omega) o2 (MO_place (i2 + 1) s2)
      have s4 := MS_of hn hact h x4
      obtain ⟨-, sm, go⟩ := hE (i2 + 1) hin
      obtain ⟨σ5, e116, o5⟩ := sm (d + 2) (by omega) _ _ (by simp; omega) s4 (by rw [MO_9 x4]; exact h9)
      have x5 := MO_seq hact (by simp; omega) x4 o5
      cases hoE : oE (i2 + 1) with
      | inl f =>
        rw [hoE] at x5
        have w113 := fun x => W113 (ro := ro) (d := d + 2) σ5 x x5.2.1
        refine ⟨σ5, ?_, MC_err x5⟩
        simp (disch := first | assumption | omega | exact zb_fit | exact hbf .. | (simp (disch := omega) only [up_no, up_nk, up_at, u_cp_no] <;> (first | assumption | omega)) | (simp only [hkF] <;> omega) | decide) only [E117, S117, e110, e111, e109, e116, w113, hkF, z_add, z_mul, up_at, up_no, up_nk, u_cp_no, ma_bd, ↓reduceIte, if_true, if_false, Option.toList, List.nil_append, List.cons_append]
      | inr p =>
        obtain ⟨i4, ts⟩ := p
        rw [hoE] at x5 go
        obtain ⟨g1, g2, g3, g4, g5⟩ := go
        have x5 : MO act ms σ σ5 (.inr (i4, ts)) := x5
        have s5 := MS_of hn hact h x5
        have hx : K - nI v = wM (b, v, ts) := by
          rw [← hK]
          cases b <;> rfl
        have e113 := V113 (ro := ro) (d := d + 2) n act t σ5 i4 _ (wM (b, v, ts)) hact (by omega) s5
        obtain ⟨y1, y2, y3, y4, y5, y6, y7⟩ := x5
        refine ⟨_, by simp (disch := first | assumption | omega | exact zb_fit | exact hbf .. | (simp (disch := omega) only [up_no, up_nk, up_at, u_cp_no] <;> (first | assumption | omega)) | (simp only [hkF] <;> omega) | decide) only [E117, S117, e110, e111, numV, e109, e116, hx, e113, hkF, z_add, z_mul, up_at, up_no, up_nk, u_cp_no, ma_bd, ↓reduceIte, if_true, if_false, Option.toList, List.nil_append, List.cons_append]; rfl, by rw [up_no (by decide), up_no (by decide)]; exact y1, by rw [up_no (by decide), up_no (by decide)]; exact y2, fun j j1 j2 => by rw [up_no (by decide), up_no (by decide)]; exact y5 j j1 j2, up_at _ _ _ _, fun k hk => ?_, ?_, fun j j1 j2 => ?_, fun o o1 o2 => by rw [up_no o2, up_no o2]; exact y7 o o1 o2⟩
        · have hk' : k < ts.length := hk
          rw [up_nk (by omega), up_nk (by omega)]; exact y4 k hk
        · rw [up_nk (by omega), show 233 + 140 * act + ms + (b, v, ts).2.2.length = 233 + 140 * act + (ms + ts.length) from Nat.add_assoc _ _ _, up_at]
        · rw [up_nk j1, up_nk (by omega)]; exact y6 j j1 j2
    · rw [if_neg h32] at e109 ⊢
      have x4 := MO_seq hact (by simp; omega) o2 (MO_err s2)
      have hw2 : ma_up σ2 90 8 (nI 1) 90 8 = nI 1 := up_at _ _ _ _
      have w116 := W116 (ro := ro) (d := d) (ma_up σ2 90 8 (nI 1)) hw2
      have w113 := fun x => W113 (ro := ro) (d := d + 2) (ma_up σ2 90 8 (nI 1)) x hw2
      refine ⟨_, ?_, MC_err x4⟩
      simp (disch := first | assumption | omega | exact zb_fit | exact hbf .. | (simp (disch := omega) only [up_no, up_nk, up_at, u_cp_no] <;> (first | assumption | omega)) | (simp only [hkF] <;> omega) | decide) only [E117, S117, e110, e111, e109, w116, w113, hkF, z_add, z_mul, up_at, up_no, up_nk, u_cp_no, ma_bd, ↓reduceIte, if_true, if_false, Option.toList, List.nil_append, List.cons_append]
/-- a clause: both readers agree -/
theorem CL (ro : ma_RO) (n act : Nat) (t : Nat → Nat) (hn : n ≤ 100) (hact : act < 5) (ht : ∀ i, i < n → t i ≤ 127) (i : Nat) (hi : i ≤ n) : ∃ o, CX ro n t i o ∧ CM ro n t act i o ∧ GC n i o := by
  have hall := Eall ro n act t hn hact ht
  have hex : ∀ i, ∃ o, i ≤ n → SX ro n t 5 i o ∧ SM ro n t act 5 i o ∧ GO n i 13 o := fun i => by
    by_cases h : i ≤ n
    · obtain ⟨o, ho⟩ := hall i h
      exact ⟨o, fun _ => ho⟩
    · exact ⟨.inl 0, fun h' => absurd h' h⟩
  obtain ⟨oE, hE⟩ : ∃ oE : Nat → Out, ∀ i, i ≤ n → SX ro n t 5 i (oE i) ∧ SM ro n t act 5 i (oE i) ∧ GO n i 13 (oE i) := ⟨fun i => Classical.choose (hex i), fun i => Classical.choose_spec (hex i)⟩
  have n104 : ¬ nI 104 = nI 119 := by decide
  have n9 : ¬ nI 97 = nI 101 := by decide
  by_cases hh : pkc n t i = nI 104
  · have hin := pkc_lt (by decide) hh
    -- what a clause with an E is worth
    have GCL : ∀ s b, s < 7 → GC n i (clF n t s i b oE) := by
      intro s b hs
      unfold clF
      cases hwn : wnF n t s i with
      | inl f => exact wnF_le hs hi hwn
      | inr p =>
        obtain ⟨i2, v⟩ := p
        obtain ⟨v1, v2, v3⟩ := wnF_lt hs hi hwn
        dsimp only
        by_cases h32 : pkc n t i2 = nI 32
        · rw [if_pos h32]
          have hin2 := pkc_lt (by decide) h32
          obtain ⟨-, -, go⟩ := hE (i2 + 1) hin2
          cases hoE : oE (i2 + 1) with
          | inl f => rw [hoE] at go; exact go
          | inr p =>
            obtain ⟨i4, ts⟩ := p
            rw [hoE] at go
            obtain ⟨g1, g2, g3, g4, g5⟩ := go
            exact ⟨by omega, g2, by show ts.length + 1 ≤ i4 - i; omega, v1, g4, g5 0 (by decide)⟩
        · rw [if_neg h32]; exact v3
    have RM : ∀ s b, ((s = 1 ∧ b = true ∧ pkc n t (i + 1) = nI 101) ∨ (s = 2 ∧ b = false ∧ ¬ pkc n t (i + 1) = nI 101)) → CM ro n t act i (clF n t s i b oE) := by
      intro s b hs D hD σ ms hms h h9
      obtain ⟨d, rfl⟩ : ∃ d, D = d + 1 := ⟨D - 1, by omega⟩
      have e108 := V108 (ro := ro) (d := d) n t hn σ h.1 i (by omega) h.2.2.1
      have e119 := V119 (ro := ro) (d := d) n t hn σ h.1 i (by omega) h.2.2.1
      obtain ⟨σ', e117, o⟩ := M117 n act t hn hact ht oE hE i s b (by omega) hi d (by omega) σ ms hms h h9
      refine ⟨σ', ?_, o⟩
      rcases hs with ⟨rfl, rfl, h101⟩ | ⟨rfl, rfl, h101⟩
      · rw [if_pos rfl] at e117
        simp (disch := first | assumption | omega | exact zb_fit | exact hbf .. | (simp (disch := omega) only [up_no, up_nk, up_at, u_cp_no] <;> (first | assumption | omega)) | (simp only [hkF] <;> omega) | decide) only [E120, S120, e108, hh, n104, e119, h101, e117, hkF, z_add, z_mul, up_at, up_no, up_nk, u_cp_no, ma_bd, ↓reduceIte, if_true, if_false, Option.toList, List.nil_append, List.cons_append]
      · rw [if_neg (by decide)] at e117
        simp (disch := first | assumption | omega | exact zb_fit | exact hbf .. | (simp (disch := omega) only [up_no, up_nk, up_at, u_cp_no] <;> (first | assumption | omega)) | (simp only [hkF] <;> omega) | decide) only [E120, S120, e108, hh, n104, e119, h101, e117, hkF, z_add, z_mul, up_at, up_no, up_nk, u_cp_no, ma_bd, ↓reduceIte, if_true, if_false, Option.toList, List.nil_append, List.cons_append]
    by_cases ha : pkc n t (i + 1) = nI 97
    · refine ⟨clF n t 2 i false oE, V28c n act t hn ht oE hE i 2 false (.inr ⟨rfl, rfl⟩) hi hh ⟨fun _ => ha, fun _ => rfl⟩, RM 2 false (.inr ⟨rfl, rfl, by rw [ha]; exact n9⟩), GCL 2 false (by decide)⟩
    · by_cases he : pkc n t (i + 1) = nI 101
      · exact ⟨clF n t 1 i true oE, V28c n act t hn ht oE hE i 1 true (.inl ⟨rfl, rfl⟩) hi hh ⟨fun h => absurd h (by decide), fun h => absurd h ha⟩, RM 1 true (.inl ⟨rfl, rfl, he⟩), GCL 1 true (by decide)⟩
      · have e1 : clF n t 1 i true oE = .inl (i + 1) := by
          have : wnF n t 1 i = .inl (i + 1) := by
            unfold wnF
            rw [show spF n t (ma_chs 1) (ma_chs 1).length 0 i = .inl (i + 1) by
              show (if pkc n t i = nI 104 then (if pkc n t (i + 1) = nI 101 then _ else Sum.inl (i + 1)) else _) = _
              rw [if_pos hh, if_neg he]]
          unfold clF; rw [this]
        have e2 : clF n t 2 i false oE = .inl (i + 1) := by
          have : wnF n t 2 i = .inl (i + 1) := by
            unfold wnF
            rw [show spF n t (ma_chs 2) (ma_chs 2).length 0 i = .inl (i + 1) by
              show (if pkc n t i = nI 104 then (if pkc n t (i + 1) = nI 97 then _ else Sum.inl (i + 1)) else _) = _
              rw [if_pos hh, if_neg ha]]
          unfold clF; rw [this]
        have m2 := RM 2 false (.inr ⟨rfl, rfl, he⟩)
        rw [e2, ← e1] at m2
        exact ⟨clF n t 1 i true oE, V28c n act t hn ht oE hE i 1 true (.inl ⟨rfl, rfl⟩) hi hh ⟨fun h => absurd h (by decide), fun h => absurd h ha⟩, m2, GCL 1 true (by decide)⟩
  · refine ⟨woF n t i, V28w n t hn ht i hi hh, ?_, ?_⟩
    · intro D hD σ ms hms h h9
      obtain ⟨d, rfl⟩ : ∃ d, D = d + 4 := ⟨D - 4, by omega⟩
      have e108 := V108 (ro := ro) (d := d + 3) n t hn σ h.1 i (by omega) h.2.2.1
      by_cases hw : pkc n t i = nI 119
      · obtain ⟨σ', e118, o⟩ := M118 (ro := ro) (d := d) n act t hn hact ht i hi σ ms hms h
        refine ⟨σ', ?_, o⟩
        simp (disch := first | assumption | omega | exact zb_fit | exact hbf .. | (simp (disch := omega) only [up_no, up_nk, up_at, u_cp_no] <;> (first | assumption | omega)) | (simp only [hkF] <;> omega) | decide) only [E120, S120, e108, hw, e118, hkF, z_add, z_mul, up_at, up_no, up_nk, u_cp_no, ma_bd, ↓reduceIte, if_true, if_false, Option.toList, List.nil_append, List.cons_append]
      · have f1 : ma_fitI .boolean (nI 1) = true := by decide
        have e0 : woF n t i = .inl i := by
          have : wnF n t 0 i = .inl i := by
            unfold wnF
            rw [show spF n t (ma_chs 0) (ma_chs 0).length 0 i = .inl i by
              show (if pkc n t i = nI 119 then _ else Sum.inl i) = _
              rw [if_neg hw]]
          unfold woF; rw [this]
        rw [e0]
        refine ⟨ma_up σ 90 8 (nI 1), ?_, MC_err (MO_err h)⟩
        simp (disch := first | assumption | omega | exact zb_fit | exact hbf .. | (simp (disch := omega) only [up_no, up_nk, up_at, u_cp_no] <;> (first | assumption | omega)) | (simp only [hkF] <;> omega) | decide) only [E120, S120, e108, hw, hh, f1, hkF, z_add, z_mul, up_at, up_no, up_nk, u_cp_no, ma_bd, ↓reduceIte, if_true, if_false, Option.toList, List.nil_append, List.cons_append]
    · unfold woF
      cases hwn : wnF n t 0 i with
      | inl f => exact wnF_le (by decide) hi hwn
      | inr p =>
        obtain ⟨i2, v⟩ := p
        obtain ⟨v1, v2, v3⟩ := wnF_lt (by decide) hi hwn
        exact ⟨by omega, v3, v1⟩
