/-! The calls firm, alikes. -/
theorem vD_u46 {S : Nat → Int32} {p : Nat} {v : Int32} {q j : Nat} (hp : p < 6) (hq : q < 6) : vD (upS S (46 + p) v) q j = if q = p ∧ j = 2 then v else vD S q j := by
  unfold vD
  rw [upS_ne (show ¬ 40 + q = 46 + p by omega), upS_ne (show ¬ 3 + q = 46 + p by omega), upS_ne (show ¬ 9 + q = 46 + p by omega), upS_ne (show ¬ 15 + q = 46 + p by omega), upS_ne (show ¬ 21 + q = 46 + p by omega), upS_ne (show ¬ 27 + q = 46 + p by omega)]
  by_cases hqp : q = p
  · subst hqp
    rw [upS_at]
    by_cases h2 : j = 2
    · subst h2; simp
    · simp [h2]
  · rw [upS_ne (show ¬ 46 + q = 46 + p by omega)]
    simp [hqp]
theorem vD_u15 {S : Nat → Int32} {p : Nat} {v : Int32} {q j : Nat} (hp : p < 6) (hq : q < 6) : vD (upS S (15 + p) v) q j = if q = p ∧ j = 5 then v else vD S q j := by
  unfold vD
  rw [upS_ne (show ¬ 40 + q = 15 + p by omega), upS_ne (show ¬ 46 + q = 15 + p by omega), upS_ne (show ¬ 3 + q = 15 + p by omega), upS_ne (show ¬ 9 + q = 15 + p by omega), upS_ne (show ¬ 21 + q = 15 + p by omega), upS_ne (show ¬ 27 + q = 15 + p by omega)]
  by_cases hqp : q = p
  · subst hqp
    rw [upS_at]
    by_cases h2 : j = 5
    · subst h2; simp
    · simp [h2]
  · rw [upS_ne (show ¬ 15 + q = 15 + p by omega)]
    simp [hqp]
theorem C74 {ro : ma_RO} {d : Nat} (σ : ma_H) (hG : G σ) (y x : Int32) : ∃ r σ1 σ2, ma_ev ro (d + 8) 74 [.ref 0, .int y, .int x] SH σ = some (some (.int r), SH, σ1) ∧ ma_ev ro (d + 8) 154 [.ref 90, .int y, .int x] SH σ1 = some (some (.int r), SH, σ2) ∧ G σ2 := by
  obtain ⟨nd, cs, wo, hg⟩ := hG.1
  obtain ⟨h1, h2, h3, h4, h5, ⟨mm, h6, h6'⟩, h7, h8, h9, h10, h11, h12, h13, h14, h15, h16, h17, h18, ⟨sn, n1, n2, -⟩, h20, h21⟩ := GS_open hg
  have kw := hkWh_1.2.1
  have w1 := h15.1
  rcases Or.symm (dcases y nd (by omega)) with hy | ⟨p, hp, rfl⟩
  · have e50 := V50n (ro := ro) (d := d + 7) σ 2 nd y kw w1 hy
    have e103 := V103n (ro := ro) (d := d + 6) σ y nd h1 h2 hy
    exact ⟨_, σ, σ, by simp (disch := first | assumption | omega | exact zb_fit | exact hbf .. | (simp (disch := omega) only [up_no, up_nk, up_at, u_cp_no] <;> (first | assumption | omega)) | (simp only [hkF] <;> omega) | decide) only [E74, S74, e50, hkF, z_add, z_mul, up_at, up_no, up_nk, u_cp_no, ma_bd, ↓reduceIte, if_true, if_false, Option.toList, List.nil_append, List.cons_append]; rfl, by simp (disch := first | assumption | omega | exact zb_fit | exact hbf .. | (simp (disch := omega) only [up_no, up_nk, up_at, u_cp_no] <;> (first | assumption | omega)) | (simp only [hkF] <;> omega) | decide) only [E154, S154, e103, z_eq, Nat.reduceEqDiff, hkF, z_add, z_mul, up_at, up_no, up_nk, u_cp_no, ma_bd, ↓reduceIte, if_true, if_false, Option.toList, List.nil_append, List.cons_append], hG⟩
  have e50 := V50 (ro := ro) (d := d + 7) σ 2 p nd kw w1 h1 hp
  have kd := kw.2.2.2 p (by omega)
  have kd1 := kd.1
  have e103 := fun s h => V103p (ro := ro) (d := d + 6) s p nd h1 h hp
  by_cases h : x < nI 0 ∨ nI 1 < x
  · have e88 := V88t (ro := ro) (d := d + 7) σ h
    have e102 := V102f (ro := ro) (d := d + 7) σ h
    have e103 := e103 σ h2
    exact ⟨_, σ, σ, by simp (disch := first | assumption | omega | exact zb_fit | exact hbf .. | (simp (disch := omega) only [up_no, up_nk, up_at, u_cp_no] <;> (first | assumption | omega)) | (simp only [hkF] <;> omega) | decide) only [E74, S74, e50, e88, z_eq, Nat.reduceEqDiff, hkF, z_add, z_mul, up_at, up_no, up_nk, u_cp_no, ma_bd, ↓reduceIte, if_true, if_false, Option.toList, List.nil_append, List.cons_append]; rfl, by simp (disch := first | assumption | omega | exact zb_fit | exact hbf .. | (simp (disch := omega) only [up_no, up_nk, up_at, u_cp_no] <;> (first | assumption | omega)) | (simp only [hkF] <;> omega) | decide) only [E154, S154, e103, e102, z_eq, Nat.reduceEqDiff, hkF, z_add, z_mul, up_at, up_no, up_nk, u_cp_no, ma_bd, ↓reduceIte, if_true, if_false, Option.toList, List.nil_append, List.cons_append], hG⟩
  have e88 := V88f (ro := ro) (d := d + 7) σ h
  have d5 : σ (1 + 1 + 1 + 1 + 2 * p) 5 = σ 91 (15 + p) := (h15.2.2.2.2 p hp).1 5 (by decide)
  have al : Rg (σ 91 (15 + p)) 99 := (h5 p hp).2.2.1
  have w2 : σ 2 2 = σ 91 1 := h15.2.1
  have hbf : ∀ (x0 x1 x2 x4 x5 x6 : Option Value) (r : Nat), ma_bef [x0, x1, x2, some (.ref r), x4, x5, x6] 4 = false := fun _ _ _ _ _ _ _ => rfl
  have H : ∀ m, m ≤ 10 → ∀ (s : ma_H) (a : Int32 × Int32), (∀ o, ¬ o = 84 → ¬ o = 85 → s o = σ o) → ∃ σ', ma_rn ro (d + 8) 74 (37, [some (.ref 0), some (.int (nI p)), some (.int x), some (.ref (2 + 1 + 1 + 2 * p)), some (.int a.1), some (.int a.2), some (.int (dn m))], [], SH, s) = some (some (.int (if x = nI 0 then (ftF (fun v => alF (seenX cs (σ 91) mm (σ 91 1) (nI p) (nI v) (σ 91 (15 + p))) 0 sn) m a).1 else (ftF (fun v => alF (seenX cs (σ 91) mm (σ 91 1) (nI p) (nI v) (σ 91 (15 + p))) 0 sn) m a).2)), SH, σ') ∧ ∀ o, ¬ o = 84 → ¬ o = 85 → σ' o = σ o := by
    intro m
    induction m with
    | zero =>
      intro _ s a r
      refine ⟨s, ?_, r⟩
      rw [Sh74_37]
      by_cases hx : x = nI 0
      · simp (disch := first | assumption | omega | exact zb_fit | exact hbf .. | (simp (disch := omega) only [up_no, up_nk, up_at, u_cp_no] <;> (first | assumption | omega)) | (simp only [hkF] <;> omega) | decide) only [S74, dn, m1_neg, hx, ftF, hkF, z_add, z_mul, up_at, up_no, up_nk, u_cp_no, ma_bd, ↓reduceIte, if_true, if_false, Option.toList, List.nil_append, List.cons_append]
      · simp (disch := first | assumption | omega | exact zb_fit | exact hbf .. | (simp (disch := omega) only [up_no, up_nk, up_at, u_cp_no] <;> (first | assumption | omega)) | (simp only [hkF] <;> omega) | decide) only [S74, dn, m1_neg, hx, ftF, hkF, z_add, z_mul, up_at, up_no, up_nk, u_cp_no, ma_bd, ↓reduceIte, if_true, if_false, Option.toList, List.nil_append, List.cons_append]
    | succ m ih =>
      intro hm1 s a r
      have e91 : s 91 = σ 91 := r 91 (by decide) (by decide)
      obtain ⟨s1, e94, r1⟩ := V94 (ro := ro) (d := d + 1) s nd cs wo (by rw [e91]; exact GS_cell (fun o ho => r o (by omega) (by omega)) hg) sn mm (by rw [e91]; exact n2) n1 (by rw [e91]; exact h6') h6 (σ 91 1) (nI p) (nI m) (σ 91 (15 + p)) (.inl al)
      rw [e91] at e94
      have r1' : ∀ o, ¬ o = 84 → ¬ o = 85 → s1 o = σ o := fun o o1 o2 => (r1 o o1 o2).trans (r o o1 o2)
      have y5 : s (2 + 1 + 1 + 2 * p) 5 = σ 91 (15 + p) := by rw [r _ (by omega) (by omega)]; exact d5
      have y2 : s 2 2 = σ 91 1 := by rw [r 2 (by decide) (by decide)]; exact w2
      by_cases hb : alF (seenX cs (σ 91) mm (σ 91 1) (nI p) (nI m) (σ 91 (15 + p))) 0 sn = true
      · obtain ⟨s2, e2, r2⟩ := ih (by omega) s1 (a.1 + nI 1, nI m) r1'
        refine ⟨s2, ?_, r2⟩
        rw [show ftF (fun v => alF (seenX cs (σ 91) mm (σ 91 1) (nI p) (nI v) (σ 91 (15 + p))) 0 sn) (m + 1) a = ftF (fun v => alF (seenX cs (σ 91) mm (σ 91 1) (nI p) (nI v) (σ 91 (15 + p))) 0 sn) m (a.1 + nI 1, nI m) from congrArg (ftF _ m) (if_pos hb), ← e2, Sh74_37]
        simp (disch := first | assumption | omega | exact zb_fit | exact hbf .. | (simp (disch := omega) only [up_no, up_nk, up_at, u_cp_no] <;> (first | assumption | omega)) | (simp only [hkF] <;> omega) | decide) only [S74, dn, z_lt, Nat.not_lt_zero, y5, y2, e94, zb_t hb, z_eq, Nat.reduceEqDiff, dn_dec, hkF, z_add, z_mul, up_at, up_no, up_nk, u_cp_no, ma_bd, ↓reduceIte, if_true, if_false, Option.toList, List.nil_append, List.cons_append]
      · obtain ⟨s2, e2, r2⟩ := ih (by omega) s1 a r1'
        refine ⟨s2, ?_, r2⟩
        rw [show ftF (fun v => alF (seenX cs (σ 91) mm (σ 91 1) (nI p) (nI v) (σ 91 (15 + p))) 0 sn) (m + 1) a = ftF (fun v => alF (seenX cs (σ 91) mm (σ 91 1) (nI p) (nI v) (σ 91 (15 + p))) 0 sn) m a from congrArg (ftF _ m) (if_neg hb), ← e2, Sh74_37]
        simp (disch := first | assumption | omega | exact zb_fit | exact hbf .. | (simp (disch := omega) only [up_no, up_nk, up_at, u_cp_no] <;> (first | assumption | omega)) | (simp only [hkF] <;> omega) | decide) only [S74, dn, z_lt, Nat.not_lt_zero, y5, y2, e94, zb_f hb, z_eq, Nat.reduceEqDiff, dn_dec, hkF, z_add, z_mul, up_at, up_no, up_nk, u_cp_no, ma_bd, ↓reduceIte, if_true, if_false, Option.toList, List.nil_append, List.cons_append]
  obtain ⟨s1, e1, r1⟩ := H 10 (by decide) σ (nI 0, -5) (fun _ _ _ => rfl)
  have e91 : s1 91 = σ 91 := r1 91 (by decide) (by decide)
  have e102 := V102t (ro := ro) (d := d + 7) s1 h
  have e103 := e103 s1 (by rw [e91]; exact h2)
  obtain ⟨s2, e152, q2, r2⟩ := V152 (ro := ro) (d := d + 1) s1 nd cs wo (by rw [e91]; exact GS_cell (fun o ho => r1 o (by omega) (by omega)) hg) sn mm (by rw [e91]; exact n2) n1 (by rw [e91]; exact h6') h6 (46 + p) 9 (by decide) x (by omega)
  rw [e91] at e152 q2
  have hgg : ∀ i, i < 10 → (fun v => alF (seenX cs (σ 91) mm (σ 91 1) (nI p) (nI v) (σ 91 (15 + p))) 0 sn) i = (fun v => alF (seenM cs (upS (σ 91) (46 + p) (nI v)) mm) 0 sn) i := by
    intro i _
    refine alF_congr sn 0 (fun k _ hk => ?_)
    refine seen_eq cs (σ 91) (upS (σ 91) (46 + p) (nI i)) nd sn mm h1 (σ 91 1) (nI p) (nI i) (σ 91 (15 + p)) (upS_ne (by omega)) (fun k hk => upS_ne (by omega)) (fun q j hq hj => ?_) h11 n2 n1 k (by omega)
    rw [vD_u46 (show p < 6 by omega) (by omega)]
    unfold modD
    by_cases hqp : q = p
    · subst hqp
      by_cases j2 : j = 2
      · subst j2; simp
      · by_cases j5 : j = 5
        · subst j5; simp [vD]
        · simp [j2, j5]
    · have : ¬ nI q = nI p := by rw [z_eq (by omega) (by omega)]; exact hqp
      rw [if_neg (fun h => this h.1), if_neg (fun h => this h.1), if_neg (fun h => hqp h.1)]
  rw [ftF_congr 10 (nI 0, -5) hgg] at e1
  have E1 : ma_ev ro (d + 8) 74 [.ref 0, .int (nI p), .int x] SH σ = ma_rn ro (d + 8) 74 (37, [some (.ref 0), some (.int (nI p)), some (.int x), some (.ref (2 + 1 + 1 + 2 * p)), some (.int (nI 0)), some (.int (-5)), some (.int (dn 10))], [], SH, σ) := by
    simp (disch := first | assumption | omega | exact zb_fit | exact hbf .. | (simp (disch := omega) only [up_no, up_nk, up_at, u_cp_no] <;> (first | assumption | omega)) | (simp only [hkF] <;> omega) | decide) only [E74, S74, e50, e88, z_eq, Nat.reduceEqDiff, dn, hkF, z_add, z_mul, up_at, up_no, up_nk, u_cp_no, ma_bd, ↓reduceIte, if_true, if_false, Option.toList, List.nil_append, List.cons_append]
  refine ⟨_, s1, s2, E1.trans e1, ?_, ?_⟩
  · simp (disch := first | assumption | omega | exact zb_fit | exact hbf .. | (simp (disch := omega) only [up_no, up_nk, up_at, u_cp_no] <;> (first | assumption | omega)) | (simp only [hkF] <;> omega) | decide) only [E154, S154, e103, e102, e152, z_eq, Nat.reduceEqDiff, hkF, z_add, z_mul, up_at, up_no, up_nk, u_cp_no, ma_bd, ↓reduceIte, if_true, if_false, Option.toList, List.nil_append, List.cons_append]
  · exact G_same hG (fun o ho => by
      by_cases h91 : o = 91
      · rw [h91]; exact q2
      · rw [r2 o h91 (by omega) (by omega) (by omega)]; exact r1 o (by omega) (by omega)) (by rw [r2 90 (by decide) (by decide) (by decide) (by decide), r1 90 (by decide) (by decide)]) (by rw [r2 90 (by decide) (by decide) (by decide) (by decide), r1 90 (by decide) (by decide)])
