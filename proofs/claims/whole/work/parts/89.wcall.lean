theorem RD (ro : ma_RO) (n act : Nat) (t : Nat → Nat) (hn : n ≤ 100) (hact : act < 5) (ht : ∀ i, i < n → t i ≤ 127) : ∃ o : RO,
    (∀ D, 24 ≤ D → ∀ (σ : ma_H), XT n t σ → ∃ σ', ma_ev ro D 27 [.ref 69] SH σ = some (some (.int (xrv o)), SH, σ') ∧ XR n t σ σ' o) ∧
    (∀ D, 25 ≤ D → ∀ (σ : ma_H), MS n t act σ 0 0 → σ 91 (223 + act) = nI 2 → σ 90 9 = nI 0 → ∃ σ1 σ' v, ma_ev ro (D - 1) 120 [.ref 90] SH σ = some (none, SH, σ1) ∧ ma_rn ro D 121 (93, [some (.ref 90), some (.int (nI 1))], [], SH, σ1) = ma_rn ro D 121 (135, [some (.ref 90), v], [], SH, σ') ∧ MR n act σ σ' o) ∧ GR n o := by
  obtain ⟨oc, cx, cm, gc⟩ := CL ro n act t hn hact ht 0 (Nat.zero_le _)
  have XN : ∀ D, 24 ≤ D → ∀ (σ : ma_H), XT n t σ → ∃ σ1 σ2, XH n t σ σ1 0 [] (nI 2) ∧ ma_ev ro D 27 [.ref 69] SH σ = ma_rn ro D 27 (29, [some (.ref 69), some (.int (nI 1))], [], SH, σ2) ∧ XC 0 0 σ1 σ2 oc := by
    intro D hD σ h
    obtain ⟨d, rfl⟩ : ∃ d, D = d + 1 := ⟨D - 1, by omega⟩
    have e17 : ma_ev ro d 17 [.ref 65] SH σ = some (none, SH, ma_up (ma_up (ma_up σ 65 0 (nI 2)) 65 3 (nI 0)) 65 5 (nI 0)) := by
      simp (disch := first | assumption | omega | exact zb_fit | exact hbf .. | (simp (disch := omega) only [up_no, up_nk, up_at, u_cp_no] <;> (first | assumption | omega)) | (simp only [hkF] <;> omega) | decide) only [E17, S17, hkF, z_add, z_mul, up_at, up_no, up_nk, u_cp_no, ma_bd, ↓reduceIte, if_true, if_false, Option.toList, List.nil_append, List.cons_append]
    generalize hs : ma_up (ma_up (ma_up (ma_up (ma_up σ 65 0 (nI 2)) 65 3 (nI 0)) 65 5 (nI 0)) 69 2 (nI 0)) 69 3 (-1) = s
    have x1 : XH n t σ s 0 [] (nI 2) := by
      refine ⟨⟨XT_c (by rw [← hs, up_no (by decide), up_no (by decide), up_no (by decide), up_no (by decide), up_no (by decide)]) (by rw [← hs, up_no (by decide), up_no (by decide), up_no (by decide), up_no (by decide), up_no (by decide)]) h, by rw [← hs]; simp (disch := first | assumption | omega | exact zb_fit | exact hbf .. | (simp (disch := omega) only [up_no, up_nk, up_at, u_cp_no] <;> (first | assumption | omega)) | (simp only [hkF] <;> omega) | decide) only [Nat.reduceEqDiff, hkF, z_add, z_mul, up_at, up_no, up_nk, u_cp_no, ma_bd, ↓reduceIte, if_true, if_false, Option.toList, List.nil_append, List.cons_append], by rw [← hs]; exact up_at _ _ _ _, by rw [← hs]; simp (disch := first | assumption | omega | exact zb_fit | exact hbf .. | (simp (disch := omega) only [up_no, up_nk, up_at, u_cp_no] <;> (first | assumption | omega)) | (simp only [hkF] <;> omega) | decide) only [Nat.reduceEqDiff, hkF, z_add, z_mul, up_at, up_no, up_nk, u_cp_no, ma_bd, ↓reduceIte, if_true, if_false, Option.toList, List.nil_append, List.cons_append]; rfl⟩, by rw [← hs]; simp (disch := first | assumption | omega | exact zb_fit | exact hbf .. | (simp (disch := omega) only [up_no, up_nk, up_at, u_cp_no] <;> (first | assumption | omega)) | (simp only [hkF] <;> omega) | decide) only [Nat.reduceEqDiff, hkF, z_add, z_mul, up_at, up_no, up_nk, u_cp_no, ma_bd, ↓reduceIte, if_true, if_false, Option.toList, List.nil_append, List.cons_append]; rfl, by rw [← hs]; simp (disch := first | assumption | omega | exact zb_fit | exact hbf .. | (simp (disch := omega) only [up_no, up_nk, up_at, u_cp_no] <;> (first | assumption | omega)) | (simp only [hkF] <;> omega) | decide) only [Nat.reduceEqDiff, hkF, z_add, z_mul, up_at, up_no, up_nk, u_cp_no, ma_bd, ↓reduceIte, if_true, if_false, Option.toList, List.nil_append, List.cons_append], trivial, fun o ho => by rw [← hs, up_no (by omega), up_no (by omega), up_no (by omega), up_no (by omega), up_no (by omega)]⟩
    obtain ⟨σ2, e28, xc⟩ := cx d (by omega) s 0 0 (Nat.le_refl _) (by decide) x1.1 x1.2.1
    refine ⟨s, σ2, x1, ?_, xc⟩
    simp (disch := first | assumption | omega | exact zb_fit | exact hbf .. | (simp (disch := omega) only [up_no, up_nk, up_at, u_cp_no] <;> (first | assumption | omega)) | (simp only [hkF] <;> omega) | decide) only [E27, S27, Sh27_19, e17, hs, z_lt, Nat.reduceLT, e28, hkF, z_add, z_mul, up_at, up_no, up_nk, u_cp_no, ma_bd, ↓reduceIte, if_true, if_false, Option.toList, List.nil_append, List.cons_append]
  have MN : ∀ D, 25 ≤ D → ∀ (σ : ma_H), MS n t act σ 0 0 → σ 91 (223 + act) = nI 2 → σ 90 9 = nI 0 → ∃ σ2, MH n t act σ σ 0 [] (nI 2) ∧ ma_ev ro (D - 1) 120 [.ref 90] SH σ = some (none, SH, σ2) ∧ MC act 0 σ σ2 oc := by
    intro D hD σ h h2 h9
    have x1 : MH n t act σ σ 0 [] (nI 2) := ⟨h, h2, trivial, fun _ _ _ => rfl, fun _ _ _ _ => rfl, fun _ _ _ => rfl⟩
    obtain ⟨σ2, e120, mc⟩ := cm (D - 1) (by omega) σ 0 (Nat.le_refl _) h h9
    exact ⟨σ2, x1, e120, mc⟩
  cases oc with
  | inl f =>
    have hf : f ≤ n := gc
    refine ⟨.inl f, ?_, ?_, hf⟩
    · intro D hD σ h
      obtain ⟨σ1, σ2, x1, e, xc⟩ := XN D hD σ h
      have hf3 := xc.1
      refine ⟨σ2, ?_, fun o ho => (xc.2 o ho).trans (x1.2.2.2.2 o ho)⟩
      rw [e]
      simp (disch := first | assumption | omega | exact zb_fit | exact hbf .. | (simp (disch := omega) only [up_no, up_nk, up_at, u_cp_no] <;> (first | assumption | omega)) | (simp only [hkF] <;> omega) | decide) only [S27, hf3, z_lt, Nat.not_lt_zero, hkF, z_add, z_mul, up_at, up_no, up_nk, u_cp_no, ma_bd, ↓reduceIte, if_true, if_false, Option.toList, List.nil_append, List.cons_append]
      rfl
    · intro D hD σ h h2 h9
      obtain ⟨σ2, x1, e, mc⟩ := MN D hD σ h h2 h9
      have hw2 := mc.2.1
      refine ⟨σ2, σ2, some (.int (nI 1)), e, ?_, mc.1, ⟨mc.2.2.1, mc.2.2.2.1, mc.2.2.2.2⟩, .inl hw2⟩
      rw [Sh121_93]
      simp (disch := first | assumption | omega | exact zb_fit | exact hbf .. | (simp (disch := omega) only [up_no, up_nk, up_at, u_cp_no] <;> (first | assumption | omega)) | (simp only [hkF] <;> omega) | decide) only [S121, hw2, z_eq, Nat.reduceEqDiff, hkF, z_add, z_mul, up_at, up_no, up_nk, u_cp_no, ma_bd, ↓reduceIte, if_true, if_false, Option.toList, List.nil_append, List.cons_append]
  | inr p =>
    have B : (nxC [] (nI 2) p).1 ≤ n ∧ lnM (nxC [] (nI 2) p).2.1 ≤ (nxC [] (nI 2) p).1 ∧ (nxC [] (nI 2) p).2.1.length ≤ 1 ∧ (∀ l ∈ (nxC [] (nI 2) p).2.1, clOk l) ∧ (∀ l, p.2 = .inr l → lnM ([] : List Cl) + l.2.2.length + 1 ≤ 100) := by
      obtain ⟨i', c⟩ := p
      cases c with
      | inl w =>
        obtain ⟨g1, g2, g3⟩ := gc
        exact ⟨g2, Nat.zero_le _, Nat.zero_le _, fun l h => (nomatch h), fun l h => (by cases h)⟩
      | inr l =>
        obtain ⟨g1, g2, g3, g4⟩ := gc
        refine ⟨g2, by show l.2.2.length + 1 + 0 ≤ i'; omega, Nat.le_refl _, fun x hx => ?_, fun l' h => (by cases h; show 0 + l.2.2.length + 1 ≤ 100; omega)⟩
        rw [show (nxC [] (nI 2) (i', .inr l)).2.1 = [l] from rfl, List.mem_singleton] at hx
        subst hx; exact g4
    obtain ⟨B1, B2, B3, B4, B5⟩ := B
    obtain ⟨o, rx, rm, gr⟩ := RLL ro n act t hn hact ht 9 1 rfl (Nat.le_refl _) _ _ (nxC [] (nI 2) p).2.2 B1 B2 B3 B4
    refine ⟨o, ?_, ?_, gr⟩
    · intro D hD σ h
      obtain ⟨σ1, σ2, x1, e, xc⟩ := XN D hD σ h
      rw [e]
      exact rx D (by omega) σ σ2 (XH_next p x1 xc)
    · intro D hD σ h h2 h9
      obtain ⟨σ2, x1, e, mc⟩ := MN D hD σ h h2 h9
      have m2 := MH_next (i := 0) hn hact (by decide) (Nat.le_refl _) p B5 x1 mc
      obtain ⟨σ', v, e', mr⟩ := rm D hD σ σ2 m2 (by rw [MF_9 m2.2.2.2]; exact h9)
      exact ⟨σ2, σ', v, e, e', mr⟩
theorem HMr_reg {S S' : Nat → Int32} {act : Nat} {cs : List Cl} {wo : Int32} (hO : HOk cs) (ha : S 39 = -1 ∨ ∃ a, a < act ∧ S 39 = nI a) (hact : act < 5) (h39 : S' 39 = S 39) (h : ∀ j, 223 ≤ j → ¬ j = 223 + act → ¬ j = 228 + act → ¬ (233 + 140 * act ≤ j ∧ j < 373 + 140 * act) → S' j = S j) (hm : HMr S cs wo) : HMr S' cs wo := by
  rcases hm with ⟨g1, g2, g3⟩ | ⟨a, g1, g2, g3, g4, g5⟩
  · exact .inl ⟨by rw [h39]; exact g1, g2, g3⟩
  · have haa : a < act := by
      rcases ha with h1 | ⟨a', h1, h2⟩
      · rw [h1] at g2; exact absurd g2.symm (nI_m1 (by omega))
      · rw [h2, z_eq (by omega) (by omega)] at g2; omega
    have hl : lnM cs ≤ 110 := by have := lnM_le (cs := cs); have := hO.1; have := hO.2.1; omega
    refine .inr ⟨a, g1, by rw [h39]; exact g2, by rw [h _ (by omega) (by omega) (by omega) (by omega)]; exact g3, by rw [h _ (by omega) (by omega) (by omega) (by omega)]; exact g4, ?_⟩
    have : ∀ (cs' : List Cl) f, 233 + 140 * a ≤ f → f + lnM cs' ≤ 233 + 140 * a + 110 → hM S f cs' → hM S' f cs' := by
      intro cs'
      induction cs' with
      | nil => intro f _ _ _; trivial
      | cons x r ih =>
        intro f h0 hf hx
        obtain ⟨q1, q2, q3⟩ := hx
        have hl : lnM (x :: r) = x.2.2.length + 1 + lnM r := rfl
        exact ⟨fun k hk => by rw [h _ (by omega) (by omega) (by omega) (by omega)]; exact q1 k hk, by rw [h _ (by omega) (by omega) (by omega) (by omega)]; exact q2, ih _ (by omega) (by omega) q3⟩
    exact this cs _ (Nat.le_refl _) (by omega) g5
theorem C59 {ro : ma_RO} {d : Nat} (σ : ma_H) (hG : G σ) : ∃ r σ1 σ2, ma_ev ro (d + 30) 59 [.ref 0] SH σ = some (some (.int r), SH, σ1) ∧ ma_ev ro (d + 30) 121 [.ref 90] SH σ1 = some (some (.int r), SH, σ2) ∧ G σ2 := by
  obtain ⟨nd, cs, wo, hg⟩ := hG.1
  obtain ⟨h1, h2, h3, h4, h5, h6, h7, h8, h9, ⟨act, a1, a2, a3⟩, h11, h12, h13, h14, h15, h16, h17, ⟨n, n1, n2, n3, n4⟩, h19, h20, h21⟩ := GS_open hg
  have hw : σ 1 2 = nI act := h17.trans a2
  by_cases hact5 : act = 5
  · subst hact5
    exact ⟨-4, σ, σ, by simp (disch := first | assumption | omega | exact zb_fit | exact hbf .. | (simp (disch := omega) only [up_no, up_nk, up_at, u_cp_no] <;> (first | assumption | omega)) | (simp only [hkF] <;> omega) | decide) only [E59, S59, hw, z_lt, Nat.lt_irrefl, hkF, z_add, z_mul, up_at, up_no, up_nk, u_cp_no, ma_bd, ↓reduceIte, if_true, if_false, Option.toList, List.nil_append, List.cons_append], by simp (disch := first | assumption | omega | exact zb_fit | exact hbf .. | (simp (disch := omega) only [up_no, up_nk, up_at, u_cp_no] <;> (first | assumption | omega)) | (simp only [hkF] <;> omega) | decide) only [E121, S121, a2, z_eq, Nat.reduceEqDiff, hkF, z_add, z_mul, up_at, up_no, up_nk, u_cp_no, ma_bd, ↓reduceIte, if_true, if_false, Option.toList, List.nil_append, List.cons_append], hG⟩
  have hact : act < 5 := by omega
  generalize ht : (fun i => clN (σ 91 (123 + i))) = t
  have htv : ∀ i, i < n → σ 91 (123 + i) = nI (t i) ∧ t i ≤ 127 := by
    intro i hi
    obtain ⟨v, v1, v2⟩ := h14 n n1 n2 i hi
    rw [← ht]
    dsimp only
    rw [v2, clN_nI (by omega)]
    exact ⟨rfl, v1⟩
  obtain ⟨o, rx, rm, gr⟩ := RD ro n act t n1 hact (fun i hi => (htv i hi).2)
  obtain ⟨s1, e27, xr⟩ := rx (d + 29) (by omega) σ ⟨n3, fun i hi => (n4 i hi).trans (htv i hi).1⟩
  have xo : ∀ o', (o' < 65 ∨ 69 < o') → s1 o' = σ o' := by
    cases o with
    | inl f => exact xr
    | inr p => exact xr.2
  -- the class's heap behind the call, before a house is taken
  generalize hs2 : ma_up s1 1 4 (nI 0) = s2
  have s2o : ∀ o', (o' < 65 ∨ 69 < o') → ¬ o' = 1 → s2 o' = σ o' := fun o' ho h1' => by rw [← hs2, up_no h1']; exact xo o' ho
  have s2_1 : ∀ j, ¬ j = 4 → s2 1 j = σ 1 j := fun j hj => by rw [← hs2, up_nk hj, xo 1 (by omega)]
  have s2_14 : s2 1 4 = nI 0 := by rw [← hs2, up_at]
  -- the reference from a heap s that shows the row of σ
  have REF : ∀ s : ma_H, (∀ o', 69 < o' → s o' = σ o') → ∃ s' : ma_H, MR n act (ma_up (ma_up (ma_up (ma_up (ma_up (ma_up (ma_up (ma_up s 90 5 (nI act)) 90 7 (nI n)) 91 38 (nI 0)) 91 (223 + act) (nI 2)) 91 (228 + act) (nI 0)) 90 6 (nI 0)) 90 8 (nI 0)) 90 9 (nI 0)) s' o ∧ ∃ v, ma_ev ro (d + 30) 121 [.ref 90] SH s = ma_rn ro (d + 30) 121 (135, [some (.ref 90), v], [], SH, s') := by
    intro s hs
    have f0 : ma_fitI .boolean (nI 0) = true := by decide
    have s91 : s 91 = σ 91 := hs 91 (by decide)
    have q34 : s 91 34 = nI act := by rw [s91]; exact a2
    have q38 : s 91 38 = nI n := by rw [s91]; exact n2
    have p1 : 223 + act < 933 := by omega
    have p2 : 228 + act < 933 := by omega
    generalize hs3 : ma_up (ma_up (ma_up (ma_up (ma_up (ma_up (ma_up (ma_up s 90 5 (nI act)) 90 7 (nI n)) 91 38 (nI 0)) 91 (223 + act) (nI 2)) 91 (228 + act) (nI 0)) 90 6 (nI 0)) 90 8 (nI 0)) 90 9 (nI 0) = s3
    have m3 : MS n t act s3 0 0 := by
      refine ⟨⟨by rw [← hs3]; simp (disch := first | assumption | omega | exact zb_fit | exact hbf .. | (simp (disch := omega) only [up_no, up_nk, up_at, u_cp_no] <;> (first | assumption | omega)) | (simp only [hkF] <;> omega) | decide) only [Nat.reduceEqDiff, hkF, z_add, z_mul, up_at, up_no, up_nk, u_cp_no, ma_bd, ↓reduceIte, if_true, if_false, Option.toList, List.nil_append, List.cons_append], fun i hi => ?_⟩, by rw [← hs3]; simp (disch := first | assumption | omega | exact zb_fit | exact hbf .. | (simp (disch := omega) only [up_no, up_nk, up_at, u_cp_no] <;> (first | assumption | omega)) | (simp only [hkF] <;> omega) | decide) only [Nat.reduceEqDiff, hkF, z_add, z_mul, up_at, up_no, up_nk, u_cp_no, ma_bd, ↓reduceIte, if_true, if_false, Option.toList, List.nil_append, List.cons_append], by rw [← hs3]; simp (disch := first | assumption | omega | exact zb_fit | exact hbf .. | (simp (disch := omega) only [up_no, up_nk, up_at, u_cp_no] <;> (first | assumption | omega)) | (simp only [hkF] <;> omega) | decide) only [Nat.reduceEqDiff, hkF, z_add, z_mul, up_at, up_no, up_nk, u_cp_no, ma_bd, ↓reduceIte, if_true, if_false, Option.toList, List.nil_append, List.cons_append], by rw [← hs3]; simp (disch := first | assumption | omega | exact zb_fit | exact hbf .. | (simp (disch := omega) only [up_no, up_nk, up_at, u_cp_no] <;> (first | assumption | omega)) | (simp only [hkF] <;> omega) | decide) only [Nat.reduceEqDiff, hkF, z_add, z_mul, up_at, up_no, up_nk, u_cp_no, ma_bd, ↓reduceIte, if_true, if_false, Option.toList, List.nil_append, List.cons_append], by rw [← hs3]; simp (disch := first | assumption | omega | exact zb_fit | exact hbf .. | (simp (disch := omega) only [up_no, up_nk, up_at, u_cp_no] <;> (first | assumption | omega)) | (simp only [hkF] <;> omega) | decide) only [Nat.reduceEqDiff, hkF, z_add, z_mul, up_at, up_no, up_nk, u_cp_no, ma_bd, ↓reduceIte, if_true, if_false, Option.toList, List.nil_append, List.cons_append]⟩
      rw [← hs3, up_no (by decide), up_no (by decide), up_no (by decide), up_nk (by omega), up_nk (by omega), up_nk (by omega), up_no (by decide), up_no (by decide), s91]
      exact (htv i hi).1
    obtain ⟨t1, t2, v, e120, e93, mr⟩ := rm (d + 30) (by omega) s3 m3 (by rw [← hs3]; simp (disch := first | assumption | omega | exact zb_fit | exact hbf .. | (simp (disch := omega) only [up_no, up_nk, up_at, u_cp_no] <;> (first | assumption | omega)) | (simp only [hkF] <;> omega) | decide) only [Nat.reduceEqDiff, hkF, z_add, z_mul, up_at, up_no, up_nk, u_cp_no, ma_bd, ↓reduceIte, if_true, if_false, Option.toList, List.nil_append, List.cons_append]) (by rw [← hs3]; exact up_at _ _ _ _)
    have e120' : ma_ev ro (d + 29) 120 [.ref 90] SH s3 = some (none, SH, t1) := e120
    refine ⟨t2, mr, v, ?_⟩
    rw [← e93]
    have ha5 : ¬ act = 5 := hact5
    simp (disch := first | assumption | omega | exact zb_fit | exact hbf .. | (simp (disch := omega) only [up_no, up_nk, up_at, u_cp_no] <;> (first | assumption | omega)) | (simp only [hkF] <;> omega) | decide) only [E121, S121, q34, ha5, q38, f0, hs3, e120', z_eq, Nat.reduceEqDiff, hkF, z_add, z_mul, up_at, up_no, up_nk, u_cp_no, ma_bd, ↓reduceIte, if_true, if_false, Option.toList, List.nil_append, List.cons_append]
  have BASE : ∀ (s s3 : ma_H), (∀ o', 69 < o' → s o' = σ o') → s3 = ma_up (ma_up (ma_up (ma_up (ma_up (ma_up (ma_up (ma_up s 90 5 (nI act)) 90 7 (nI n)) 91 38 (nI 0)) 91 (223 + act) (nI 2)) 91 (228 + act) (nI 0)) 90 6 (nI 0)) 90 8 (nI 0)) 90 9 (nI 0) → (∀ o', ¬ o' = 90 → ¬ o' = 91 → s3 o' = s o') ∧ (∀ j, ¬ j = 38 → ¬ j = 223 + act → ¬ j = 228 + act → s3 91 j = σ 91 j) ∧ s3 91 38 = nI 0 ∧ s3 90 4 = σ 90 4 ∧ s3 90 13 = σ 90 13 ∧ s3 90 7 = nI n ∧ s3 90 5 = nI act := by
    intro s s3 hs e
    have s91 : s 91 = σ 91 := hs 91 (by decide)
    have s90 : s 90 = σ 90 := hs 90 (by decide)
    refine ⟨fun o' o1 o2 => by rw [e, up_no o1, up_no o1, up_no o1, up_no o2, up_no o2, up_no o2, up_no o1, up_no o1], fun j j1 j2 j3 => by rw [e, up_no (by decide), up_no (by decide), up_no (by decide), up_nk j3, up_nk j2, up_nk j1, up_no (by decide), up_no (by decide), s91], ?_, ?_, ?_, ?_, ?_⟩
    · rw [e]; simp (disch := first | assumption | omega | exact zb_fit | exact hbf .. | (simp (disch := omega) only [up_no, up_nk, up_at, u_cp_no] <;> (first | assumption | omega)) | (simp only [hkF] <;> omega) | decide) only [Nat.reduceEqDiff, hkF, z_add, z_mul, up_at, up_no, up_nk, u_cp_no, ma_bd, ↓reduceIte, if_true, if_false, Option.toList, List.nil_append, List.cons_append]
    · rw [e]; simp (disch := first | assumption | omega | exact zb_fit | exact hbf .. | (simp (disch := omega) only [up_no, up_nk, up_at, u_cp_no] <;> (first | assumption | omega)) | (simp only [hkF] <;> omega) | decide) only [Nat.reduceEqDiff, hkF, z_add, z_mul, up_at, up_no, up_nk, u_cp_no, ma_bd, ↓reduceIte, if_true, if_false, Option.toList, List.nil_append, List.cons_append]; rw [s90]
    · rw [e]; simp (disch := first | assumption | omega | exact zb_fit | exact hbf .. | (simp (disch := omega) only [up_no, up_nk, up_at, u_cp_no] <;> (first | assumption | omega)) | (simp only [hkF] <;> omega) | decide) only [Nat.reduceEqDiff, hkF, z_add, z_mul, up_at, up_no, up_nk, u_cp_no, ma_bd, ↓reduceIte, if_true, if_false, Option.toList, List.nil_append, List.cons_append]; rw [s90]
    · rw [e]; simp (disch := first | assumption | omega | exact zb_fit | exact hbf .. | (simp (disch := omega) only [up_no, up_nk, up_at, u_cp_no] <;> (first | assumption | omega)) | (simp only [hkF] <;> omega) | decide) only [Nat.reduceEqDiff, hkF, z_add, z_mul, up_at, up_no, up_nk, u_cp_no, ma_bd, ↓reduceIte, if_true, if_false, Option.toList, List.nil_append, List.cons_append]
    · rw [e]; simp (disch := first | assumption | omega | exact zb_fit | exact hbf .. | (simp (disch := omega) only [up_no, up_nk, up_at, u_cp_no] <;> (first | assumption | omega)) | (simp only [hkF] <;> omega) | decide) only [Nat.reduceEqDiff, hkF, z_add, z_mul, up_at, up_no, up_nk, u_cp_no, ma_bd, ↓reduceIte, if_true, if_false, Option.toList, List.nil_append, List.cons_append]
  cases o with
  | inl f =>
    have hf : f ≤ n := gr
    obtain ⟨s', mr, v, e121⟩ := REF s2 (fun o' ho => s2o o' (by omega) (by omega))
    obtain ⟨b1, b2, b3, b4, b5, b7, b55⟩ := BASE s2 _ (fun o' ho => s2o o' (by omega) (by omega)) rfl
    generalize ma_up (ma_up (ma_up (ma_up (ma_up (ma_up (ma_up (ma_up s2 90 5 (nI act)) 90 7 (nI n)) 91 38 (nI 0)) 91 (223 + act) (nI 2)) 91 (228 + act) (nI 0)) 90 6 (nI 0)) 90 8 (nI 0)) 90 9 (nI 0) = s3 at mr b1 b2 b3 b4 b5 b7 b55
    obtain ⟨m6, ⟨mf1, mf2, mf3⟩, mw⟩ := mr
    have m7 : s' 90 7 = nI n := by rw [mf1 7 (by decide) (by decide)]; exact b7
    refine ⟨-10 - nI f, s2, s', ?_, ?_, ?_⟩
    · have hx : xrv (.inl f) = nI f := rfl
      rw [hx] at e27
      have hlt : ¬ 5 ≤ act := by omega
      simp (disch := first | assumption | omega | exact zb_fit | exact hbf .. | (simp (disch := omega) only [up_no, up_nk, up_at, u_cp_no] <;> (first | assumption | omega)) | (simp only [hkF] <;> omega) | decide) only [E59, S59, hw, z_lt, hact, e27, hs2, Nat.not_lt_zero, hkF, z_add, z_mul, up_at, up_no, up_nk, u_cp_no, ma_bd, ↓reduceIte, if_true, if_false, Option.toList, List.nil_append, List.cons_append]
    · rw [e121]
      rcases mw with m8 | ⟨m8, hne⟩
      · simp (disch := first | assumption | omega | exact zb_fit | exact hbf .. | (simp (disch := omega) only [up_no, up_nk, up_at, u_cp_no] <;> (first | assumption | omega)) | (simp only [hkF] <;> omega) | decide) only [S121, m8, m6, z_eq, Nat.reduceEqDiff, hkF, z_add, z_mul, up_at, up_no, up_nk, u_cp_no, ma_bd, ↓reduceIte, if_true, if_false, Option.toList, List.nil_append, List.cons_append]
      · simp (disch := first | assumption | omega | exact zb_fit | exact hbf .. | (simp (disch := omega) only [up_no, up_nk, up_at, u_cp_no] <;> (first | assumption | omega)) | (simp only [hkF] <;> omega) | decide) only [S121, m8, m6, m7, hne, z_eq, Nat.reduceEqDiff, hkF, z_add, z_mul, up_at, up_no, up_nk, u_cp_no, ma_bd, ↓reduceIte, if_true, if_false, Option.toList, List.nil_append, List.cons_append]
    · have cell : ∀ o', ¬ o' = 90 → ¬ o' = 91 → s' o' = s2 o' := fun o' o1 o2 => (mf3 o' o1 o2).trans (b1 o' o1 o2)
      have e : ∀ j, ¬ j = 38 → ¬ j = 223 + act → ¬ j = 228 + act → ¬ (233 + 140 * act ≤ j ∧ j < 373 + 140 * act) → s' 91 j = σ 91 j := fun j j1 j2 j3 j4 => (mf2 j j2 j3 j4).trans (b2 j j1 j2 j3)
      have e38 : s' 91 38 = nI 0 := (mf2 38 (by omega) (by omega) (by omega)).trans b3
      have el : ∀ j, ¬ j = 38 → j < 223 → s' 91 j = σ 91 j := fun j j1 j2 => e j j1 (by omega) (by omega) (by omega)
      have cl : ∀ o', (o' < 65 ∨ 69 < o') → ¬ o' = 1 → ¬ o' = 90 → ¬ o' = 91 → s' o' = σ o' := fun o' o1 o2 o3 o4 => (cell o' o3 o4).trans (s2o o' o1 o2)
      have c1 : ∀ j, ¬ j = 4 → s' 1 j = σ 1 j := fun j hj => by rw [cell 1 (by decide) (by decide)]; exact s2_1 j hj
      have c14 : s' 1 4 = nI 0 := by rw [cell 1 (by decide) (by decide)]; exact s2_14
      refine G_mk hG ⟨nd, cs, wo, GS_mk h1 (by rw [el 33 (by decide) (by decide)]; exact h2) h3 (HMr_reg h3 a3 hact (el 39 (by decide) (by decide)) (fun j j1 j2 j3 j4 => e j (by omega) j2 j3 j4) h4) (IvAc h1 (fun k _ _ => el k (by omega) (by omega)) (fun k _ _ => el k (by omega) (by omega)) h5) (by rw [el 0 (by decide) (by decide)]; exact h6) (by rw [el 1 (by decide) (by decide)]; exact h7) (by rw [el 2 (by decide) (by decide)]; exact h8) (q5c h1 (fun k _ _ => el k (by omega) (by omega)) h9) (q6c (el 34 (by decide) (by decide)) (el 39 (by decide) (by decide)) ⟨act, a1, a2, a3⟩) (q7c (Nat.le_refl _) (el 35 (by decide) (by decide)) (fun k _ _ => el k (by omega) (by omega)) h11) (q8c (Nat.le_refl _) (el 36 (by decide) (by decide)) (fun k _ _ => el k (by omega) (by omega)) h12) (q9c (Nat.le_refl _) (el 37 (by decide) (by decide)) (fun k _ _ => el k (by omega) (by omega)) h13) (fun m hm1 hm2 k hk => ?_) (RWdc h1 (fun o' o1 o2 => cl o' (by omega) (by omega) (by omega) (by omega)) (fun k _ => el k (by omega) (by omega)) (fun k _ _ => el k (by omega) (by omega)) h15) (HXr_congr (fun o' o1 o2 => cl o' (by omega) (by omega) (by omega) (by omega)) h16) (by rw [c1 2 (by decide), el 34 (by decide) (by decide)]; exact h17) ⟨0, by decide, e38, c14, fun k hk => by omega⟩ (t5c (fun o' o1 o2 => cl o' (by omega) (by omega) (by omega) (by omega)) (el 35 (by decide) (by decide)) (fun k _ _ => el k (by omega) (by omega)) h19) (t6c (fun o' o1 o2 => cl o' (by omega) (by omega) (by omega) (by omega)) (el 36 (by decide) (by decide)) (fun k _ _ => el k (by omega) (by omega)) h20) (t7c (fun o' o1 o2 => cl o' (by omega) (by omega) (by omega) (by omega)) (el 37 (by decide) (by decide)) (fun k _ _ => el k (by omega) (by omega)) h21)⟩ (fun o' ho => cl o' (by omega) (by omega) (by omega) (by omega)) (fun p hp => by rw [cl _ (by omega) (by omega) (by omega) (by omega)]; exact hG.2.1 p hp) (by rw [mf1 4 (by decide) (by decide)]; exact b4) (by rw [mf1 13 (by decide) (by decide)]; exact b5)
      rw [e38, z_eq (by decide) (by omega)] at hm2
      omega
  | inr p =>
    obtain ⟨cs', wo'⟩ := p
    obtain ⟨xH, -⟩ := xr
    have hOk : HOk cs' := gr
    obtain ⟨s4, e18, p18, r18⟩ := V18 (ro := ro) (d := d + 28) s2 16 65 hkWh_1.2.2.1 ⟨rfl, rfl, rfl, rfl, rfl, rfl, rfl⟩ (by omega) cs' wo' hOk (HXr_congr (fun o' o1 o2 => by rw [← hs2, up_no (by omega)]) xH)
    generalize hs5 : ma_up s4 1 2 (nI (act + 1)) = s5
    have s5o : ∀ o', (o' < 16 ∨ 19 < o') → (o' < 65 ∨ 69 < o') → ¬ o' = 1 → s5 o' = σ o' := fun o' o1 o2 o3 => by rw [← hs5, up_no o3, r18 o' (by omega)]; exact s2o o' o2 o3
    have s5_1 : ∀ j, ¬ j = 4 → ¬ j = 2 → s5 1 j = σ 1 j := fun j j1 j2 => by rw [← hs5, up_nk j2, r18 1 (by omega)]; exact s2_1 j j1
    have s5_14 : s5 1 4 = nI 0 := by rw [← hs5, up_nk (by decide), r18 1 (by omega)]; exact s2_14
    have s5_12 : s5 1 2 = nI (act + 1) := by rw [← hs5, up_at]
    have s5H : HXr s5 16 cs' wo' := HXr_congr (fun o' o1 o2 => by rw [← hs5, up_no (by omega)]) p18
    obtain ⟨s', mr, v, e121⟩ := REF s5 (fun o' ho => s5o o' (by omega) (by omega) (by omega))
    obtain ⟨b1, b2, b3, b4, b5, b7, b55⟩ := BASE s5 _ (fun o' ho => s5o o' (by omega) (by omega) (by omega)) rfl
    generalize ma_up (ma_up (ma_up (ma_up (ma_up (ma_up (ma_up (ma_up s5 90 5 (nI act)) 90 7 (nI n)) 91 38 (nI 0)) 91 (223 + act) (nI 2)) 91 (228 + act) (nI 0)) 90 6 (nI 0)) 90 8 (nI 0)) 90 9 (nI 0) = s3 at mr b1 b2 b3 b4 b5 b7 b55
    obtain ⟨m6, m8, ⟨mf1, mf2, mf3⟩, mwo, mst, mh⟩ := mr
    have m7 : s' 90 7 = nI n := by rw [mf1 7 (by decide) (by decide)]; exact b7
    have e : ∀ j, ¬ j = 38 → ¬ j = 223 + act → ¬ j = 228 + act → ¬ (233 + 140 * act ≤ j ∧ j < 373 + 140 * act) → s' 91 j = σ 91 j := fun j j1 j2 j3 j4 => (mf2 j j2 j3 j4).trans (b2 j j1 j2 j3)
    have e34 : s' 91 34 = nI act := (e 34 (by decide) (by omega) (by omega) (by omega)).trans a2
    have e38 : s' 91 38 = nI 0 := (mf2 38 (by omega) (by omega) (by omega)).trans b3
    have p39 : hk_len 91 = 933 := rfl
    refine ⟨nI act, s5, ma_up (ma_up s' 91 34 (nI (act + 1))) 91 39 (nI act), ?_, ?_, ?_⟩
    · have hx : xrv (.inr (cs', wo')) = -1 := rfl
      rw [hx] at e27
      have hw2 : s2 1 2 = nI act := by rw [s2_1 2 (by decide)]; exact hw
      have hw4 : s4 1 2 = nI act := by rw [r18 1 (by omega)]; exact hw2
      have hsub : nI (act + 1) - nI 1 = nI act := add_subI act 1
      simp (disch := first | assumption | omega | exact zb_fit | exact hbf .. | (simp (disch := omega) only [up_no, up_nk, up_at, u_cp_no] <;> (first | assumption | omega)) | (simp only [hkF] <;> omega) | decide) only [E59, S59, hw, z_lt, hact, e27, hs2, m1_neg, e18, hw4, hs5, s5_12, hsub, hkF, z_add, z_mul, up_at, up_no, up_nk, u_cp_no, ma_bd, ↓reduceIte, if_true, if_false, Option.toList, List.nil_append, List.cons_append]
    · rw [e121]
      have m5 : s' 90 5 = nI act := by rw [mf1 5 (by decide) (by decide)]; exact b55
      simp (disch := first | assumption | omega | exact zb_fit | exact hbf .. | (simp (disch := omega) only [up_no, up_nk, up_at, u_cp_no] <;> (first | assumption | omega)) | (simp only [hkF] <;> omega) | decide) only [S121, m8, m6, m7, m5, e34, z_eq, Nat.reduceEqDiff, hkF, z_add, z_mul, up_at, up_no, up_nk, u_cp_no, ma_bd, ↓reduceIte, if_true, if_false, Option.toList, List.nil_append, List.cons_append]
    · have cell : ∀ o', ¬ o' = 90 → ¬ o' = 91 → s' o' = s5 o' := fun o' o1 o2 => (mf3 o' o1 o2).trans (b1 o' o1 o2)
      generalize hs6 : ma_up (ma_up s' 91 34 (nI (act + 1))) 91 39 (nI act) = s6
      have c6 : ∀ o', ¬ o' = 91 → s6 o' = s' o' := fun o' o1 => by rw [← hs6, up_no o1, up_no o1]
      have g34 : s6 91 34 = nI (act + 1) := by rw [← hs6]; simp (disch := first | assumption | omega | exact zb_fit | exact hbf .. | (simp (disch := omega) only [up_no, up_nk, up_at, u_cp_no] <;> (first | assumption | omega)) | (simp only [hkF] <;> omega) | decide) only [Nat.reduceEqDiff, hkF, z_add, z_mul, up_at, up_no, up_nk, u_cp_no, ma_bd, ↓reduceIte, if_true, if_false, Option.toList, List.nil_append, List.cons_append]
      have g39 : s6 91 39 = nI act := by rw [← hs6]; exact up_at _ _ _ _
      have ge : ∀ j, ¬ j = 34 → ¬ j = 39 → s6 91 j = s' 91 j := fun j j1 j2 => by rw [← hs6, up_nk j2, up_nk j1]
      have el : ∀ j, ¬ j = 34 → ¬ j = 38 → ¬ j = 39 → j < 223 → s6 91 j = σ 91 j := fun j j1 j2 j3 j4 => (ge j j1 j3).trans (e j j2 (by omega) (by omega) (by omega))
      have g38 : s6 91 38 = nI 0 := (ge 38 (by decide) (by decide)).trans e38
      have cl : ∀ o', (o' < 16 ∨ 19 < o') → (o' < 65 ∨ 69 < o') → ¬ o' = 1 → ¬ o' = 90 → ¬ o' = 91 → s6 o' = σ o' := fun o' o0 o1 o2 o3 o4 => (c6 o' o4).trans ((cell o' o3 o4).trans (s5o o' o0 o1 o2))
      have c1 : ∀ j, ¬ j = 4 → ¬ j = 2 → s6 1 j = σ 1 j := fun j j1 j2 => by rw [c6 1 (by decide), cell 1 (by decide) (by decide)]; exact s5_1 j j1 j2
      have c14 : s6 1 4 = nI 0 := by rw [c6 1 (by decide), cell 1 (by decide) (by decide)]; exact s5_14
      have c12 : s6 1 2 = nI (act + 1) := by rw [c6 1 (by decide), cell 1 (by decide) (by decide)]; exact s5_12
      have hM6 : HMr (s6 91) cs' wo' := by
        refine .inr ⟨act, hact, g39, by rw [ge _ (by omega) (by omega)]; exact mwo.symm, by rw [ge _ (by omega) (by omega)]; exact mst, ?_⟩
        exact hM_c2 (fun j hj => ge j (by omega) (by omega)) cs' _ (by omega) mh
      refine G_mk hG ⟨nd, cs', wo', GS_mk h1 (by rw [el 33 (by decide) (by decide) (by decide) (by decide)]; exact h2) hOk hM6 (IvAc h1 (fun k _ _ => el k (by omega) (by omega) (by omega) (by omega)) (fun k _ _ => el k (by omega) (by omega) (by omega) (by omega)) h5) (by rw [el 0 (by decide) (by decide) (by decide) (by decide)]; exact h6) (by rw [el 1 (by decide) (by decide) (by decide) (by decide)]; exact h7) (by rw [el 2 (by decide) (by decide) (by decide) (by decide)]; exact h8) (q5c h1 (fun k _ _ => el k (by omega) (by omega) (by omega) (by omega)) h9) ⟨act + 1, by omega, g34, .inr ⟨act, by omega, g39⟩⟩ (q7c (Nat.le_refl _) (el 35 (by decide) (by decide) (by decide) (by decide)) (fun k _ _ => el k (by omega) (by omega) (by omega) (by omega)) h11) (q8c (Nat.le_refl _) (el 36 (by decide) (by decide) (by decide) (by decide)) (fun k _ _ => el k (by omega) (by omega) (by omega) (by omega)) h12) (q9c (Nat.le_refl _) (el 37 (by decide) (by decide) (by decide) (by decide)) (fun k _ _ => el k (by omega) (by omega) (by omega) (by omega)) h13) (fun m hm1 hm2 k hk => ?_) (RWdc h1 (fun o' o1 o2 => cl o' (by omega) (by omega) (by omega) (by omega) (by omega)) (fun k _ => el k (by omega) (by omega) (by omega) (by omega)) (fun k _ _ => el k (by omega) (by omega) (by omega) (by omega)) h15) (HXr_congr (fun o' o1 o2 => (c6 o' (by omega)).trans (cell o' (by omega) (by omega))) s5H) (by rw [c12, g34]) ⟨0, by decide, g38, c14, fun k hk => by omega⟩ (t5c (fun o' o1 o2 => cl o' (by omega) (by omega) (by omega) (by omega) (by omega)) (el 35 (by decide) (by decide) (by decide) (by decide)) (fun k _ _ => el k (by omega) (by omega) (by omega) (by omega)) h19) (t6c (fun o' o1 o2 => cl o' (by omega) (by omega) (by omega) (by omega) (by omega)) (el 36 (by decide) (by decide) (by decide) (by decide)) (fun k _ _ => el k (by omega) (by omega) (by omega) (by omega)) h20) (t7c (fun o' o1 o2 => cl o' (by omega) (by omega) (by omega) (by omega) (by omega)) (el 37 (by decide) (by decide) (by decide) (by decide)) (fun k _ _ => el k (by omega) (by omega) (by omega) (by omega)) h21)⟩ (fun o' ho => cl o' (by omega) (by omega) (by omega) (by omega) (by omega)) (fun p hp => by rw [cl _ (by omega) (by omega) (by omega) (by omega) (by omega)]; exact hG.2.1 p hp) (by rw [c6 90 (by decide), mf1 4 (by decide) (by decide)]; exact b4) (by rw [c6 90 (by decide), mf1 13 (by decide) (by decide)]; exact b5)
      rw [g38, z_eq (by decide) (by omega)] at hm2
      omega
