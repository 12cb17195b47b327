/-! The call odds. -/
def cN (f : Nat → Nat) : Nat → Nat
  | 0 => 0
  | n + 1 => cN f n + f n
theorem cN_le {f : Nat → Nat} (h : ∀ i, f i ≤ 1) : ∀ k, cN f k ≤ k := by
  intro k
  induction k with
  | zero => exact Nat.le_refl _
  | succ k ih => have := h k; unfold cN; omega
theorem C76 {ro : ma_RO} {d : Nat} (σ : ma_H) (hG : G σ) (y n x : Int32) : ∃ r σ1 σ2, ma_ev ro (d + 8) 76 [.ref 0, .int y, .int n, .int x] SH σ = some (some (.long r), SH, σ1) ∧ ma_ev ro (d + 8) 157 [.ref 90, .int y, .int n, .int x] SH σ1 = some (some (.long r), SH, σ2) ∧ G σ2 := by
  obtain ⟨nd, cs, wo, hg⟩ := hG.1
  obtain ⟨h1, h2, h3, h4, h5, ⟨mm, h6, h6'⟩, h7, h8, h9, h10, h11, h12, h13, h14, h15, h16, h17, h18, h19, h20, h21⟩ := GS_open hg
  have kw := hkWh_1.2.1
  have w1 := h15.1
  rcases Or.symm (dcases y nd (by omega)) with hy | ⟨p, hp, rfl⟩
  · have e50 := V50n (ro := ro) (d := d + 7) σ 2 nd y kw w1 hy
    have e103 := V103n (ro := ro) (d := d + 6) σ y nd h1 h2 hy
    exact ⟨_, σ, σ, by simp (disch := first | assumption | omega | exact zb_fit | exact hbf .. | (simp (disch := omega) only [up_no, up_nk, up_at, u_cp_no] <;> (first | assumption | omega)) | (simp only [hkF] <;> omega) | decide) only [E76, S76, e50, hkF, z_add, z_mul, up_at, up_no, up_nk, u_cp_no, ma_bd, ↓reduceIte, if_true, if_false, Option.toList, List.nil_append, List.cons_append]; rfl, by simp (disch := first | assumption | omega | exact zb_fit | exact hbf .. | (simp (disch := omega) only [up_no, up_nk, up_at, u_cp_no] <;> (first | assumption | omega)) | (simp only [hkF] <;> omega) | decide) only [E157, S157, e103, z_eq, Nat.reduceEqDiff, hkF, z_add, z_mul, up_at, up_no, up_nk, u_cp_no, ma_bd, ↓reduceIte, if_true, if_false, Option.toList, List.nil_append, List.cons_append], hG⟩
  have e50 := V50 (ro := ro) (d := d + 7) σ 2 p nd kw w1 h1 hp
  have kd := kw.2.2.2 p (by omega)
  have kd1 := kd.1
  by_cases hn : n < nI 0 ∨ nI 60 < n
  · have e88 := V88t (ro := ro) (d := d + 7) σ hn
    have e102 := V102f (ro := ro) (d := d + 7) σ hn
    have e103 := V103p (ro := ro) (d := d + 6) σ p nd h1 h2 hp
    exact ⟨_, σ, σ, by simp (disch := first | assumption | omega | exact zb_fit | exact hbf .. | (simp (disch := omega) only [up_no, up_nk, up_at, u_cp_no] <;> (first | assumption | omega)) | (simp only [hkF] <;> omega) | decide) only [E76, S76, e50, e88, z_eq, Nat.reduceEqDiff, hkF, z_add, z_mul, up_at, up_no, up_nk, u_cp_no, ma_bd, ↓reduceIte, if_true, if_false, Option.toList, List.nil_append, List.cons_append]; rfl, by simp (disch := first | assumption | omega | exact zb_fit | exact hbf .. | (simp (disch := omega) only [up_no, up_nk, up_at, u_cp_no] <;> (first | assumption | omega)) | (simp only [hkF] <;> omega) | decide) only [E157, S157, e103, e102, z_eq, Nat.reduceEqDiff, hkF, z_add, z_mul, up_at, up_no, up_nk, u_cp_no, ma_bd, ↓reduceIte, if_true, if_false, Option.toList, List.nil_append, List.cons_append], hG⟩
  obtain ⟨m, hm, rfl⟩ := Rg_of (by decide) hn
  have e88n := V88f (ro := ro) (d := d + 7) σ hn
  by_cases hx : x < nI 0 ∨ nI 1 < x
  · have e88 := V88t (ro := ro) (d := d + 7) σ hx
    have e102 := V102f (ro := ro) (d := d + 7) σ hx
    have e102n := V102t (ro := ro) (d := d + 7) σ hn
    have e103 := V103p (ro := ro) (d := d + 6) σ p nd h1 h2 hp
    exact ⟨_, σ, σ, by simp (disch := first | assumption | omega | exact zb_fit | exact hbf .. | (simp (disch := omega) only [up_no, up_nk, up_at, u_cp_no] <;> (first | assumption | omega)) | (simp only [hkF] <;> omega) | decide) only [E76, S76, e50, e88n, e88, z_eq, Nat.reduceEqDiff, hkF, z_add, z_mul, up_at, up_no, up_nk, u_cp_no, ma_bd, ↓reduceIte, if_true, if_false, Option.toList, List.nil_append, List.cons_append]; rfl, by simp (disch := first | assumption | omega | exact zb_fit | exact hbf .. | (simp (disch := omega) only [up_no, up_nk, up_at, u_cp_no] <;> (first | assumption | omega)) | (simp only [hkF] <;> omega) | decide) only [E157, S157, e103, e102n, e102, z_eq, Nat.reduceEqDiff, hkF, z_add, z_mul, up_at, up_no, up_nk, u_cp_no, ma_bd, ↓reduceIte, if_true, if_false, Option.toList, List.nil_append, List.cons_append], hG⟩
  have e88 := V88f (ro := ro) (d := d + 7) σ hx
  obtain ⟨F, hF, hF1⟩ : ∃ F : Nat → Nat, (∀ h, stpN cs (nI h) mm (vR (σ 91) p) m (vD (σ 91) p) 3 = nI (F h)) ∧ ∀ h, F h ≤ 1 := by
    have hh : ∀ h, ∃ b, b ≤ 1 ∧ stpN cs (nI h) mm (vR (σ 91) p) m (vD (σ 91) p) 3 = nI b := fun h => stpN_3 cs (nI h) mm (vR (σ 91) p) (vD (σ 91) p) (h5 p hp) m
    exact ⟨fun h => Classical.choose (hh h), fun h => (Classical.choose_spec (hh h)).2, fun h => (Classical.choose_spec (hh h)).1⟩
  have dd := h15.2.2.2.2 p hp
  have k84 : hkDd 84 := ⟨rfl, rfl, rfl⟩
  have w3 : σ 2 3 = nI mm := h15.2.2.1.trans h6'
  have hbf : ∀ (x0 x1 x2 x3 x5 x6 : Option Value) (r : Nat), ma_bef [x0, x1, x2, x3, some (.ref r), x5, x6] 5 = false := fun _ _ _ _ _ _ _ => rfl
  obtain ⟨⟨l1, s1⟩, e1, hl, r1⟩ := ma_iter (fun z : ma_L × ma_H => ma_rn ro (d + 8) 76 (45, z.1, [], SH, z.2)) (fun k z => z.1 = [some (.ref 0), some (.int (nI p)), some (.int (nI m)), some (.int x), some (.ref (2 + 1 + 1 + 2 * p)), some (.int (nI (cN F k))), some (.int (nI k))] ∧ ∀ o, ¬ o = 84 → ¬ o = 85 → z.2 o = σ o) 21 (by
    rintro k hk ⟨l, s⟩ ⟨hl, r⟩
    simp only at hl r
    subst hl
    have ra : s (2 + 1 + 1 + 2 * p) = σ (1 + 1 + 1 + 1 + 2 * p) := r _ (by omega) (by omega)
    have rb : s (2 + 1 + 1 + 2 * p + 1) = σ (1 + 1 + 1 + 1 + 2 * p + 1) := r _ (by omega) (by omega)
    obtain ⟨s1, e8, a1, a2, r1⟩ := V8 (ro := ro) (d := d + 6) s 84 (2 + 1 + 1 + 2 * p) k84 kd (by omega) (by omega) (by omega) (by rw [ra]; rw [dd.1 3 (by decide)]; exact (h5 p hp).1)
    have z84 : ∀ j, j < 8 → s1 84 j = vD (σ 91) p j := fun j hj => by rw [a1 j hj, ra]; exact dd.1 j hj
    have z85 : ∀ j, j < 4 → s1 85 j = vR (σ 91) p j := fun j hj => by rw [show (85 : Nat) = 84 + 1 from rfl, a2 j hj, rb]; exact dd.2 j hj
    have r1' : ∀ o, ¬ o = 84 → ¬ o = 85 → s1 o = σ o := fun o o1 o2 => (r1 o o1 o2).trans (r o o1 o2)
    obtain ⟨s2, e93, q93, r93⟩ := V93 (ro := ro) (d := d + 2) s1 m mm (nI k) cs wo (HXr_congr (fun o o1 o2 => r1' o (by omega) (by omega)) h16) h3 (by omega) (by rw [r1' 2 (by decide) (by decide)]; exact w3) (IvD_congr z84 (h5 p hp))
    have y3 : s2 84 3 = nI (F k) := by rw [q93, stpN_congr cs (nI k) mm z84 z85 m 3 (by decide)]; exact hF k
    have hk21 : ¬ 20 < k := by omega
    refine ⟨([some (.ref 0), some (.int (nI p)), some (.int (nI m)), some (.int x), some (.ref (2 + 1 + 1 + 2 * p)), some (.int (nI (cN F (k + 1)))), some (.int (nI (k + 1)))], s2), ?_, rfl, fun o o1 o2 => (r93 o o1).trans (r1' o o1 o2)⟩
    simp only
    rw [show cN F (k + 1) = cN F k + F k from rfl, Sh76_45]
    have hb2 : F k = 0 ∨ F k = 1 := by have := hF1 k; omega
    rcases hb2 with hb | hb
    · rw [hb] at y3
      simp (disch := first | assumption | omega | exact zb_fit | exact hbf .. | (simp (disch := omega) only [up_no, up_nk, up_at, u_cp_no] <;> (first | assumption | omega)) | (simp only [hkF] <;> omega) | decide) only [S76, z_lt, hk21, e8, e93, y3, hb, z_eq, Nat.reduceEqDiff, Nat.add_zero, hkF, z_add, z_mul, up_at, up_no, up_nk, u_cp_no, ma_bd, ↓reduceIte, if_true, if_false, Option.toList, List.nil_append, List.cons_append]
    · rw [hb] at y3
      simp (disch := first | assumption | omega | exact zb_fit | exact hbf .. | (simp (disch := omega) only [up_no, up_nk, up_at, u_cp_no] <;> (first | assumption | omega)) | (simp only [hkF] <;> omega) | decide) only [S76, z_lt, hk21, e8, e93, y3, hb, z_eq, Nat.reduceEqDiff, hkF, z_add, z_mul, up_at, up_no, up_nk, u_cp_no, ma_bd, ↓reduceIte, if_true, if_false, Option.toList, List.nil_append, List.cons_append]) ([some (.ref 0), some (.int (nI p)), some (.int (nI m)), some (.int x), some (.ref (2 + 1 + 1 + 2 * p)), some (.int (nI 0)), some (.int (nI 0))], σ) ⟨rfl, fun _ _ _ => rfl⟩
  simp only at e1 hl r1
  subst hl
  have e91 : s1 91 = σ 91 := r1 91 (by decide) (by decide)
  have cF := cN_le hF1 21
  have hb4 : ∀ (x0 x1 x2 x3 x6 : Option Value) (r : Int64), ma_bef [x0, x1, x2, x3, some (.long r), none, x6] 6 = false := fun _ _ _ _ _ _ => rfl
  have p3 : 3 + p < 933 := by omega
  obtain ⟨⟨l2, s2⟩, e2, hl, q2, r2⟩ := ma_iter (fun z : ma_L × ma_H => ma_rn ro (d + 8) 157 (37, z.1, [], SH, z.2)) (fun k z => z.1 = [some (.ref 90), some (.int (nI p)), some (.int (nI m)), some (.int x), some (.long (nJ (cN F k))), none, some (.int (nI k))] ∧ z.2 91 = σ 91 ∧ ∀ o, ¬ o = 91 → ¬ o = 93 → ¬ o = 94 → ¬ o = 95 → z.2 o = s1 o) 21 (by
    rintro k hk ⟨l, s⟩ ⟨hl, e91', r⟩
    simp only at hl e91' r
    subst hl
    have e105 := V105 (ro := ro) (d := d + 7) s
    generalize hs1 : ma_up (u_cp s 93 91 33) 91 1 (nI k) = t1
    have t1_91 : t1 91 = upS (σ 91) 1 (nI k) := by rw [← hs1, up_S, u_cp_no (by decide), e91']
    have hS : ∀ j, ¬ j = 1 → upS (σ 91) 1 (nI k) j = σ 91 j := fun j hj => upS_ne hj
    obtain ⟨t2, e141, q141, r141⟩ := V141 (ro := ro) (d := d + 3) t1 cs wo (by rw [t1_91]; exact HMr_c2 (hS 39 (by decide)) (fun k hk => hS k (by omega)) h4) h3 p mm m (by omega) (by omega) (by rw [t1_91, hS 0 (by decide)]; exact h6')
    rw [t1_91] at q141
    have hhi := stO_hi cs mm p (by omega) (upS (σ 91) 1 (nI k)) m
    have y3 : t2 91 (3 + p) = nI (F k) := by
      rw [q141]
      refine (stO_D cs mm p (by omega) (upS (σ 91) 1 (nI k)) m 3 (by decide)).trans ?_
      rw [upS_at, stpN_congr cs (nI k) mm (R := vR (upS (σ 91) 1 (nI k)) p) (D := vD (upS (σ 91) 1 (nI k)) p) (R' := vR (σ 91) p) (D' := vD (σ 91) p) (fun j _ => vD_hi2 (σ 91) 1 (nI k) p j (by decide)) (fun j _ => hS (52 + 4 * p + j) (by omega)) m 3 (by decide)]
      exact hF k
    have e106 := V106 (ro := ro) (d := d + 7) t2
    have b91 : u_cp t2 91 93 33 91 = σ 91 := back91 t2 (fun j hj => by rw [q141, hhi j hj]; exact hS j (by omega)) (fun j hj => by rw [r141 93 (by decide) (by decide) (by decide), ← hs1, up_no (by decide), kept93 _ _ hj, e91'])
    have hk21 : ¬ 20 < k := by omega
    have ej := @j_of (F k) (by have := hF1 k; omega)
    refine ⟨([some (.ref 90), some (.int (nI p)), some (.int (nI m)), some (.int x), some (.long (nJ (cN F (k + 1)))), none, some (.int (nI (k + 1)))], u_cp t2 91 93 33), ?_, rfl, b91, fun o o1 o2 o3 o4 => ?_⟩
    · simp only
      rw [show cN F (k + 1) = cN F k + F k from rfl, Sh157_37]
      have hbf : ∀ (x0 x1 x2 x3 x6 : Option Value) (r : Int64), ma_bef [x0, x1, x2, x3, some (.long r), none, x6] 6 = false := fun _ _ _ _ _ _ => rfl
      simp (disch := first | assumption | omega | exact zb_fit | exact hbf .. | (simp (disch := omega) only [up_no, up_nk, up_at, u_cp_no] <;> (first | assumption | omega)) | (simp only [hkF] <;> omega) | decide) only [S157, z_lt, hk21, e105, hs1, e141, y3, ej, j_add, e106, hkF, z_add, z_mul, up_at, up_no, up_nk, u_cp_no, ma_bd, ↓reduceIte, if_true, if_false, Option.toList, List.nil_append, List.cons_append]
    · show u_cp t2 91 93 33 o = s1 o
      rw [u_cp_no o1, r141 o o1 o3 o4, ← hs1, up_no o1, u_cp_no o2]; exact r o o1 o2 o3 o4) ([some (.ref 90), some (.int (nI p)), some (.int (nI m)), some (.int x), some (.long (nJ 0)), none, some (.int (nI 0))], s1) ⟨rfl, e91, fun _ _ _ _ _ => rfl⟩
  simp only at e2 hl q2 r2
  subst hl
  have j1 := @j_of (cN F 21) (by omega)
  have j21 : (21 : Int64) = nJ 21 := by decide
  have eX := X92 (ro := ro) (d := d + 7) s1 (cN F 21) 21 x (by omega) (by omega) (by omega)
  have eM := M156 (ro := ro) (d := d + 7) s2 (cN F 21) 21 x (by omega) (by omega) (by omega)
  have e103 := V103p (ro := ro) (d := d + 6) s1 p nd h1 (by rw [e91]; exact h2) hp
  have e102n := V102t (ro := ro) (d := d + 7) s1 hn
  have e102 := V102t (ro := ro) (d := d + 7) s1 hx
  refine ⟨if x = nI 0 then nJ (cN F 21) / nJ (Nat.gcd 21 (cN F 21)) else nJ 21 / nJ (Nat.gcd 21 (cN F 21)), s1, s2, ?_, ?_, ?_⟩
  · refine Eq.trans (?_ : _ = ma_rn ro (d + 8) 76 (45, [some (.ref 0), some (.int (nI p)), some (.int (nI m)), some (.int x), some (.ref (2 + 1 + 1 + 2 * p)), some (.int (nI 0)), some (.int (nI 0))], [], SH, σ)) ?_
    · simp (disch := first | assumption | omega | exact zb_fit | exact hbf .. | (simp (disch := omega) only [up_no, up_nk, up_at, u_cp_no] <;> (first | assumption | omega)) | (simp only [hkF] <;> omega) | decide) only [E76, S76, e50, e88n, e88, z_eq, Nat.reduceEqDiff, hkF, z_add, z_mul, up_at, up_no, up_nk, u_cp_no, ma_bd, ↓reduceIte, if_true, if_false, Option.toList, List.nil_append, List.cons_append]
    · refine Eq.trans e1 ?_
      rw [Sh76_45]
      simp (disch := first | assumption | omega | exact zb_fit | exact hbf .. | (simp (disch := omega) only [up_no, up_nk, up_at, u_cp_no] <;> (first | assumption | omega)) | (simp only [hkF] <;> omega) | decide) only [S76, z_lt, Nat.reduceLT, j1, j21, eX, hkF, z_add, z_mul, up_at, up_no, up_nk, u_cp_no, ma_bd, ↓reduceIte, if_true, if_false, Option.toList, List.nil_append, List.cons_append]
  · refine Eq.trans (?_ : _ = ma_rn ro (d + 8) 157 (37, [some (.ref 90), some (.int (nI p)), some (.int (nI m)), some (.int x), some (.long (nJ 0)), none, some (.int (nI 0))], [], SH, s1)) ?_
    · have hbf : ∀ (x0 x1 x2 x3 x6 : Option Value) (r : Int64), ma_bef [x0, x1, x2, x3, some (.long r), none, x6] 6 = false := fun _ _ _ _ _ _ => rfl
      have hb4 : ma_bef [some (Value.ref 90), some (Value.int (nI p)), some (Value.int (nI m)), some (Value.int x), none, none, none] 4 = false := rfl
      simp (disch := first | assumption | omega | exact zb_fit | exact hbf .. | (simp (disch := omega) only [up_no, up_nk, up_at, u_cp_no] <;> (first | assumption | omega)) | (simp only [hkF] <;> omega) | decide) only [E157, S157, e103, e102n, e102, z_eq, Nat.reduceEqDiff, hkF, z_add, z_mul, up_at, up_no, up_nk, u_cp_no, ma_bd, ↓reduceIte, if_true, if_false, Option.toList, List.nil_append, List.cons_append]
      rfl
    · refine Eq.trans e2 ?_
      rw [Sh157_37]
      simp (disch := first | assumption | omega | exact zb_fit | exact hbf .. | (simp (disch := omega) only [up_no, up_nk, up_at, u_cp_no] <;> (first | assumption | omega)) | (simp only [hkF] <;> omega) | decide) only [S157, z_lt, Nat.reduceLT, j21, eM, hkF, z_add, z_mul, up_at, up_no, up_nk, u_cp_no, ma_bd, ↓reduceIte, if_true, if_false, Option.toList, List.nil_append, List.cons_append]
  · exact G_same hG (fun o ho => by
      by_cases h91 : o = 91
      · rw [h91]; exact q2
      · rw [r2 o h91 (by omega) (by omega) (by omega)]; exact r1 o (by omega) (by omega)) (by rw [r2 90 (by decide) (by decide) (by decide) (by decide), r1 90 (by decide) (by decide)]) (by rw [r2 90 (by decide) (by decide) (by decide) (by decide), r1 90 (by decide) (by decide)])
