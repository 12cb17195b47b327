/-! The call alikes. -/
def bF (g : Nat → Bool) : Nat → Int32
  | 0 => nI 0
  | n + 1 => if g n = true then bF g n ||| (nI 1 <<< (nI n &&& 31)) else bF g n
theorem bF_congr {f g : Nat → Bool} : ∀ m, (∀ i, i < m → f i = g i) → bF f m = bF g m := by
  intro m
  induction m with
  | zero => intro h; rfl
  | succ m ih =>
    intro h
    unfold bF
    rw [h m (by omega), ih (fun i hi => h i (by omega))]
theorem C75 {ro : ma_RO} {d : Nat} (σ : ma_H) (hG : G σ) (y : Int32) : ∃ r σ1 σ2, ma_ev ro (d + 8) 75 [.ref 0, .int y] SH σ = some (some (.int r), SH, σ1) ∧ ma_ev ro (d + 8) 155 [.ref 90, .int y] SH σ1 = some (some (.int r), SH, σ2) ∧ G σ2 := by
  obtain ⟨nd, cs, wo, hg⟩ := hG.1
  obtain ⟨h1, h2, h3, h4, h5, ⟨mm, h6, h6'⟩, h7, h8, h9, h10, h11, h12, h13, h14, h15, h16, h17, h18, ⟨sn, n1, n2, -⟩, h20, h21⟩ := GS_open hg
  have kw := hkWh_1.2.1
  have w1 := h15.1
  rcases Or.symm (dcases y nd (by omega)) with hy | ⟨p, hp, rfl⟩
  · have e50 := V50n (ro := ro) (d := d + 7) σ 2 nd y kw w1 hy
    have e103 := V103n (ro := ro) (d := d + 6) σ y nd h1 h2 hy
    exact ⟨_, σ, σ, by simp (disch := first | assumption | omega | exact zb_fit | exact hbf .. | (simp (disch := omega) only [up_no, up_nk, up_at, u_cp_no] <;> (first | assumption | omega)) | (simp only [hkF] <;> omega) | decide) only [E75, S75, e50, hkF, z_add, z_mul, up_at, up_no, up_nk, u_cp_no, ma_bd, ↓reduceIte, if_true, if_false, Option.toList, List.nil_append, List.cons_append]; rfl, by simp (disch := first | assumption | omega | exact zb_fit | exact hbf .. | (simp (disch := omega) only [up_no, up_nk, up_at, u_cp_no] <;> (first | assumption | omega)) | (simp only [hkF] <;> omega) | decide) only [E155, S155, e103, z_eq, Nat.reduceEqDiff, hkF, z_add, z_mul, up_at, up_no, up_nk, u_cp_no, ma_bd, ↓reduceIte, if_true, if_false, Option.toList, List.nil_append, List.cons_append], hG⟩
  have e50 := V50 (ro := ro) (d := d + 7) σ 2 p nd kw w1 h1 hp
  have kd := kw.2.2.2 p (by omega)
  have kd1 := kd.1
  have d2 : σ (2 + 1 + 1 + 2 * p) 2 = σ 91 (46 + p) := (h15.2.2.2.2 p hp).1 2 (by decide)
  have w2 : σ 2 2 = σ 91 1 := h15.2.1
  have hbf : ∀ (x0 x1 x3 x4 : Option Value) (r : Nat), ma_bef [x0, x1, some (.ref r), x3, x4] 3 = false := fun _ _ _ _ _ => rfl
  obtain ⟨⟨l1, s1⟩, e1, hl, r1⟩ := ma_iter (fun x : ma_L × ma_H => ma_rn ro (d + 8) 75 (23, x.1, [], SH, x.2)) (fun k x => x.1 = [some (.ref 0), some (.int (nI p)), some (.ref (2 + 1 + 1 + 2 * p)), some (.int (bF (fun t => alF (seenX cs (σ 91) mm (σ 91 1) (nI p) (σ 91 (46 + p)) (nI (10 * t))) 0 sn) k)), some (.int (nI k))] ∧ ∀ o, ¬ o = 84 → ¬ o = 85 → x.2 o = σ o) 10 (by
    rintro k hk ⟨l, s⟩ ⟨hl, r⟩
    simp only at hl r
    subst hl
    have e91 : s 91 = σ 91 := r 91 (by decide) (by decide)
    obtain ⟨s1, e94, r1⟩ := V94 (ro := ro) (d := d + 1) s nd cs wo (by rw [e91]; exact GS_cell (fun o ho => r o (by omega) (by omega)) hg) sn mm (by rw [e91]; exact n2) n1 (by rw [e91]; exact h6') h6 (σ 91 1) (nI p) (σ 91 (46 + p)) (nI (10 * k)) (.inl ⟨10 * k, by omega, rfl⟩)
    rw [e91] at e94
    have y5 : s (2 + 1 + 1 + 2 * p) 2 = σ 91 (46 + p) := by rw [r _ (by omega) (by omega)]; exact d2
    have y2 : s 2 2 = σ 91 1 := by rw [r 2 (by decide) (by decide)]; exact w2
    have hk9 : ¬ 9 < k := by omega
    refine ⟨([some (.ref 0), some (.int (nI p)), some (.ref (2 + 1 + 1 + 2 * p)), some (.int (bF (fun t => alF (seenX cs (σ 91) mm (σ 91 1) (nI p) (σ 91 (46 + p)) (nI (10 * t))) 0 sn) (k + 1))), some (.int (nI (k + 1)))], s1), ?_, rfl, fun o o1 o2 => (r1 o o1 o2).trans (r o o1 o2)⟩
    simp only
    rw [Sh75_23]
    by_cases hb : alF (seenX cs (σ 91) mm (σ 91 1) (nI p) (σ 91 (46 + p)) (nI (10 * k))) 0 sn = true
    · rw [show bF (fun t => alF (seenX cs (σ 91) mm (σ 91 1) (nI p) (σ 91 (46 + p)) (nI (10 * t))) 0 sn) (k + 1) = _ from if_pos hb]
      simp (disch := first | assumption | omega | exact zb_fit | exact hbf .. | (simp (disch := omega) only [up_no, up_nk, up_at, u_cp_no] <;> (first | assumption | omega)) | (simp only [hkF] <;> omega) | decide) only [S75, z_lt, hk9, y5, y2, e94, zb_t hb, z_eq, Nat.reduceEqDiff, hkF, z_add, z_mul, up_at, up_no, up_nk, u_cp_no, ma_bd, ↓reduceIte, if_true, if_false, Option.toList, List.nil_append, List.cons_append]
    · rw [show bF (fun t => alF (seenX cs (σ 91) mm (σ 91 1) (nI p) (σ 91 (46 + p)) (nI (10 * t))) 0 sn) (k + 1) = _ from if_neg hb]
      simp (disch := first | assumption | omega | exact zb_fit | exact hbf .. | (simp (disch := omega) only [up_no, up_nk, up_at, u_cp_no] <;> (first | assumption | omega)) | (simp only [hkF] <;> omega) | decide) only [S75, z_lt, hk9, y5, y2, e94, zb_f hb, z_eq, Nat.reduceEqDiff, hkF, z_add, z_mul, up_at, up_no, up_nk, u_cp_no, ma_bd, ↓reduceIte, if_true, if_false, Option.toList, List.nil_append, List.cons_append]) ([some (.ref 0), some (.int (nI p)), some (.ref (2 + 1 + 1 + 2 * p)), some (.int (nI 0)), some (.int (nI 0))], σ) ⟨rfl, fun _ _ _ => rfl⟩
  simp only at e1 hl r1
  subst hl
  have e91 : s1 91 = σ 91 := r1 91 (by decide) (by decide)
  obtain ⟨⟨l2, s2⟩, e2, hl, q2, r2⟩ := ma_iter (fun x : ma_L × ma_H => ma_rn ro (d + 8) 155 (14, x.1, [], SH, x.2)) (fun k x => x.1 = [some (.ref 90), some (.int (nI p)), some (.int (bF (fun t => alF (seenM cs (upS (σ 91) (15 + p) (nI (10 * t))) mm) 0 sn) k)), some (.int (nI k))] ∧ x.2 91 = σ 91 ∧ ∀ o, ¬ o = 91 → ¬ o = 93 → ¬ o = 94 → ¬ o = 95 → x.2 o = s1 o) 10 (by
    rintro k hk ⟨l, s⟩ ⟨hl, e91', r⟩
    simp only at hl e91' r
    subst hl
    obtain ⟨s2, e151, q2, r2⟩ := V151 (ro := ro) (d := d + 2) s nd cs wo (by rw [e91']; exact GS_cell (fun o ho => by rw [r o (by omega) (by omega) (by omega) (by omega)]; exact r1 o (by omega) (by omega)) hg) sn mm (by rw [e91']; exact n2) n1 (by rw [e91']; exact h6') h6 (15 + p) (nI (10 * k)) (by omega)
    rw [e91'] at e151 q2
    have hk9 : k < 10 := hk
    refine ⟨([some (.ref 90), some (.int (nI p)), some (.int (bF (fun t => alF (seenM cs (upS (σ 91) (15 + p) (nI (10 * t))) mm) 0 sn) (k + 1))), some (.int (nI (k + 1)))], s2), ?_, rfl, q2, fun o o1 o2 o3 o4 => (r2 o o1 o2 o3 o4).trans (r o o1 o2 o3 o4)⟩
    simp only
    rw [Sh155_14]
    by_cases hb : alF (seenM cs (upS (σ 91) (15 + p) (nI (10 * k))) mm) 0 sn = true
    · rw [show bF (fun t => alF (seenM cs (upS (σ 91) (15 + p) (nI (10 * t))) mm) 0 sn) (k + 1) = _ from if_pos hb]
      simp (disch := first | assumption | omega | exact zb_fit | exact hbf .. | (simp (disch := omega) only [up_no, up_nk, up_at, u_cp_no] <;> (first | assumption | omega)) | (simp only [hkF] <;> omega) | decide) only [S155, z_lt, hk9, e151, zb_t hb, z_eq, Nat.reduceEqDiff, hkF, z_add, z_mul, up_at, up_no, up_nk, u_cp_no, ma_bd, ↓reduceIte, if_true, if_false, Option.toList, List.nil_append, List.cons_append]
    · rw [show bF (fun t => alF (seenM cs (upS (σ 91) (15 + p) (nI (10 * t))) mm) 0 sn) (k + 1) = _ from if_neg hb]
      simp (disch := first | assumption | omega | exact zb_fit | exact hbf .. | (simp (disch := omega) only [up_no, up_nk, up_at, u_cp_no] <;> (first | assumption | omega)) | (simp only [hkF] <;> omega) | decide) only [S155, z_lt, hk9, e151, zb_f hb, z_eq, Nat.reduceEqDiff, or_0, hkF, z_add, z_mul, up_at, up_no, up_nk, u_cp_no, ma_bd, ↓reduceIte, if_true, if_false, Option.toList, List.nil_append, List.cons_append]) ([some (.ref 90), some (.int (nI p)), some (.int (nI 0)), some (.int (nI 0))], s1) ⟨rfl, e91, fun _ _ _ _ _ => rfl⟩
  simp only at e2 hl q2 r2
  subst hl
  have hgg : ∀ i, i < 10 → (fun t => alF (seenX cs (σ 91) mm (σ 91 1) (nI p) (σ 91 (46 + p)) (nI (10 * t))) 0 sn) i = (fun t => alF (seenM cs (upS (σ 91) (15 + p) (nI (10 * t))) mm) 0 sn) i := by
    intro i _
    refine alF_congr sn 0 (fun k _ hk => ?_)
    refine seen_eq cs (σ 91) (upS (σ 91) (15 + p) (nI (10 * i))) nd sn mm h1 (σ 91 1) (nI p) (σ 91 (46 + p)) (nI (10 * i)) (upS_ne (by omega)) (fun k hk => upS_ne (by omega)) (fun q j hq hj => ?_) h11 n2 n1 k (by omega)
    rw [vD_u15 (show p < 6 by omega) (by omega)]
    unfold modD
    by_cases hqp : q = p
    · subst hqp
      by_cases j5 : j = 5
      · subst j5; simp
      · by_cases j2 : j = 2
        · subst j2; simp [vD]
        · simp [j2, j5]
    · have : ¬ nI q = nI p := by rw [z_eq (by omega) (by omega)]; exact hqp
      rw [if_neg (fun h => this h.1), if_neg (fun h => this h.1), if_neg (fun h => hqp h.1)]
  rw [bF_congr 10 hgg] at e1
  have e103 := V103p (ro := ro) (d := d + 6) s1 p nd h1 (by rw [e91]; exact h2) hp
  have F1 : ma_rn ro (d + 8) 75 (23, [some (.ref 0), some (.int (nI p)), some (.ref (2 + 1 + 1 + 2 * p)), some (.int (bF (fun t => alF (seenM cs (upS (σ 91) (15 + p) (nI (10 * t))) mm) 0 sn) 10)), some (.int (nI 10))], [], SH, s1) = some (some (.int (bF (fun t => alF (seenM cs (upS (σ 91) (15 + p) (nI (10 * t))) mm) 0 sn) 10)), SH, s1) := by
    rw [Sh75_23]
    simp (disch := first | assumption | omega | exact zb_fit | exact hbf .. | (simp (disch := omega) only [up_no, up_nk, up_at, u_cp_no] <;> (first | assumption | omega)) | (simp only [hkF] <;> omega) | decide) only [S75, z_lt, Nat.reduceLT, hkF, z_add, z_mul, up_at, up_no, up_nk, u_cp_no, ma_bd, ↓reduceIte, if_true, if_false, Option.toList, List.nil_append, List.cons_append]
  have F2 : ma_rn ro (d + 8) 155 (14, [some (.ref 90), some (.int (nI p)), some (.int (bF (fun t => alF (seenM cs (upS (σ 91) (15 + p) (nI (10 * t))) mm) 0 sn) 10)), some (.int (nI 10))], [], SH, s2) = some (some (.int (bF (fun t => alF (seenM cs (upS (σ 91) (15 + p) (nI (10 * t))) mm) 0 sn) 10)), SH, s2) := by
    rw [Sh155_14]
    simp (disch := first | assumption | omega | exact zb_fit | exact hbf .. | (simp (disch := omega) only [up_no, up_nk, up_at, u_cp_no] <;> (first | assumption | omega)) | (simp only [hkF] <;> omega) | decide) only [S155, z_lt, Nat.reduceLT, hkF, z_add, z_mul, up_at, up_no, up_nk, u_cp_no, ma_bd, ↓reduceIte, if_true, if_false, Option.toList, List.nil_append, List.cons_append]
  refine ⟨bF (fun t => alF (seenM cs (upS (σ 91) (15 + p) (nI (10 * t))) mm) 0 sn) 10, s1, s2, ?_, ?_, ?_⟩
  · refine Eq.trans ?_ (e1.trans F1)
    simp (disch := first | assumption | omega | exact zb_fit | exact hbf .. | (simp (disch := omega) only [up_no, up_nk, up_at, u_cp_no] <;> (first | assumption | omega)) | (simp only [hkF] <;> omega) | decide) only [E75, S75, e50, hkF, z_add, z_mul, up_at, up_no, up_nk, u_cp_no, ma_bd, ↓reduceIte, if_true, if_false, Option.toList, List.nil_append, List.cons_append]
  · refine Eq.trans ?_ (e2.trans F2)
    simp (disch := first | assumption | omega | exact zb_fit | exact hbf .. | (simp (disch := omega) only [up_no, up_nk, up_at, u_cp_no] <;> (first | assumption | omega)) | (simp only [hkF] <;> omega) | decide) only [E155, S155, e103, z_eq, Nat.reduceEqDiff, hkF, z_add, z_mul, up_at, up_no, up_nk, u_cp_no, ma_bd, ↓reduceIte, if_true, if_false, Option.toList, List.nil_append, List.cons_append]
  · exact G_same hG (fun o ho => by
      by_cases h91 : o = 91
      · rw [h91]; exact q2
      · rw [r2 o h91 (by omega) (by omega) (by omega)]; exact r1 o (by omega) (by omega)) (by rw [r2 90 (by decide) (by decide) (by decide) (by decide), r1 90 (by decide) (by decide)]) (by rw [r2 90 (by decide) (by decide) (by decide) (by decide), r1 90 (by decide) (by decide)])
