/-! The calls hurries, firm, alikes. -/
theorem GS_cell {σ σ' : ma_H} {S : Nat → Int32} {nd : Nat} {cs : List (Bool × Nat × List (Nat × Nat × Nat))} {wo : Int32} (a : ∀ o, o ≤ 32 → σ' o = σ o) (h : GS σ 1 S nd cs wo) : GS σ' 1 S nd cs wo := by
  obtain ⟨k1, k2, k3, k4, k5, k6⟩ := h
  exact ⟨k1, k2, k3, k4, k5, RWh_low (fun _ _ => rfl) (RWd_congr k1 (fun o g1 g2 => a o (by omega)) k6.1) (fun o ho => a o (by omega)) k6⟩
def dn : Nat → Int32
  | 0 => -1
  | k + 1 => nI k
theorem dn_dec (m : Nat) : nI m + (-1) = dn m := by
  cases m with
  | zero => rfl
  | succ k => rw [z_m1 (by omega)]; rfl
def ftF (g : Nat → Bool) : Nat → Int32 × Int32 → Int32 × Int32
  | 0, a => a
  | v + 1, a => ftF g v (if g v = true then (a.1 + nI 1, nI v) else a)
theorem ftF_congr {f g : Nat → Bool} : ∀ m a, (∀ i, i < m → f i = g i) → ftF f m a = ftF g m a := by
  intro m
  induction m with
  | zero => intro a h; rfl
  | succ m ih =>
    intro a h
    show ftF f m _ = ftF g m _
    rw [h m (by omega)]
    exact ih _ (fun i hi => h i (by omega))
theorem dn_lt (m : Nat) (hm : m < 2 ^ 31) : (dn m < nI 0) = (m = 0) := by
  cases m with
  | zero => simp only [eq_self_iff_true, eq_iff_iff, iff_true]; decide
  | succ k => rw [show dn (k + 1) = nI k from rfl, z_lt (by omega) (by decide)]; simp
theorem V152 {ro : ma_RO} {d : Nat} (σ : ma_H) (nd : Nat) (cs : List (Bool × Nat × List (Nat × Nat × Nat))) (wo : Int32) (hg : GS σ 1 (σ 91) nd cs wo) (sn mm : Nat) (hs : σ 91 35 = nI sn) (hsn : sn ≤ 5) (hm : σ 91 0 = nI mm) (hmm : mm ≤ 9999) (wh most : Nat) (hmo : most ≤ 99) (x : Int32) (hw : wh = 1 ∨ (15 ≤ wh ∧ wh < 21) ∨ (46 ≤ wh ∧ wh < 52)) :
    ∃ σ', ma_ev ro (d + 6) 152 [.ref 90, .int (nI wh), .int (nI most), .int x] SH σ = some (some (.int (if x = nI 0 then (ftF (fun v => alF (seenM cs (upS (σ 91) wh (nI v)) mm) 0 sn) (most + 1) (nI 0, -5)).1 else (ftF (fun v => alF (seenM cs (upS (σ 91) wh (nI v)) mm) 0 sn) (most + 1) (nI 0, -5)).2)), SH, σ') ∧ σ' 91 = σ 91 ∧ ∀ o, ¬ o = 91 → ¬ o = 93 → ¬ o = 94 → ¬ o = 95 → σ' o = σ o := by
  have H : ∀ m, m ≤ 100 → ∀ (s : ma_H) (a : Int32 × Int32) (v7 : Option Value), s 91 = σ 91 → (∀ o, ¬ o = 91 → ¬ o = 93 → ¬ o = 94 → ¬ o = 95 → s o = σ o) → ∃ σ', ma_rn ro (d + 6) 152 (10, [some (.ref 90), some (.int (nI wh)), some (.int (nI most)), some (.int x), some (.int a.1), some (.int a.2), some (.int (dn m)), v7], [], SH, s) = some (some (.int (if x = nI 0 then (ftF (fun v => alF (seenM cs (upS (σ 91) wh (nI v)) mm) 0 sn) m a).1 else (ftF (fun v => alF (seenM cs (upS (σ 91) wh (nI v)) mm) 0 sn) m a).2)), SH, σ') ∧ σ' 91 = σ 91 ∧ ∀ o, ¬ o = 91 → ¬ o = 93 → ¬ o = 94 → ¬ o = 95 → σ' o = σ o := by
    intro m
    induction m with
    | zero =>
      intro _ s a v7 e91 r
      refine ⟨s, ?_, e91, r⟩
      rw [Sh152_10]
      by_cases hx : x = nI 0
      · simp (disch := first | assumption | omega | exact zb_fit | exact hbf .. | (simp (disch := omega) only [up_no, up_nk, up_at, u_cp_no] <;> (first | assumption | omega)) | (simp only [hkF] <;> omega) | decide) only [S152, dn, m1_neg, hx, ftF, hkF, z_add, z_mul, up_at, up_no, up_nk, u_cp_no, ma_bd, ↓reduceIte, if_true, if_false, Option.toList, List.nil_append, List.cons_append]
      · simp (disch := first | assumption | omega | exact zb_fit | exact hbf .. | (simp (disch := omega) only [up_no, up_nk, up_at, u_cp_no] <;> (first | assumption | omega)) | (simp only [hkF] <;> omega) | decide) only [S152, dn, m1_neg, hx, ftF, hkF, z_add, z_mul, up_at, up_no, up_nk, u_cp_no, ma_bd, ↓reduceIte, if_true, if_false, Option.toList, List.nil_append, List.cons_append]
    | succ m ih =>
      intro hm1 s a v7 e91 r
      obtain ⟨s1, e151, q1, r1⟩ := V151 (ro := ro) (d := d) s nd cs wo (by rw [e91]; exact GS_cell (fun o ho => r o (by omega) (by omega) (by omega) (by omega)) hg) sn mm (by rw [e91]; exact hs) hsn (by rw [e91]; exact hm) hmm wh (nI m) hw
      rw [e91] at e151 q1
      have r1' : ∀ o, ¬ o = 91 → ¬ o = 93 → ¬ o = 94 → ¬ o = 95 → s1 o = σ o := fun o o1 o2 o3 o4 => (r1 o o1 o2 o3 o4).trans (r o o1 o2 o3 o4)
      by_cases hb : alF (seenM cs (upS (σ 91) wh (nI m)) mm) 0 sn = true
      · obtain ⟨s2, e2, q2, r2⟩ := ih (by omega) s1 (a.1 + nI 1, nI m) (some (.int (nI 1))) q1 r1'
        refine ⟨s2, ?_, q2, r2⟩
        rw [show ftF (fun v => alF (seenM cs (upS (σ 91) wh (nI v)) mm) 0 sn) (m + 1) a = ftF (fun v => alF (seenM cs (upS (σ 91) wh (nI v)) mm) 0 sn) m (a.1 + nI 1, nI m) from congrArg (ftF _ m) (if_pos hb), ← e2, Sh152_10]
        simp (disch := first | assumption | omega | exact zb_fit | exact hbf .. | (simp (disch := omega) only [up_no, up_nk, up_at, u_cp_no] <;> (first | assumption | omega)) | (simp only [hkF] <;> omega) | decide) only [S152, dn, z_lt, Nat.not_lt_zero, e151, zb_t hb, z_eq, Nat.reduceEqDiff, dn_dec, hkF, z_add, z_mul, up_at, up_no, up_nk, u_cp_no, ma_bd, ↓reduceIte, if_true, if_false, Option.toList, List.nil_append, List.cons_append]
      · obtain ⟨s2, e2, q2, r2⟩ := ih (by omega) s1 a (some (.int (nI 0))) q1 r1'
        refine ⟨s2, ?_, q2, r2⟩
        rw [show ftF (fun v => alF (seenM cs (upS (σ 91) wh (nI v)) mm) 0 sn) (m + 1) a = ftF (fun v => alF (seenM cs (upS (σ 91) wh (nI v)) mm) 0 sn) m a from congrArg (ftF _ m) (if_neg hb), ← e2, Sh152_10]
        simp (disch := first | assumption | omega | exact zb_fit | exact hbf .. | (simp (disch := omega) only [up_no, up_nk, up_at, u_cp_no] <;> (first | assumption | omega)) | (simp only [hkF] <;> omega) | decide) only [S152, dn, z_lt, Nat.not_lt_zero, e151, zb_f hb, z_eq, Nat.reduceEqDiff, dn_dec, z_a0, hkF, z_add, z_mul, up_at, up_no, up_nk, u_cp_no, ma_bd, ↓reduceIte, if_true, if_false, Option.toList, List.nil_append, List.cons_append]
  obtain ⟨σ', e, q, r⟩ := H (most + 1) (by omega) σ (nI 0, -5) none rfl (fun _ _ _ _ _ => rfl)
  refine ⟨σ', ?_, q, r⟩
  rw [← e]
  simp (disch := first | assumption | omega | exact zb_fit | exact hbf .. | (simp (disch := omega) only [up_no, up_nk, up_at, u_cp_no] <;> (first | assumption | omega)) | (simp only [hkF] <;> omega) | decide) only [E152, S152, dn, hkF, z_add, z_mul, up_at, up_no, up_nk, u_cp_no, ma_bd, ↓reduceIte, if_true, if_false, Option.toList, List.nil_append, List.cons_append]
theorem seen_eq (cs : List (Bool × Nat × List (Nat × Nat × Nat))) (S S' : Nat → Int32) (nd sn mm : Nat) (hn : nd ≤ 6) (h c v al : Int32) (hS1 : S' 1 = h) (hlo : ∀ k, 52 ≤ k → S' k = S k) (hD : ∀ q j, q < nd → j < 8 → modD c v al S q j = vD S' q j) (hq7 : q7 S nd) (hs : S 35 = nI sn) (hsn : sn ≤ 5) (k : Nat) (hk : k < sn) : seenX cs S mm h c v al k = seenM cs S' mm k := by
  obtain ⟨⟨q, hq, hq'⟩, ⟨mo, hmo, hmo'⟩, -⟩ := hq7 sn hsn hs k hk
  unfold seenX seenM
  rw [hlo (76 + k) (by omega), hlo (81 + k) (by omega), hlo (86 + k) (by omega), hq', clN_nI (by omega), hS1]
  rw [stpN_congr cs h mm (R := vR S q) (R' := vR S' q) (fun j hj => hD q j hq hj) (fun j hj => (hlo _ (by omega)).symm) (clN (S (81 + k))) 3 (by decide)]
theorem nI_m1 {q : Nat} (hq : q < 2 ^ 31) : ¬ nI q = -1 := by rw [z_ne1 hq]; exact id
theorem C73 {ro : ma_RO} {d : Nat} (σ : ma_H) (hG : G σ) (x : Int32) : ∃ r σ1 σ2, ma_ev ro (d + 8) 73 [.ref 0, .int x] SH σ = some (some (.int r), SH, σ1) ∧ ma_ev ro (d + 8) 153 [.ref 90, .int x] SH σ1 = some (some (.int r), SH, σ2) ∧ G σ2 := by
  obtain ⟨nd, cs, wo, hg⟩ := hG.1
  obtain ⟨h1, h2, h3, h4, h5, ⟨mm, h6, h6'⟩, h7, h8, h9, h10, h11, h12, h13, h14, h15, h16, h17, h18, ⟨sn, n1, n2, -⟩, h20, h21⟩ := GS_open hg
  by_cases h : x < nI 0 ∨ nI 1 < x
  · have e88 := V88t (ro := ro) (d := d + 7) σ h
    have e102 := V102f (ro := ro) (d := d + 7) σ h
    exact ⟨_, σ, σ, by simp (disch := first | assumption | omega | exact zb_fit | exact hbf .. | (simp (disch := omega) only [up_no, up_nk, up_at, u_cp_no] <;> (first | assumption | omega)) | (simp only [hkF] <;> omega) | decide) only [E73, S73, e88, z_eq, Nat.reduceEqDiff, hkF, z_add, z_mul, up_at, up_no, up_nk, u_cp_no, ma_bd, ↓reduceIte, if_true, if_false, Option.toList, List.nil_append, List.cons_append]; rfl, by simp (disch := first | assumption | omega | exact zb_fit | exact hbf .. | (simp (disch := omega) only [up_no, up_nk, up_at, u_cp_no] <;> (first | assumption | omega)) | (simp only [hkF] <;> omega) | decide) only [E153, S153, e102, z_eq, Nat.reduceEqDiff, hkF, z_add, z_mul, up_at, up_no, up_nk, u_cp_no, ma_bd, ↓reduceIte, if_true, if_false, Option.toList, List.nil_append, List.cons_append], hG⟩
  have e88 := V88f (ro := ro) (d := d + 7) σ h
  have f1 : ma_fitI .boolean (nI 1) = true := by decide
  have f0 : ma_fitI .boolean (nI 0) = true := by decide
  have H : ∀ m, m ≤ 100 → ∀ (s : ma_H) (a : Int32 × Int32), (∀ o, ¬ o = 84 → ¬ o = 85 → s o = σ o) → ∃ σ', ma_rn ro (d + 8) 73 (19, [some (.ref 0), some (.int x), some (.int a.1), some (.int a.2), some (.int (dn m))], [], SH, s) = some (some (.int (if x = nI 0 then (ftF (fun v => alF (seenX cs (σ 91) mm (nI v) (-1) (nI 0) (nI 0)) 0 sn) m a).1 else (ftF (fun v => alF (seenX cs (σ 91) mm (nI v) (-1) (nI 0) (nI 0)) 0 sn) m a).2)), SH, σ') ∧ ∀ o, ¬ o = 84 → ¬ o = 85 → σ' o = σ o := by
    intro m
    induction m with
    | zero =>
      intro _ s a r
      refine ⟨s, ?_, r⟩
      rw [Sh73_19]
      by_cases hx : x = nI 0
      · simp (disch := first | assumption | omega | exact zb_fit | exact hbf .. | (simp (disch := omega) only [up_no, up_nk, up_at, u_cp_no] <;> (first | assumption | omega)) | (simp only [hkF] <;> omega) | decide) only [S73, dn, m1_neg, hx, ftF, hkF, z_add, z_mul, up_at, up_no, up_nk, u_cp_no, ma_bd, ↓reduceIte, if_true, if_false, Option.toList, List.nil_append, List.cons_append]
      · simp (disch := first | assumption | omega | exact zb_fit | exact hbf .. | (simp (disch := omega) only [up_no, up_nk, up_at, u_cp_no] <;> (first | assumption | omega)) | (simp only [hkF] <;> omega) | decide) only [S73, dn, m1_neg, hx, ftF, hkF, z_add, z_mul, up_at, up_no, up_nk, u_cp_no, ma_bd, ↓reduceIte, if_true, if_false, Option.toList, List.nil_append, List.cons_append]
    | succ m ih =>
      intro hm1 s a r
      have e91 : s 91 = σ 91 := r 91 (by decide) (by decide)
      obtain ⟨s1, e94, r1⟩ := V94 (ro := ro) (d := d + 1) s nd cs wo (by rw [e91]; exact GS_cell (fun o ho => r o (by omega) (by omega)) hg) sn mm (by rw [e91]; exact n2) n1 (by rw [e91]; exact h6') h6 (nI m) (-1) (nI 0) (nI 0) (.inl ⟨0, by decide, rfl⟩)
      rw [e91] at e94
      have r1' : ∀ o, ¬ o = 84 → ¬ o = 85 → s1 o = σ o := fun o o1 o2 => (r1 o o1 o2).trans (r o o1 o2)
      by_cases hb : alF (seenX cs (σ 91) mm (nI m) (-1) (nI 0) (nI 0)) 0 sn = true
      · obtain ⟨s2, e2, r2⟩ := ih (by omega) s1 (a.1 + nI 1, nI m) r1'
        refine ⟨s2, ?_, r2⟩
        rw [show ftF (fun v => alF (seenX cs (σ 91) mm (nI v) (-1) (nI 0) (nI 0)) 0 sn) (m + 1) a = ftF (fun v => alF (seenX cs (σ 91) mm (nI v) (-1) (nI 0) (nI 0)) 0 sn) m (a.1 + nI 1, nI m) from congrArg (ftF _ m) (if_pos hb), ← e2, Sh73_19]
        simp (disch := first | assumption | omega | exact zb_fit | exact hbf .. | (simp (disch := omega) only [up_no, up_nk, up_at, u_cp_no] <;> (first | assumption | omega)) | (simp only [hkF] <;> omega) | decide) only [S73, dn, z_lt, Nat.not_lt_zero, e94, zb_t hb, z_eq, Nat.reduceEqDiff, dn_dec, hkF, z_add, z_mul, up_at, up_no, up_nk, u_cp_no, ma_bd, ↓reduceIte, if_true, if_false, Option.toList, List.nil_append, List.cons_append]
      · obtain ⟨s2, e2, r2⟩ := ih (by omega) s1 a r1'
        refine ⟨s2, ?_, r2⟩
        rw [show ftF (fun v => alF (seenX cs (σ 91) mm (nI v) (-1) (nI 0) (nI 0)) 0 sn) (m + 1) a = ftF (fun v => alF (seenX cs (σ 91) mm (nI v) (-1) (nI 0) (nI 0)) 0 sn) m a from congrArg (ftF _ m) (if_neg hb), ← e2, Sh73_19]
        simp (disch := first | assumption | omega | exact zb_fit | exact hbf .. | (simp (disch := omega) only [up_no, up_nk, up_at, u_cp_no] <;> (first | assumption | omega)) | (simp only [hkF] <;> omega) | decide) only [S73, dn, z_lt, Nat.not_lt_zero, e94, zb_f hb, z_eq, Nat.reduceEqDiff, dn_dec, hkF, z_add, z_mul, up_at, up_no, up_nk, u_cp_no, ma_bd, ↓reduceIte, if_true, if_false, Option.toList, List.nil_append, List.cons_append]
  obtain ⟨s1, e1, r1⟩ := H 21 (by decide) σ (nI 0, -5) (fun _ _ _ => rfl)
  have e91 : s1 91 = σ 91 := r1 91 (by decide) (by decide)
  have e102 := V102t (ro := ro) (d := d + 7) s1 h
  obtain ⟨s2, e152, q2, r2⟩ := V152 (ro := ro) (d := d + 1) s1 nd cs wo (by rw [e91]; exact GS_cell (fun o ho => r1 o (by omega) (by omega)) hg) sn mm (by rw [e91]; exact n2) n1 (by rw [e91]; exact h6') h6 1 20 (by decide) x (.inl rfl)
  rw [e91] at e152 q2
  have hgg : ∀ i, i < 21 → (fun v => alF (seenX cs (σ 91) mm (nI v) (-1) (nI 0) (nI 0)) 0 sn) i = (fun v => alF (seenM cs (upS (σ 91) 1 (nI v)) mm) 0 sn) i := by
    intro i _
    refine alF_congr sn 0 (fun k _ hk => ?_)
    refine seen_eq cs (σ 91) (upS (σ 91) 1 (nI i)) nd sn mm h1 (nI i) (-1) (nI 0) (nI 0) (upS_at) (fun k hk => upS_ne (by omega)) (fun q j hq hj => ?_) h11 n2 n1 k (by omega)
    rw [vD_hi2 _ _ _ _ _ (by decide)]
    unfold modD
    rw [if_neg (fun h => nI_m1 (by omega) h.1), if_neg (fun h => nI_m1 (by omega) h.1)]
  rw [ftF_congr 21 (nI 0, -5) hgg] at e1
  have E1 : ma_ev ro (d + 8) 73 [.ref 0, .int x] SH σ = ma_rn ro (d + 8) 73 (19, [some (.ref 0), some (.int x), some (.int (nI 0)), some (.int (-5)), some (.int (dn 21))], [], SH, σ) := by
    simp (disch := first | assumption | omega | exact zb_fit | exact hbf .. | (simp (disch := omega) only [up_no, up_nk, up_at, u_cp_no] <;> (first | assumption | omega)) | (simp only [hkF] <;> omega) | decide) only [E73, S73, e88, z_eq, Nat.reduceEqDiff, dn, hkF, z_add, z_mul, up_at, up_no, up_nk, u_cp_no, ma_bd, ↓reduceIte, if_true, if_false, Option.toList, List.nil_append, List.cons_append]
  refine ⟨_, s1, s2, E1.trans e1, ?_, ?_⟩
  · simp (disch := first | assumption | omega | exact zb_fit | exact hbf .. | (simp (disch := omega) only [up_no, up_nk, up_at, u_cp_no] <;> (first | assumption | omega)) | (simp only [hkF] <;> omega) | decide) only [E153, S153, e102, e152, z_eq, Nat.reduceEqDiff, hkF, z_add, z_mul, up_at, up_no, up_nk, u_cp_no, ma_bd, ↓reduceIte, if_true, if_false, Option.toList, List.nil_append, List.cons_append]
  · exact G_same hG (fun o ho => by
      by_cases h91 : o = 91
      · rw [h91]; exact q2
      · rw [r2 o h91 (by omega) (by omega) (by omega)]; exact r1 o (by omega) (by omega)) (by rw [r2 90 (by decide) (by decide) (by decide) (by decide), r1 90 (by decide) (by decide)]) (by rw [r2 90 (by decide) (by decide) (by decide) (by decide), r1 90 (by decide) (by decide)])
